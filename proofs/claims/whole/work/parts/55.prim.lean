/-! reading one thing: the class -/
def sTE : Rf → Nat → Bool := fun r _ => Nat.beq r.1 4
theorem sTk_TE {h h2 : HD} (hF : Fr sTk h h2) : Fr sTE h h2 := hF.mono fun r k q => by
  unfold sTE at q
  unfold sTk
  rw [q]; rfl
theorem sEr_TE {h h2 : HD} (hF : Fr sEr h h2) : Fr sTE h h2 := hF.mono fun r k q => by
  unfold sTE at q
  unfold sEr
  rw [q]; rfl
/-- the class stands at token t of the text -/
def CT (h : HD) (len : Int) (bs : Int → Int) (t : Tok) : Prop := BfC 0 h len bs ∧ len ≤ 400 ∧ TkC h t ∧ 0 ≤ t.2.2.1 ∧ t.2.2.1 ≤ len
def nx (len : Int) (bs : Int → Int) (t : Tok) : Tok := tok len bs t.2.2.1
section
variable {h : HD} {len : Int} {bs : Int → Int} {t : Tok}
theorem CT.fr {S : Rf → Nat → Bool} {h2 : HD} (hC : CT h len bs t) (hF : Fr S h h2) (s1 : S (0, 0, 0) 1 = false) (s2 : ∀ k, S (0, 0, 1) k = false) (s3 : ∀ k, k ≤ 6 → S (4, 0, 0) k = false) : CT h2 len bs t := by
  obtain ⟨b, l, a, c, d⟩ := hC
  exact ⟨b.fr hF s1 s2, l, ⟨(hF.1 _ _ (s3 _ (by decide))).trans a.1, (hF.1 _ _ (s3 _ (by decide))).trans a.2.1, (hF.1 _ _ (s3 _ (by decide))).trans a.2.2.1, fun e => (hF.2.1 _ _ (s3 _ (by decide))).trans (a.2.2.2.1 e), fun e => (hF.1 _ _ (s3 _ (by decide))).trans (a.2.2.2.2.1 e), fun e => (hF.1 _ _ (s3 _ (by decide))).trans (a.2.2.2.2.2 e)⟩, c, d⟩
theorem nx_ok (hC : CT h len bs t) : TkOk (nx len bs t) ∧ 0 ≤ (nx len bs t).2.1 ∧ (nx len bs t).2.1 ≤ len ∧ 0 ≤ (nx len bs t).2.2.1 ∧ (nx len bs t).2.2.1 ≤ len := by
  have := tok_ok (bs := bs) hC.2.2.2.2
  have h0 := hC.2.2.2.1
  unfold nx
  exact ⟨this.1, by omega, by omega, by omega, by omega⟩
theorem c_adv (hC : CT h len bs t) : ∃ g, jX6_advance h = some g ∧ Fr sTE h g ∧ CT g len bs (nx len bs t) ∧ gI g (4, 0, 0) 7 = gI h (4, 0, 0) 7 ∧ gI g (4, 0, 0) 8 = gI h (4, 0, 0) 8 := by
  obtain ⟨g, e, f, k⟩ := x6_advance hC.1 hC.2.1 hC.2.2.2.1 hC.2.2.2.2 hC.2.2.1.2.2.1
  have hn := nx_ok hC
  exact ⟨g, e, sTk_TE f, ⟨hC.1.fr f rfl (fun _ => rfl), hC.2.1, k, hn.2.2.2.1, hn.2.2.2.2⟩, f.1 _ _ rfl, f.1 _ _ rfl⟩
theorem c_number (hC : CT h len bs t) {a b : Int} (a0 : 0 ≤ a) (a1 : a ≤ 1000) (b0 : 0 ≤ b) (b1 : b ≤ 1000) : (((nx len bs t).1 = 2 ∧ a ≤ (nx len bs t).2.2.2.2 ∧ (nx len bs t).2.2.2.2 ≤ b) → ∃ g, jX6_readNumber (iZ a) (iZ b) h = some (true, g) ∧ Fr sTE h g ∧ CT g len bs (nx len bs t) ∧ gI g (4, 0, 0) 5 = iZ (nx len bs t).2.2.2.2 ∧ gI g (4, 0, 0) 7 = gI h (4, 0, 0) 7 ∧ gI g (4, 0, 0) 8 = gI h (4, 0, 0) 8) ∧ (¬ ((nx len bs t).1 = 2 ∧ a ≤ (nx len bs t).2.2.2.2 ∧ (nx len bs t).2.2.2.2 ≤ b) → ∃ g, jX6_readNumber (iZ a) (iZ b) h = some (false, g) ∧ Fr sTE h g ∧ ErC g (if (nx len bs t).1 = 2 then 2 else 1) (nx len bs t).2.1) := by
  obtain ⟨g, e, f, k, e7, e8⟩ := c_adv hC
  have hn := nx_ok hC
  obtain ⟨u, hu⟩ : ∃ u, nx len bs t = u := ⟨_, rfl⟩
  rw [hu] at k hn ⊢
  have h4 := hn.1.2.2.2
  unfold jX6_readNumber
  rw [e, Option.bind_some, k.2.2.1.1, i2]
  by_cases q : u.1 = 2
  · have hv := hn.1.2.1 q
    have v5 := k.2.2.1.2.2.2.2.1 q
    rw [if_pos (by rw [q]), v5]
    obtain ⟨g2, e2, f2, r2⟩ := x6_fail k.2.2.1 2
    refine ⟨fun c => ⟨g, ?_, f, k, v5, e7, e8⟩, fun c => ⟨g2, ?_, f.tr (sEr_TE f2), by rw [if_pos q]; exact r2⟩⟩
    · rw [if_neg (lt_n (by omega) (by omega) (by omega)), if_pos (le_y (by omega) (by omega) (by omega))]
    · rw [e2, Option.bind_some]
      by_cases q2 : u.2.2.2.2 < a
      · rw [if_pos (lt_y (by omega) (by omega) (by omega)), if_neg Bool.false_ne_true]
      · rw [if_neg (lt_n (by omega) (by omega) (by omega)), if_neg (le_n (by omega) (by omega) (by omega)), if_neg Bool.false_ne_true]
  · rw [if_neg (eq_n (b := 2) (by omega) (by omega) (by omega) (by omega) (by omega))]
    obtain ⟨g2, e2, f2, r2⟩ := x6_fail k.2.2.1 1
    refine ⟨fun c => absurd c.1 q, fun c => ⟨g2, ?_, f.tr (sEr_TE f2), by rw [if_neg q]; exact r2⟩⟩
    rw [i1, e2]
    rfl
theorem c_mark (hC : CT h len bs t) {c : Int} (c0 : 0 ≤ c) (c1 : c ≤ 1000) : (((nx len bs t).1 = 3 ∧ (nx len bs t).2.2.2.2 = c) → ∃ g, jX6_readMark (iZ c) h = some (true, g) ∧ Fr sTE h g ∧ CT g len bs (nx len bs t) ∧ gI g (4, 0, 0) 7 = gI h (4, 0, 0) 7 ∧ gI g (4, 0, 0) 8 = gI h (4, 0, 0) 8) ∧ (¬ ((nx len bs t).1 = 3 ∧ (nx len bs t).2.2.2.2 = c) → ∃ g, jX6_readMark (iZ c) h = some (false, g) ∧ Fr sTE h g ∧ ErC g 1 (nx len bs t).2.1) := by
  obtain ⟨g, e, f, k, e7, e8⟩ := c_adv hC
  have hn := nx_ok hC
  obtain ⟨u, hu⟩ : ∃ u, nx len bs t = u := ⟨_, rfl⟩
  rw [hu] at k hn ⊢
  have h4 := hn.1.2.2.2
  have hm : jX6_isMark (iZ c) g = decide (u.1 = 3 ∧ u.2.2.2.2 = c) := by
    unfold jX6_isMark
    rw [k.2.2.1.1, i3]
    by_cases q : u.1 = 3
    · have hv := hn.1.2.2.1 q
      rw [if_pos (by rw [q]), k.2.2.1.2.2.2.2.2 q]
      by_cases r : u.2.2.2.2 = c
      · rw [if_pos (by rw [r]), decide_eq_true ⟨q, r⟩]
      · rw [if_neg (eq_n (by omega) (by omega) (by omega) (by omega) (by omega)), decide_eq_false (fun d => r d.2)]
    · rw [if_neg (eq_n (b := 3) (by omega) (by omega) (by omega) (by omega) (by omega)), decide_eq_false (fun d => q d.1)]
  unfold jX6_readMark
  rw [e, Option.bind_some, hm]
  obtain ⟨g2, e2, f2, r2⟩ := x6_fail k.2.2.1 1
  refine ⟨fun d => ⟨g, ?_, f, k, e7, e8⟩, fun d => ⟨g2, ?_, f.tr (sEr_TE f2), r2⟩⟩
  · rw [decide_eq_true d, if_pos rfl]
  · rw [decide_eq_false d, if_neg Bool.false_ne_true, i1, e2]
    rfl
theorem c_name (hC : CT h len bs t) : ((nx len bs t).1 = 1 → ∃ g, jX6_readName h = some (true, g) ∧ Fr sTE h g ∧ CT g len bs (nx len bs t) ∧ gI g (4, 0, 0) 7 = gI h (4, 0, 0) 7 ∧ gI g (4, 0, 0) 8 = gI h (4, 0, 0) 8) ∧ (¬ (nx len bs t).1 = 1 → ∃ g, jX6_readName h = some (false, g) ∧ Fr sTE h g ∧ ErC g 1 (nx len bs t).2.1) := by
  obtain ⟨g, e, f, k, e7, e8⟩ := c_adv hC
  have hn := nx_ok hC
  obtain ⟨u, hu⟩ : ∃ u, nx len bs t = u := ⟨_, rfl⟩
  rw [hu] at k hn ⊢
  have h4 := hn.1.2.2.2
  unfold jX6_readName jX6_isWord
  rw [e, Option.bind_some, k.2.2.1.1, i1]
  obtain ⟨g2, e2, f2, r2⟩ := x6_fail k.2.2.1 1
  refine ⟨fun d => ⟨g, ?_, f, k, e7, e8⟩, fun d => ⟨g2, ?_, f.tr (sEr_TE f2), r2⟩⟩
  · rw [if_pos (show iZ u.1 = iZ 1 by rw [d]), if_pos rfl]
  · rw [if_neg (eq_n (b := 1) (by omega) (by omega) (by omega) (by omega) (by omega)), if_neg Bool.false_ne_true, e2]
    rfl
theorem c_word (hC : CT h len bs t) {u : Nat × List Int32} {ks : List Nat} (hk : NmOk ks) (hu : u.2 = ks.map (fun (l : Nat) => iZ (96 + (l : Int)))) : (((nx len bs t).1 = 1 ∧ (nx len bs t).2.2.2.1 = ks) → ∃ g, jX6_readWord u h = some (true, g) ∧ Fr sTE h g ∧ CT g len bs (nx len bs t) ∧ gI g (4, 0, 0) 7 = gI h (4, 0, 0) 7 ∧ gI g (4, 0, 0) 8 = gI h (4, 0, 0) 8) ∧ (¬ ((nx len bs t).1 = 1 ∧ (nx len bs t).2.2.2.1 = ks) → ∃ g, jX6_readWord u h = some (false, g) ∧ Fr sTE h g ∧ ErC g 1 (nx len bs t).2.1) := by
  obtain ⟨g, e, f, k, e7, e8⟩ := c_adv hC
  have hn := nx_ok hC
  unfold jX6_readWord
  rw [e, Option.bind_some, x6_isWord_ k.2.2.1 hn.1 hk hu, Option.bind_some]
  obtain ⟨g2, e2, f2, r2⟩ := x6_fail k.2.2.1 1
  refine ⟨fun d => ⟨g, ?_, f, k, e7, e8⟩, fun d => ⟨g2, ?_, f.tr (sEr_TE f2), r2⟩⟩
  · rw [decide_eq_true d, if_pos rfl]
  · rw [decide_eq_false d, if_neg Bool.false_ne_true, i1, e2]
    rfl
end
/-! the reference -/
/-- the reference stands at token t of the text, without an error -/
def MT (h : HD) (len : Int) (bs : Int → Int) (t : Tok) : Prop := BfM (7, 0, 1) 3 h len bs ∧ (∀ z, 0 ≤ z → z < len → 0 ≤ bs z ∧ bs z < 256) ∧ len ≤ 400 ∧ TkM h t ∧ TkOk t ∧ 0 ≤ t.2.2.1 ∧ t.2.2.1 ≤ len ∧ gI h (7, 0, 0) 8 = iZ 0
/-- an error of the reference's reading -/
def ErM (h : HD) (c p : Int) : Prop := gI h (7, 0, 0) 8 = iZ c ∧ gI h (7, 0, 0) 9 = iZ p
def sME : Rf → Nat → Bool := fun r k => decide (r = (7, 0, 0)) && (Nat.beq k 8 || Nat.beq k 9)
section
variable {h : HD} {len : Int} {bs : Int → Int} {t : Tok}
theorem m_good (hM : MT h len bs t) : jX9_isGood h = true := by
  unfold jX9_isGood
  rw [hM.2.2.2.2.2.2.2, if_pos (show iZ 0 = 0 from rfl)]
theorem m_bad {c p : Int} (hE : ErM h c p) (c0 : 1 ≤ c) (c1 : c ≤ 100) : jX9_isGood h = false := by
  unfold jX9_isGood
  rw [hE.1, if_neg (show ¬ iZ c = 0 from eq_n (b := 0) (by omega) (by omega) (by omega) (by omega) (by omega))]
theorem m_goOn (hM : MT h len bs t) : ∃ g, jX9_goOnRead h = some g ∧ Fr sRd h g ∧ MT g len bs (nx len bs t) := by
  obtain ⟨hB, hb, l1, hT, hk, t0, t1, h8⟩ := hM
  obtain ⟨g, e, f, k⟩ := x9_goOn hB hb l1 t0 t1 hT.2.2.1
  have hn := tok_ok (bs := bs) t1
  unfold nx
  exact ⟨g, e, f, hB.fr f rfl (fun _ => rfl), hb, l1, k, hn.1, by omega, by omega, (f.1 _ _ rfl).trans h8⟩
theorem m_wrong (hM : MT h len bs t) {c : Int} : ∃ g, jX9_wrong (iZ c) h = some g ∧ Fr sME h g ∧ ErM g (if t.1 = 4 then 1 else c) t.2.1 := by
  obtain ⟨hB, hb, l1, hT, hk, t0, t1, h8⟩ := hM
  have h4 := hk.2.2.2
  refine ⟨sI (sI h (7, 0, 0) 8 (iZ (if t.1 = 4 then 1 else c))) (7, 0, 0) 9 (iZ t.2.1), ?_, (Fr.rf.sI rfl _).sI rfl _, (gI_nk _ _ _ (by decide) _).trans (gI_self _ _ _ _), gI_self _ _ _ _⟩
  unfold jX9_wrong
  rw [h8, if_pos (show iZ 0 ≤ 0 by decide), hT.1]
  by_cases q : t.1 = 4
  · rw [if_pos (show iZ t.1 = 4 by rw [q]; rfl), if_pos q, lt_eq, gI_nk _ _ _ (by decide), hT.2.1]
    rfl
  · rw [if_neg (show ¬ iZ t.1 = 4 from eq_n (b := 4) (by omega) (by omega) (by omega) (by omega) (by omega)), if_neg q, lt_eq, gI_nk _ _ _ (by decide), hT.2.1]
    rfl
theorem m_isSign (hM : MT h len bs t) {c : Int} (c0 : 0 ≤ c) (c1 : c ≤ 1000) : jX9_isSign (iZ c) h = decide (t.1 = 3 ∧ t.2.2.2.2 = c) := by
  obtain ⟨hB, hb, l1, hT, hk, t0, t1, h8⟩ := hM
  have h4 := hk.2.2.2
  unfold jX9_isSign
  rw [h8, if_pos (show iZ 0 = 0 from rfl), hT.1]
  by_cases q : t.1 = 3
  · have hv := hk.2.2.1 q
    rw [if_pos (show iZ t.1 = 3 by rw [q]; rfl), hT.2.2.2.2 (Or.inr q)]
    by_cases r : t.2.2.2.2 = c
    · rw [if_pos (by rw [r]), decide_eq_true ⟨q, r⟩]
    · rw [if_neg (eq_n (by omega) (by omega) (by omega) (by omega) (by omega)), decide_eq_false (fun d => r d.2)]
  · rw [if_neg (show ¬ iZ t.1 = 3 from eq_n (b := 3) (by omega) (by omega) (by omega) (by omega) (by omega)), decide_eq_false (fun d => q d.1)]
theorem m_isWord (hM : MT h len bs t) {ks : List Nat} (hk2 : NmOk ks) : jX9_isWord (jZ (eM ks)) h = decide (t.1 = 1 ∧ t.2.2.2.1 = ks) := by
  obtain ⟨hB, hb, l1, hT, hk, t0, t1, h8⟩ := hM
  have h4 := hk.2.2.2
  unfold jX9_isWord
  rw [h8, if_pos (show iZ 0 = 0 from rfl), hT.1]
  by_cases q : t.1 = 1
  · have hw := hk.1 q
    have e1 := eM_le hw
    have e2 := eM_le hk2
    rw [if_pos (show iZ t.1 = 1 by rw [q]; rfl), hT.2.2.2.1 q]
    by_cases r : t.2.2.2.1 = ks
    · rw [if_pos ((lg_eq0 _ _).mpr (by rw [r])), decide_eq_true ⟨q, r⟩]
    · have : ¬ lg_cmp (jZ (eM t.2.2.2.1)) (jZ (eM ks)) = 0 := fun c => by
        have := (lg_eq0 _ _).mp c
        rw [jZ_eq (by omega) (by omega) (by omega) (by omega)] at this
        exact r (eM_inj _ _ hw.lt hk2.lt this)
      rw [if_neg this, decide_eq_false (fun c => r c.2)]
  · rw [if_neg (show ¬ iZ t.1 = 1 from eq_n (b := 1) (by omega) (by omega) (by omega) (by omega) (by omega)), decide_eq_false (fun d => q d.1)]
end
