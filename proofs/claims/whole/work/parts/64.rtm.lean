/-! readText: the reference -/
def sBT : Rf → Nat → Bool := fun r k => decide (r = (7, 0, 0)) && (Nat.beq k 2 || Nat.beq k 3 || Nat.beq k 4 || Nat.beq k 5 || Nat.beq k 6 || Nat.beq k 7 || Nat.beq k 8 || Nat.beq k 9 || Nat.beq k 12)
theorem sRd_BT {h h2 : HD} (hF : Fr sRd h h2) : Fr sBT h h2 := hF.mono fun r k q => by
  unfold sBT at q
  unfold sRd
  revert q
  cases decide (r = (7, 0, 0)) <;> cases Nat.beq k 4 <;> cases Nat.beq k 5 <;> cases Nat.beq k 6 <;> cases Nat.beq k 7 <;> cases Nat.beq k 12 <;> simp
/-- the reference at the first token of a text -/
theorem m_begins {h : HD} {len : Int} {bs : Int → Int} (hB : BfM (7, 0, 1) 2 h len bs) (hb : ∀ z, 0 ≤ z → z < len → 0 ≤ bs z ∧ bs z < 256) (l1 : len ≤ 400) : ∃ g, jX9_beginsText h = some g ∧ Fr sBT h g ∧ MT g len bs (tok len bs 0) ∧ gI g (7, 0, 0) 9 = iZ (-1) ∧ gI g (7, 0, 0) 2 = iZ 0 := by
  obtain ⟨l0, b2, b3⟩ := hB
  obtain ⟨h1, e1⟩ : ∃ h1, h1 = sI (sI (sI (sI (sI h (7, 0, 0) 3 (iZ len)) (7, 0, 0) 2 (iZ 0)) (7, 0, 0) 4 (iZ 0)) (7, 0, 0) 8 (iZ 0)) (7, 0, 0) 9 (iZ (-1)) := ⟨_, rfl⟩
  have f1 : Fr sBT h h1 := by rw [e1]; exact ((((Fr.rf.sI rfl _).sI rfl _).sI rfl _).sI rfl _).sI rfl _
  have T1 : BfM (7, 0, 1) 3 h1 len bs := ⟨l0, by rw [e1, gI_nk _ _ _ (by decide), gI_nk _ _ _ (by decide), gI_nk _ _ _ (by decide), gI_nk _ _ _ (by decide), gI_self], fun z z0 z1 => (f1.1 _ _ rfl).trans (b3 z z0 z1)⟩
  have c4 : gI h1 (7, 0, 0) 4 = iZ 0 := by rw [e1, gI_nk _ _ _ (by decide), gI_nk _ _ _ (by decide), gI_self]
  have c8 : gI h1 (7, 0, 0) 8 = iZ 0 := by rw [e1, gI_nk _ _ _ (by decide), gI_self]
  have c9 : gI h1 (7, 0, 0) 9 = iZ (-1) := by rw [e1, gI_self]
  have c2 : gI h1 (7, 0, 0) 2 = iZ 0 := by rw [e1, gI_nk _ _ _ (by decide), gI_nk _ _ _ (by decide), gI_nk _ _ _ (by decide), gI_self]
  obtain ⟨g, e, f, k⟩ := x9_goOn T1 hb l1 (Int.le_refl 0) l0 c4
  have hn := tok_ok (bs := bs) l0
  refine ⟨g, ?_, f1.tr (sRd_BT f), ⟨T1.fr f rfl (fun _ => rfl), hb, l1, k, hn.1, by omega, by omega, (f.1 _ _ rfl).trans c8⟩, (f.1 _ _ rfl).trans c9, (f.1 _ _ rfl).trans c2⟩
  unfold jX9_beginsText
  rw [b2, lt_eq, lt_eq, lt_eq, lt_eq, lt_eq, i0, im1, ← e1, e]
  rfl
def s72 : Rf → Nat → Bool := fun r _ => decide (r = (7, 0, 2))
theorem m_clears (h : HD) : ∃ g, jX9_clears h = some g ∧ Fr s72 h g ∧ RwM g (7, 0, 2) (7, 0, 7) 0 0 (0, 0, fun _ => 0, fun _ => []) := by
  unfold jX9_clears
  rw [i0]
  refine loopI (fun f (x : Int32 × HD) => jX9_clears_L2 f x.1 x.2) (fun z x => x.1 = iZ z ∧ Fr s72 h x.2 ∧ ∀ j : Nat, (j : Int) < z → gI x.2 (7, 0, 2) j = iZ 0) (a := 0) (b := 13) (fun y => ∃ g, y = some g ∧ Fr s72 h g ∧ RwM g (7, 0, 2) (7, 0, 7) 0 0 (0, 0, fun _ => 0, fun _ => [])) (by decide) ?_ ?_ FU (iZ 0, h) (FU_gt (by decide)) ⟨rfl, Fr.rf, fun j q => by omega⟩
  · intro f z x z0 z1 hI
    obtain ⟨x1, g⟩ := x
    obtain ⟨a1, hF, hA⟩ := hI
    replace a1 : x1 = iZ z := a1
    replace hF : Fr s72 h g := hF
    replace hA : ∀ j : Nat, (j : Int) < z → gI g (7, 0, 2) j = iZ 0 := hA
    subst a1
    refine ⟨(iZ (z + 1), sI g (7, 0, 2) z.toNat (iZ 0)), ?_, rfl, hF.sI rfl _, fun j q => ?_⟩
    · show jX9_clears_L2 (f + 1) (iZ z) g = _
      rw [jX9_clears_L2, i13, if_neg (le_n (by omega) (by omega) (by omega)), inB_t (by omega) (by omega) (by omega), if_pos rfl, lt_eq, iZ_nat (by omega) (by omega), i1, iZ_add, i0]
    · show gI (sI g (7, 0, 2) z.toNat (iZ 0)) (7, 0, 2) j = iZ 0
      rw [gI_sI]
      by_cases e : j = z.toNat
      · rw [if_pos ⟨rfl, e⟩]
      · rw [if_neg (fun c => e c.2)]
        exact hA j (by omega)
  · intro f x hI
    obtain ⟨x1, g⟩ := x
    obtain ⟨a1, hF, hA⟩ := hI
    replace a1 : x1 = iZ 13 := a1
    replace hA : ∀ j : Nat, (j : Int) < 13 → gI g (7, 0, 2) j = iZ 0 := hA
    subst a1
    refine ⟨g, ?_, hF, hA 0 (by decide), hA 1 (by decide), fun z z0 z1 => absurd z1 (by show ¬ z < 0; omega), fun z z0 z1 => absurd z1 (by show ¬ z < 0; omega)⟩
    show jX9_clears_L2 (f + 1) (iZ 13) g = _
    rw [jX9_clears_L2, i13, if_pos (le_y (by omega) (by omega) (by omega))]
def sRT : Rf → Nat → Bool := fun r k => decide (r = (7, 0, 2) ∨ r = (7, 0, 7) ∨ r = (7, 0, 4) ∨ r = (7, 0, 9)) || (decide (r = (7, 0, 0)) && (Nat.beq k 0 || Nat.beq k 2 || Nat.beq k 3 || Nat.beq k 4 || Nat.beq k 5 || Nat.beq k 6 || Nat.beq k 7 || Nat.beq k 8 || Nat.beq k 9 || Nat.beq k 10 || Nat.beq k 11 || Nat.beq k 12 || Nat.beq k 23))
theorem sBT_RT {h h2 : HD} (hF : Fr sBT h h2) : Fr sRT h h2 := hF.mono fun r k q => by
  unfold sRT at q
  unfold sBT
  rw [Bool.or_eq_false_iff] at q
  have q2 := q.2
  revert q2
  cases decide (r = (7, 0, 0)) <;> cases Nat.beq k 2 <;> cases Nat.beq k 3 <;> cases Nat.beq k 4 <;> cases Nat.beq k 5 <;> cases Nat.beq k 6 <;> cases Nat.beq k 7 <;> cases Nat.beq k 8 <;> cases Nat.beq k 9 <;> cases Nat.beq k 12 <;> simp
theorem sRM_RT {h h2 : HD} (hF : Fr sRM h h2) : Fr sRT h h2 := hF.mono fun r k q => by
  unfold sRT at q
  unfold sRM
  rw [Bool.or_eq_false_iff] at q
  rw [Bool.or_eq_false_iff]
  refine ⟨decide_eq_false (fun e => of_decide_eq_false q.1 (e.imp id Or.inl)), ?_⟩
  have q2 := q.2
  revert q2
  cases decide (r = (7, 0, 0)) <;> cases Nat.beq k 4 <;> cases Nat.beq k 5 <;> cases Nat.beq k 6 <;> cases Nat.beq k 7 <;> cases Nat.beq k 8 <;> cases Nat.beq k 9 <;> cases Nat.beq k 12 <;> simp
theorem s2_RT {r t : Rf} (hr : r = (7, 0, 2) ∨ r = (7, 0, 4)) (ht : t = (7, 0, 7) ∨ t = (7, 0, 9)) {h h2 : HD} (hF : Fr (s2 r t) h h2) : Fr sRT h h2 := hF.mono fun q k e => by
  unfold sRT at e
  rw [Bool.or_eq_false_iff] at e
  refine decide_eq_false fun c => of_decide_eq_false e.1 ?_
  rcases c with c | c
  · rw [c]; rcases hr with d | d
    · exact Or.inl d
    · exact Or.inr (Or.inr (Or.inl d))
  · rw [c]; rcases ht with d | d
    · exact Or.inr (Or.inl d)
    · exact Or.inr (Or.inr (Or.inr d))
section
variable {g : HD}
theorem m_endsBad {c p : Int} (hE : ErM g c p) (hc : c = 1 ∨ c = 2 ∨ c = 3 ∨ c = 5) : ∃ g2, jX9_endsText g = some (false, g2) ∧ Fr sRT g g2 ∧ gI g2 (7, 0, 0) 10 = iZ c ∧ gI g2 (7, 0, 0) 11 = iZ p ∧ gI g2 (7, 0, 0) 0 = iZ 1 ∧ gI g2 (7, 0, 0) 23 = gI g (7, 0, 0) 23 ∧ gI g2 (7, 0, 0) 2 = gI g (7, 0, 0) 2 ∧ (∀ r k, r ≠ (7, 0, 0) → gI g2 r k = gI g r k) ∧ (∀ r k, gJ g2 r k = gJ g r k) := by
  obtain ⟨h1, e1⟩ : ∃ h1, h1 = sI (sI g (7, 0, 0) 10 (iZ c)) (7, 0, 0) 11 (iZ p) := ⟨_, rfl⟩
  have g10 : gI h1 (7, 0, 0) 10 = iZ c := by rw [e1, gI_nk _ _ _ (by decide), gI_self]
  have g11 : gI h1 (7, 0, 0) 11 = iZ p := by rw [e1, gI_self]
  have o : ∀ k, k ≠ 10 → k ≠ 11 → gI h1 (7, 0, 0) k = gI g (7, 0, 0) k := fun k k0 k1 => by rw [e1, gI_nk _ _ _ k1, gI_nk _ _ _ k0]
  refine ⟨c0 h1 1, ?_, ?_, ?_, ?_, c0_0 _ _, ?_, ?_, fun r k hr => ?_, fun r k => ?_⟩
  · unfold jX9_endsText
    rw [hE.1, lt_eq, gI_nk _ _ _ (by decide), hE.2, lt_eq, ← e1, o 8 (by decide) (by decide), hE.1, if_neg (show ¬ iZ c = 0 from eq_n (b := 0) (by omega) (by omega) (by omega) (by omega) (by omega)), x9_goes]
    rfl
  · rw [e1]; exact (((Fr.rf.sI rfl _).sI rfl _).sI rfl _)
  · show gI (sI h1 (7, 0, 0) 0 _) _ _ = _
    rw [gI_nk _ _ _ (by decide), g10]
  · show gI (sI h1 (7, 0, 0) 0 _) _ _ = _
    rw [gI_nk _ _ _ (by decide), g11]
  · show gI (sI h1 (7, 0, 0) 0 _) _ _ = _
    rw [gI_nk _ _ _ (by decide), o 23 (by decide) (by decide)]
  · show gI (sI h1 (7, 0, 0) 0 _) _ _ = _
    rw [gI_nk _ _ _ (by decide), o 2 (by decide) (by decide)]
  · show gI (sI h1 (7, 0, 0) 0 _) _ _ = _
    rw [gI_ne _ hr, e1, gI_ne _ hr, gI_ne _ hr]
  · show gJ (sI h1 (7, 0, 0) 0 _) _ _ = _
    rw [gJ_sI, e1, gJ_sI, gJ_sI]
theorem m_endsGood (h8 : gI g (7, 0, 0) 8 = iZ 0) (h9 : gI g (7, 0, 0) 9 = iZ (-1)) : ∃ g2, jX9_endsText g = some (true, g2) ∧ Fr sRT g g2 ∧ gI g2 (7, 0, 0) 10 = iZ 0 ∧ gI g2 (7, 0, 0) 11 = iZ (-1) ∧ gI g2 (7, 0, 0) 0 = iZ 0 ∧ gI g2 (7, 0, 0) 23 = gI g (7, 0, 0) 23 ∧ gI g2 (7, 0, 0) 2 = gI g (7, 0, 0) 2 ∧ (∀ r k, r ≠ (7, 0, 0) → gI g2 r k = gI g r k) ∧ (∀ r k, gJ g2 r k = gJ g r k) ∧ (∀ k, k ≠ 10 → k ≠ 11 → k ≠ 0 → gI g2 (7, 0, 0) k = gI g (7, 0, 0) k) := by
  obtain ⟨h1, e1⟩ : ∃ h1, h1 = sI (sI g (7, 0, 0) 10 (iZ 0)) (7, 0, 0) 11 (iZ (-1)) := ⟨_, rfl⟩
  have g10 : gI h1 (7, 0, 0) 10 = iZ 0 := by rw [e1, gI_nk _ _ _ (by decide), gI_self]
  have g11 : gI h1 (7, 0, 0) 11 = iZ (-1) := by rw [e1, gI_self]
  have o : ∀ k, k ≠ 10 → k ≠ 11 → gI h1 (7, 0, 0) k = gI g (7, 0, 0) k := fun k k0 k1 => by rw [e1, gI_nk _ _ _ k1, gI_nk _ _ _ k0]
  refine ⟨c0 h1 0, ?_, ?_, ?_, ?_, c0_0 _ _, ?_, ?_, fun r k hr => ?_, fun r k => ?_, fun k k0 k1 k2 => ?_⟩
  · unfold jX9_endsText
    rw [h8, lt_eq, gI_nk _ _ _ (by decide), h9, lt_eq, ← e1, o 8 (by decide) (by decide), h8, if_pos (show iZ 0 = 0 from rfl), x9_goes]
    rfl
  · rw [e1]; exact (((Fr.rf.sI rfl _).sI rfl _).sI rfl _)
  · show gI (sI h1 (7, 0, 0) 0 _) _ _ = _
    rw [gI_nk _ _ _ (by decide), g10]
  · show gI (sI h1 (7, 0, 0) 0 _) _ _ = _
    rw [gI_nk _ _ _ (by decide), g11]
  · show gI (sI h1 (7, 0, 0) 0 _) _ _ = _
    rw [gI_nk _ _ _ (by decide), o 23 (by decide) (by decide)]
  · show gI (sI h1 (7, 0, 0) 0 _) _ _ = _
    rw [gI_nk _ _ _ (by decide), o 2 (by decide) (by decide)]
  · show gI (sI h1 (7, 0, 0) 0 _) _ _ = _
    rw [gI_ne _ hr, e1, gI_ne _ hr, gI_ne _ hr]
  · show gJ (sI h1 (7, 0, 0) 0 _) _ _ = _
    rw [gJ_sI, e1, gJ_sI, gJ_sI]
  · show gI (sI h1 (7, 0, 0) 0 _) _ _ = _
    rw [gI_nk _ _ _ k2, o k k0 k1]
end
theorem RwM.eq {g g2 : HD} {r t : Rf} {a c : Int} {R : Row} (hM : RwM g r t a c R) (hi : ∀ k, gI g2 r k = gI g r k) (hj : ∀ k, gJ g2 t k = gJ g t k) : RwM g2 r t a c R := ⟨(hi _).trans hM.1, (hi _).trans hM.2.1, fun z z0 z1 => (hi _).trans (hM.2.2.1 z z0 z1), fun z z0 z1 => (hj _).trans (hM.2.2.2 z z0 z1)⟩
theorem m_ENDSb {g : HD} {c p : Int} {R0 : Row} (hE : ErM g c p) (hc : c = 1 ∨ c = 2 ∨ c = 3 ∨ c = 5) (hA : RwM g (7, 0, 4) (7, 0, 9) 0 0 R0) (hn : R0.1 ≤ 11) : ∃ g2, ENDS g = some (0, g2) ∧ Fr sRT g g2 ∧ gI g2 (7, 0, 0) 10 = iZ c ∧ gI g2 (7, 0, 0) 11 = iZ p ∧ gI g2 (7, 0, 0) 0 = iZ 1 ∧ gI g2 (7, 0, 0) 23 = gI g (7, 0, 0) 23 ∧ gI g2 (7, 0, 0) 2 = gI g (7, 0, 0) 2 ∧ RwM g2 (7, 0, 2) (7, 0, 7) 0 0 R0 := by
  obtain ⟨g1, e1, f1, a10, a11, a0, a23, a2, oi, oj⟩ := m_endsBad hE hc
  have A1 : RwM g1 (7, 0, 4) (7, 0, 9) 0 0 R0 := hA.eq (fun k => oi _ _ (by decide)) (fun k => oj _ _)
  obtain ⟨h1, h2, x1, x2, F1, F, M, -, -⟩ := x9_cpBoth (t := (7, 0, 2)) (t2 := (7, 0, 7)) (c := 0) (c2 := 0) (m := 13) (k := 13) (m2 := 11) (k2 := 11) A1 hn rfl rfl rfl rfl (by decide) (by decide) (by decide) (by decide) (by decide) (by decide) (by decide) (by decide) (by decide) (by decide) (by decide) (by decide) (by decide) (by decide) (by decide) (by decide)
  refine ⟨h2, ?_, f1.tr (s2_RT (Or.inl rfl) (Or.inl rfl) F), ?_, ?_, ?_, ?_, ?_, M⟩
  · unfold ENDS
    rw [e1, Option.bind_some]
    show (if false = true then _ else _) = _
    rw [if_neg Bool.false_ne_true]
    unfold jX9_goesBack
    show (Option.bind (Option.bind (jX9_copiesRow (7, 0, 4) 0 (7, 0, 2) 0 g1) _) _) = _
    rw [i0, x1, Option.bind_some, x2]
    rfl
  · rw [F.1 _ _ rfl]; exact a10
  · rw [F.1 _ _ rfl]; exact a11
  · rw [F.1 _ _ rfl]; exact a0
  · rw [F.1 _ _ rfl]; exact a23
  · rw [F.1 _ _ rfl]; exact a2
theorem m_ENDSg {g : HD} {R : Row} (h8 : gI g (7, 0, 0) 8 = iZ 0) (h9 : gI g (7, 0, 0) 9 = iZ (-1)) (hR : RwM g (7, 0, 2) (7, 0, 7) 0 0 R) : ∃ g2, ENDS g = some (iZ R.1, g2) ∧ Fr sRT g g2 ∧ gI g2 (7, 0, 0) 10 = iZ 0 ∧ gI g2 (7, 0, 0) 11 = iZ (-1) ∧ gI g2 (7, 0, 0) 0 = iZ 0 ∧ gI g2 (7, 0, 0) 23 = iZ 0 ∧ gI g2 (7, 0, 0) 2 = gI g (7, 0, 0) 2 ∧ RwM g2 (7, 0, 2) (7, 0, 7) 0 0 R := by
  obtain ⟨g1, e1, f1, a10, a11, a0, a23, a2, oi, oj, -⟩ := m_endsGood h8 h9
  have R1 : RwM (sI g1 (7, 0, 0) 23 (iZ 0)) (7, 0, 2) (7, 0, 7) 0 0 R := hR.eq (fun k => (gI_ne _ (by decide) _ _ _).trans (oi _ _ (by decide))) (fun k => (gJ_sI _ _ _ _ _ _).trans (oj _ _))
  refine ⟨sI g1 (7, 0, 0) 23 (iZ 0), ?_, f1.sI rfl _, (gI_nk _ _ _ (by decide) _).trans a10, (gI_nk _ _ _ (by decide) _).trans a11, (gI_nk _ _ _ (by decide) _).trans a0, gI_self _ _ _ _, (gI_nk _ _ _ (by decide) _).trans a2, R1⟩
  unfold ENDS
  rw [e1, Option.bind_some]
  show (if true = true then _ else _) = _
  rw [if_pos rfl, lt_eq, i0, R1.pr.1]
def RT2 (x : Int32) (h : HD) : Option (Int32 × HD) := (if (jX9_isWord (66667 : Int64) h) = true then (jX9_goOnRead h).bind fun q20 => (jX9_number (0 : Int32) (5 : Int32) q20).bind fun q21 => lt (sI q21.2 (7, 0, 2) 1 q21.1) fun h22 => (jX9_mustSign (59 : Int32) h22).bind fun q23 => jX9_readText_L67 x (KW x) FU q23 else jX9_readText_L67 x (KW x) FU h)
theorem readText_eq (h : HD) : jX9_readText h = (jX9_laysAside h).bind fun q1 => (jX9_beginsText q1).bind fun q2 => (jX9_clears q2).bind fun q3 => (jX9_mustWord (525899 : Int64) q3).bind fun q4 => (jX9_number (0 : Int32) (11 : Int32) q4).bind fun q5 => (jX9_mustSign (59 : Int32) q5.2).bind fun q6 => RT2 q5.1 q6 := rfl
theorem b_RT2 {g : HD} {c p : Int} (k : ErM g c p) (hc : c = 1 ∨ c = 2 ∨ c = 3 ∨ c = 5) (x : Int32) : RT2 x g = ENDS g := by
  have hw : jX9_isWord (66667 : Int64) g = false := by
    unfold jX9_isWord
    rw [k.1, if_neg (show ¬ iZ c = 0 from eq_n (b := 0) (by omega) (by omega) (by omega) (by omega) (by omega))]
  unfold RT2
  rw [hw, if_neg Bool.false_ne_true]
  exact b_L67 k hc x 999999
section
variable {h : HD} {len : Int} {bs : Int → Int} {t : Tok}
theorem m_RT2 {n : Int} (hn : 0 ≤ n ∧ n ≤ 11) (hM : MT h len bs t) (hR : RwM h (7, 0, 2) (7, 0, 7) 0 0 (0, 0, fun _ => 0, fun _ => [])) : match backE len bs n t with
    | .inl (c, p) => ∃ g, RT2 (iZ n) h = ENDS g ∧ Fr sRM h g ∧ ErM g c p ∧ (c = 1 ∨ c = 2 ∨ c = 3 ∨ c = 5)
    | .inr R2 => ∃ g, RT2 (iZ n) h = ENDS g ∧ Fr sRM h g ∧ RwM g (7, 0, 2) (7, 0, 7) 0 0 R2 ∧ gI g (7, 0, 0) 8 = iZ 0 ∧ gI g (7, 0, 0) 9 = gI h (7, 0, 0) 9 := by
  have W0 : ∀ b, RwW (0, b, fun _ => 0, fun _ => []) := fun b => ⟨⟨(Int.le_refl 0 : (0 : Int) ≤ 0), (by decide : (0 : Int) ≤ 11)⟩, fun z z0 z1 => absurd z1 (by show ¬ z < 0; omega)⟩
  have hfu : FU = (999998 - n.toNat) + n.toNat + 2 := by unfold FU; omega
  have ew : jX9_isWord (66667 : Int64) h = decide (t.1 = 1 ∧ t.2.2.2.1 = wBack) := by
    have e3 : (66667 : Int64) = jZ (eM wBack) := by decide
    rw [e3]
    exact m_isWord hM wBack_ok
  unfold RT2 backE
  rw [ew]
  by_cases q : isWd t wBack
  · rw [decide_eq_true (show t.1 = 1 ∧ t.2.2.2.1 = wBack from q), if_pos rfl, if_pos q]
    obtain ⟨g1, e1, f1, k1⟩ := m_goOn hM
    have R1 := hR.fr f1 (fun _ => rfl) (fun _ => rfl)
    have num := m_number k1 (a := 0) (b := 5) (by omega) (by omega) (by omega) (by omega)
    rw [e1, Option.bind_some, i0, i5]
    unfold bk1
    cases hv : numP (nx len bs t) 0 5 with
    | inl er =>
      rw [hv] at num
      obtain ⟨c, p⟩ := er
      obtain ⟨w, g, e, f, k, hc⟩ := num
      have k2 : ErM (sI g (7, 0, 2) 1 w) c p := ⟨(gI_ne _ (by decide) _ _ _).trans k.1, (gI_ne _ (by decide) _ _ _).trans k.2⟩
      refine ⟨sI g (7, 0, 2) 1 w, ?_, ((sRd_RM f1).tr (sME_RM f)).sI rfl _, k2, by omega⟩
      rw [e, Option.bind_some, lt_eq]
      show (jX9_mustSign (59 : Int32) (sI g (7, 0, 2) 1 w)).bind _ = _
      rw [b_mustSign (k2.g (by omega)), Option.bind_some]
      exact b_L67 k2 (by omega) _ 999999
    | inr v =>
      rw [hv] at num
      obtain ⟨g, e, f, k⟩ := num
      have F2 : Fr s72 g (sI g (7, 0, 2) 1 (iZ v)) := Fr.rf.sI rfl _
      have k2 : MT (sI g (7, 0, 2) 1 (iZ v)) len bs (nx len bs (nx len bs t)) := k.fr F2 (fun _ => rfl) rfl rfl rfl rfl rfl rfl rfl
      have R2 : RwM (sI g (7, 0, 2) 1 (iZ v)) (7, 0, 2) (7, 0, 7) 0 0 (0, v, fun _ => 0, fun _ => []) := ⟨(gI_nk _ _ _ (by decide) _).trans (R1.fr f (fun _ => rfl) (fun _ => rfl)).1, gI_self _ _ _ _, fun z z0 z1 => absurd z1 (by show ¬ z < 0; omega), fun z z0 z1 => absurd z1 (by show ¬ z < 0; omega)⟩
      have ms := m_mustSign k2 (c := 59) (by decide) (by decide)
      rw [e, Option.bind_some, lt_eq]
      show match (match (match mkP (nx len bs (nx len bs t)) 59 with | .inl e => .inl e | .inr _ => .inr (v, nx len bs (nx len bs (nx len bs t))) : Rd (Int × Tok)) with | .inl e => .inl e | .inr (b, t2) => carsE len bs n (0, b, fun _ => 0, fun _ => []) t2 : Rd Row) with | .inl (c, p) => _ | .inr R2 => _
      have F3 : Fr sRM h (sI g (7, 0, 2) 1 (iZ v)) := ((sRd_RM f1).tr (sRd_RM f)).sI rfl _
      have z9 : gI (sI g (7, 0, 2) 1 (iZ v)) (7, 0, 0) 9 = gI h (7, 0, 0) 9 := by rw [gI_ne _ (by decide), f.1 _ _ rfl, f1.1 _ _ rfl]
      unfold mkP
      by_cases q4 : isMk (nx len bs (nx len bs t)) 59
      · rw [if_pos q4]
        obtain ⟨g3, e3, f3, k3⟩ := ms.1 q4
        show match carsE len bs n (0, v, fun _ => 0, fun _ => []) (nx len bs (nx len bs (nx len bs t))) with | .inl (c, p) => _ | .inr R2 => _
        have mc := m_cars hn n.toNat (999998 - n.toNat) g3 _ _ k3 (R2.fr f3 (fun _ => rfl) (fun _ => rfl)) (W0 v) (by show (0 : Int) + _ = n; omega)
        rw [← hfu] at mc
        replace mc : match carsE len bs n (0, v, fun _ => 0, fun _ => []) (nx len bs (nx len bs (nx len bs t))) with | .inl (c, p) => _ | .inr R2 => _ := mc
        cases hc : carsE len bs n (0, v, fun _ => 0, fun _ => []) (nx len bs (nx len bs (nx len bs t))) with
        | inl er =>
          rw [hc] at mc
          obtain ⟨c, p⟩ := er
          obtain ⟨g4, e4, f4, k4, c4⟩ := mc
          refine ⟨g4, ?_, (F3.tr (sRd_RM f3)).tr f4, k4, c4⟩
          show (jX9_mustSign (59 : Int32) (sI g (7, 0, 2) 1 (iZ v))).bind _ = _
          rw [show (59 : Int32) = iZ 59 from rfl, e3]
          exact e4
        | inr R5 =>
          rw [hc] at mc
          obtain ⟨g4, e4, f4, k4, c8, c9⟩ := mc
          refine ⟨g4, ?_, (F3.tr (sRd_RM f3)).tr f4, k4, c8, c9.trans ((f3.1 _ _ rfl).trans z9)⟩
          show (jX9_mustSign (59 : Int32) (sI g (7, 0, 2) 1 (iZ v))).bind _ = _
          rw [show (59 : Int32) = iZ 59 from rfl, e3]
          exact e4
      · rw [if_neg q4]
        obtain ⟨g3, e3, f3, k3⟩ := ms.2 q4
        refine ⟨g3, ?_, F3.tr (sME_RM f3), k3, Or.inl rfl⟩
        show (jX9_mustSign (59 : Int32) (sI g (7, 0, 2) 1 (iZ v))).bind _ = _
        rw [show (59 : Int32) = iZ 59 from rfl, e3]
        exact b_L67 k3 (by omega) _ 999999
  · rw [decide_eq_false (show ¬ (t.1 = 1 ∧ t.2.2.2.1 = wBack) from q), if_neg Bool.false_ne_true, if_neg q]
    have mc := m_cars hn n.toNat (999998 - n.toNat) h _ _ hM hR (W0 0) (by show (0 : Int) + _ = n; omega)
    rw [← hfu] at mc
    exact mc
end
theorem m_readText {h : HD} {R0 : Row} {len : Int} {bs : Int → Int} (hM : RwM h (7, 0, 2) (7, 0, 7) 0 0 R0) (hn : R0.1 ≤ 11) (hB : BfM (7, 0, 1) 2 h len bs) (hb : ∀ z, 0 ≤ z → z < len → 0 ≤ bs z ∧ bs z < 256) (l1 : len ≤ 400) : match sysP len bs with
    | .inl (c, p) => ∃ g, jX9_readText h = some (0, g) ∧ Fr sRT h g ∧ gI g (7, 0, 0) 2 = iZ 0 ∧ gI g (7, 0, 0) 10 = iZ c ∧ gI g (7, 0, 0) 11 = iZ p ∧ gI g (7, 0, 0) 0 = iZ 1 ∧ gI g (7, 0, 0) 23 = gI h (7, 0, 0) 23 ∧ RwM g (7, 0, 2) (7, 0, 7) 0 0 R0
    | .inr R => ∃ g, jX9_readText h = some (iZ R.1, g) ∧ Fr sRT h g ∧ gI g (7, 0, 0) 2 = iZ 0 ∧ gI g (7, 0, 0) 10 = iZ 0 ∧ gI g (7, 0, 0) 11 = iZ (-1) ∧ gI g (7, 0, 0) 0 = iZ 0 ∧ gI g (7, 0, 0) 23 = iZ 0 ∧ RwM g (7, 0, 2) (7, 0, 7) 0 0 R := by
  obtain ⟨h1, e1, f1, A1, M1⟩ := x9_aside hM hn
  obtain ⟨h2, e2, f2, k2, n9, n2⟩ := m_begins (hB.fr f1 rfl (fun _ => rfl)) hb l1
  obtain ⟨h3, e3, f3, R3⟩ := m_clears h2
  have k3 : MT h3 len bs (tok len bs 0) := k2.fr f3 (fun _ => rfl) rfl rfl rfl rfl rfl rfl rfl
  have A3 : RwM h3 (7, 0, 4) (7, 0, 9) 0 0 R0 := (A1.fr f2 (fun _ => rfl) (fun _ => rfl)).fr f3 (fun _ => rfl) (fun _ => rfl)
  have F3 : Fr sRT h h3 := ((s2_RT (Or.inr rfl) (Or.inr rfl) f1).tr (sBT_RT f2)).tr (f3.mono fun r k q => by
    unfold sRT at q
    rw [Bool.or_eq_false_iff] at q
    exact decide_eq_false fun e => of_decide_eq_false q.1 (Or.inl e))
  have z9 : gI h3 (7, 0, 0) 9 = iZ (-1) := (f3.1 _ _ rfl).trans n9
  have z2 : gI h3 (7, 0, 0) 2 = iZ 0 := (f3.1 _ _ rfl).trans n2
  have z23 : gI h3 (7, 0, 0) 23 = gI h (7, 0, 0) 23 := by rw [f3.1 _ _ rfl, f2.1 _ _ rfl, f1.1 _ _ rfl]
  have word := m_mustWord k3 wPark_ok
  have ew : (525899 : Int64) = jZ (eM wPark) := by decide
  -- an error ends the reading
  have bad : ∀ {g : HD} {c p : Int}, jX9_readText h = ENDS g → Fr sRM h3 g → ErM g c p → (c = 1 ∨ c = 2 ∨ c = 3 ∨ c = 5) → ∃ g, jX9_readText h = some (0, g) ∧ Fr sRT h g ∧ gI g (7, 0, 0) 2 = iZ 0 ∧ gI g (7, 0, 0) 10 = iZ c ∧ gI g (7, 0, 0) 11 = iZ p ∧ gI g (7, 0, 0) 0 = iZ 1 ∧ gI g (7, 0, 0) 23 = gI h (7, 0, 0) 23 ∧ RwM g (7, 0, 2) (7, 0, 7) 0 0 R0 := fun {g c p} er F k hc => by
    obtain ⟨g2, x1, x2, x3, x4, x5, x6, x7, x8⟩ := m_ENDSb k hc (A3.fr F (fun _ => rfl) (fun _ => rfl)) hn
    exact ⟨g2, er.trans x1, (F3.tr (sRM_RT F)).tr x2, x7.trans ((F.1 _ _ rfl).trans z2), x3, x4, x5, x6.trans ((F.1 _ _ rfl).trans z23), x8⟩
  have ent : jX9_readText h = (jX9_mustWord (jZ (eM wPark)) h3).bind fun q4 => (jX9_number (iZ 0) (iZ 11) q4).bind fun q5 => (jX9_mustSign (59 : Int32) q5.2).bind fun q6 => RT2 q5.1 q6 := by
    rw [readText_eq, e1, Option.bind_some, e2, Option.bind_some, e3, Option.bind_some, ew, i0, i11]
  have numB : ∀ {g : HD} {c p : Int}, ErM g c p → (c = 1 ∨ c = 2 ∨ c = 3 ∨ c = 4 ∨ c = 5) → jX9_number (iZ 0) (iZ 11) g = some (gI g (7, 0, 0) 7, g) := fun {g c p} k hc => by
    have hg : jX9_isGood g = false := k.g hc
    unfold jX9_number jX9_looks
    rw [hg, if_neg Bool.false_ne_true, if_neg Bool.false_ne_true, Option.bind_some]
    show (if jX9_isGood g = true then _ else _) = _
    rw [hg, if_neg Bool.false_ne_true]
  unfold sysP
  obtain ⟨t0, ht0⟩ : ∃ t0, tok len bs 0 = t0 := ⟨_, rfl⟩
  rw [ht0] at word k3 ⊢
  by_cases q0 : isWd t0 wPark
  · obtain ⟨h4, e4, f4, k4⟩ := word.1 q0
    rw [if_pos q0]
    have num := m_number k4 (a := 0) (b := 11) (by omega) (by omega) (by omega) (by omega)
    cases hv : numP (nx len bs t0) 0 11 with
    | inl er =>
      rw [hv] at num
      obtain ⟨c, p⟩ := er
      obtain ⟨w, g, e, f, k, hc⟩ := num
      refine bad ?_ ((sRd_RM f4).tr (sME_RM f)) k (by omega)
      rw [ent, e4, Option.bind_some, e, Option.bind_some]
      show (jX9_mustSign (59 : Int32) g).bind _ = _
      rw [b_mustSign (k.g (by omega)), Option.bind_some, b_RT2 k (by omega)]
    | inr n =>
      rw [hv] at num
      obtain ⟨h5, e5, f5, k5⟩ := num
      have hnn := numP_in hv
      have ms := m_mustSign k5 (c := 59) (by decide) (by decide)
      show match (match mkP (nx len bs (nx len bs t0)) 59 with | .inl e => .inl e | .inr _ => backE len bs n (nx len bs (nx len bs (nx len bs t0))) : Rd Row) with | .inl (c, p) => _ | .inr R => _
      unfold mkP
      by_cases q2 : isMk (nx len bs (nx len bs t0)) 59
      · rw [if_pos q2]
        obtain ⟨h6, e6, f6, k6⟩ := ms.1 q2
        have F6 : Fr sRd h3 h6 := (f4.tr f5).tr f6
        have R6 := R3.fr F6 (fun _ => rfl) (fun _ => rfl)
        have ent6 : jX9_readText h = RT2 (iZ n) h6 := by
          rw [ent, e4, Option.bind_some, e5, Option.bind_some]
          show (jX9_mustSign (59 : Int32) h5).bind _ = _
          rw [show (59 : Int32) = iZ 59 from rfl, e6]
          rfl
        have rt := m_RT2 (n := n) ⟨hnn.1, hnn.2⟩ k6 R6
        show match backE len bs n (nx len bs (nx len bs (nx len bs t0))) with | .inl (c, p) => _ | .inr R => _
        cases hc : backE len bs n (nx len bs (nx len bs (nx len bs t0))) with
        | inl er =>
          rw [hc] at rt
          obtain ⟨c, p⟩ := er
          obtain ⟨g, e, f, k, hc4⟩ := rt
          exact bad (ent6.trans e) ((sRd_RM F6).tr f) k hc4
        | inr R =>
          rw [hc] at rt
          obtain ⟨g, e, f, m, c8, c9⟩ := rt
          obtain ⟨g2, x1, x2, x3, x4, x5, x6, x7, x8⟩ := m_ENDSg c8 (c9.trans ((F6.1 _ _ rfl).trans z9)) m
          exact ⟨g2, ent6.trans (e.trans x1), (F3.tr (sRM_RT ((sRd_RM F6).tr f))).tr x2, x7.trans ((((sRd_RM F6).tr f).1 _ _ rfl).trans z2), x3, x4, x5, x6, x8⟩
      · rw [if_neg q2]
        obtain ⟨g, e, f, k⟩ := ms.2 q2
        refine bad ?_ (((sRd_RM f4).tr (sRd_RM f5)).tr (sME_RM f)) k (Or.inl rfl)
        rw [ent, e4, Option.bind_some, e5, Option.bind_some]
        show (jX9_mustSign (59 : Int32) h5).bind _ = _
        rw [show (59 : Int32) = iZ 59 from rfl, e, Option.bind_some, b_RT2 k (by omega)]
  · rw [if_neg q0]
    obtain ⟨g, e, f, k⟩ := word.2 q0
    refine bad ?_ (sME_RM f) k (Or.inl rfl)
    rw [ent, e, Option.bind_some, numB k (by omega), Option.bind_some]
    show (jX9_mustSign (59 : Int32) g).bind _ = _
    rw [b_mustSign (k.g (by omega)), Option.bind_some, b_RT2 k (by omega)]
