/-! WHAT WOULD BE -/
theorem sm_r {τ γ : Type} (v : τ) (f : Nat → γ) (g : τ → γ) : sm (.inr v) f g = g v := rfl
theorem sm_l {τ γ : Type} (e : Nat) (f : Nat → γ) (g : τ → γ) : sm (.inl e) f g = f e := rfl
def scrU : Rf → Nat → Bool := fun r k => scr r k || (Nat.beq r.1 1 && Nat.beq r.2.1 0) || (Nat.beq r.1 7 && (Nat.beq r.2.2 2 || Nat.beq r.2.2 7))
theorem scr_U {h h2 : HD} (hF : Fr scr h h2) : Fr scrU h h2 := hF.mono fun r k q => by
  unfold scrU at q
  simp only [Bool.or_eq_false_iff] at q
  exact q.1.1
theorem scrU_1 {o : Nat} (ho : 4 ≤ o ∨ o = 2) : ∀ j k, scrU (1, o, j) k = false := fun j k => by
  have e0 : Nat.beq o 0 = false := by
    cases h : Nat.beq o 0 with
    | true => have := Nat.eq_of_beq_eq_true h; omega
    | false => rfl
  unfold scrU
  rw [scr_1 ⟨by omega, by omega⟩]
  show ((false || (Nat.beq 1 1 && Nat.beq o 0)) || _) = false
  rw [e0]
  rfl
/-- another current row, alike on both sides -/
theorem Rel.new {h h2 : HD} {R : Row} (hR : Rel h) (hF : Fr scrU h h2) (hc : RCur h2 R) : Rel h2 := by
  obtain ⟨-, r2, r3, r4, r5, r6, r7⟩ := hR
  exact ⟨⟨R, hc⟩, r2.fr hF rfl rfl (fun _ => rfl) (fun _ => rfl), r3.fr hF (fun _ => rfl) (fun _ => rfl) rfl rfl, r4.fr hF rfl rfl rfl rfl, r5.fr hF rfl rfl (fun o j k ho => scrU_1 (Or.inl ho) j k) (fun _ => rfl) (fun _ => rfl), r6.fr hF rfl rfl (scrU_1 (Or.inr rfl)) (fun _ => rfl) (fun _ => rfl), r7.fr hF rfl rfl (fun _ => rfl) (fun _ => rfl) rfl⟩
theorem s1_scr {o : Nat} (ho : o = 1 ∨ o = 3) {h h2 : HD} (hF : Fr (s1 o) h h2) : Fr scr h h2 := hF.mono fun r k q => by
  unfold scr at q
  simp only [Bool.or_eq_false_iff] at q
  have q1 := q.1.1.1.1.1.1.1.1
  unfold s1
  rcases ho with rfl | rfl
  · revert q1
    cases Nat.beq r.1 1 <;> cases Nat.beq r.2.1 1 <;> simp
  · revert q1
    cases Nat.beq r.1 1 <;> cases Nat.beq r.2.1 1 <;> cases Nat.beq r.2.1 3 <;> simp
theorem s1_U {h h2 : HD} (hF : Fr (s1 0) h h2) : Fr scrU h h2 := hF.mono fun r k q => by
  unfold scrU at q
  simp only [Bool.or_eq_false_iff] at q
  exact q.1.2
/-- what the reference writes when it tries rows -/
def sW : Rf → Nat → Bool := fun r _ => Nat.beq r.1 7 && (Nat.beq r.2.2 2 || Nat.beq r.2.2 5 || Nat.beq r.2.2 7 || Nat.beq r.2.2 10 || Nat.beq r.2.2 13 || Nat.beq r.2.2 14 || Nat.beq r.2.2 15)
theorem sW_U {h h2 : HD} (hF : Fr sW h h2) : Fr scrU h h2 := hF.mono fun r k q => by
  unfold scrU scr at q
  simp only [Bool.or_eq_false_iff] at q
  unfold sW
  cases e7 : Nat.beq r.1 7
  · rfl
  · obtain ⟨⟨⟨⟨q0, q1⟩, q2⟩, q3⟩, q4⟩ := q
    rw [e7] at q1 q4
    simp only [Bool.true_and, Bool.or_eq_false_iff] at q1 q4 ⊢
    have hb : ∀ j, 13 ≤ j → j ≤ 29 → Nat.beq r.2.2 j = false := by
      intro j h1 h2
      cases e : Nat.beq r.2.2 j with
      | false => rfl
      | true =>
        have := Nat.eq_of_beq_eq_true e
        rw [this] at q1
        have a1 : Nat.ble 13 j = true := Nat.ble_eq_true_of_le h1
        have a2 : Nat.ble j 29 = true := Nat.ble_eq_true_of_le h2
        rw [a1, a2] at q1
        exact absurd q1.2 (by decide)
    exact ⟨⟨⟨⟨⟨⟨q4.1, q1.1.1.1.2⟩, q4.2⟩, q1.1.2⟩, hb 13 (by decide) (by decide)⟩, hb 14 (by decide) (by decide)⟩, hb 15 (by decide) (by decide)⟩
theorem cu_W {h h2 : HD} (hF : Fr sCu h h2) : Fr sW h h2 := hF.mono fun r k q => decide_eq_false fun e => by
  rcases e with e | e <;> · rw [e] at q; simp [sW] at q
theorem aw_W {h h2 : HD} (hF : Fr (s2 (7, 0, 5) (7, 0, 10)) h h2) : Fr sW h h2 := hF.mono fun r k q => decide_eq_false fun e => by
  rcases e with e | e <;> · rw [e] at q; simp [sW] at q
theorem pm_W {h h2 : HD} (hF : Fr sPm h h2) : Fr sW h h2 := hF.mono fun r k q => decide_eq_false fun e => by
  rcases e with e | e | e <;> · rw [e] at q; simp [sW] at q
theorem RwM.c0 {h : HD} {t : Rf} {a c : Int} {R : Row} {j : Nat} (hM : RwM h (7, 0, j + 1) t a c R) (z : Int) : RwM (c0 h z) (7, 0, j + 1) t a c R := by
  obtain ⟨m1, m2, m3, m4⟩ := hM
  have ne : ((7, 0, j + 1) : Rf) ≠ (7, 0, 0) := fun e => by have := congrArg (fun x : Rf => x.2.2) e; simp at this
  exact ⟨(gI_ne _ ne _ _ _).trans m1, (gI_ne _ ne _ _ _).trans m2, fun y q1 q2 => (gI_ne _ ne _ _ _).trans (m3 y q1 q2), m4⟩
section
variable {h : HD} {n b : Int} {pf : Int → Int} {nm : Int → List Nat}
/-- the class's try with another preference -/
theorem x8_parkedIf {z v : Int} (hC : RwC h 0 (n, b, pf, nm)) (hok : RwOk (n, b, pf, nm)) (h1 : 0 ≤ z) (h2 : z < n) (v1 : 0 ≤ v) (v2 : v ≤ n) : ∃ h3, jX8_parkedIf (iZ z) (iZ v) h = some h3 ∧ Fr scr h h3 ∧ Pk h3 0 n b (updP pf z v) n := by
  have ho : PrOk n b pf := hok.1
  have hn : 0 ≤ n ∧ n ≤ 11 := ⟨ho.1, ho.2.1⟩
  obtain ⟨h3, e3, f3, c3⟩ := x2_copy (o := 1) (r := 0) (by decide) hC hn.2
  obtain ⟨h4, e4, f4, c4⟩ := x2_chg (v := v) c3 hn h1 h2
  have hP4 : PrC h4 1 n b (updP pf z v) := c4.1
  obtain ⟨h5, e5, f5, k5⟩ := x4_comeRound 0 1 hP4 (upd_ok ho v1 v2) hn.1 (Int.le_refl n)
  refine ⟨h5, ?_, ((s1_scr (Or.inl rfl) f3).tr (s1_scr (Or.inl rfl) f4)).tr (sPk_scr f5), k5⟩
  unfold jX8_parkedIf jX2_count
  rw [e3, Option.bind_some, e4, Option.bind_some, hP4.1, e5]
  rfl
theorem x8_wayWith {p : Int} (hC : RwC h 0 (n, b, pf, nm)) (hok : RwOk (n, b, pf, nm)) (p0 : 0 ≤ p) (p5 : p ≤ 5) : ∃ h3, jX8_wayWith (iZ p) h = some (iZ (wyN n p pf), h3) ∧ Fr scr h h3 := by
  have ho : PrOk n b pf := hok.1
  have ho2 : PrOk n p pf := ⟨ho.1, ho.2.1, p0, p5, ho.2.2.2.2⟩
  obtain ⟨h3, e3, f3, c3⟩ := x2_copy (o := 1) (r := 0) (by decide) hC ho.2.1
  obtain ⟨h4, e4, f4, c4⟩ := x2_back (v := p) c3
  have hP4 : PrC h4 1 n p pf := c4.1
  obtain ⟨h5, e5, f5, k5⟩ := x4_comeRound 0 1 hP4 ho2 ho.1 (Int.le_refl n)
  refine ⟨h5, ?_, ((s1_scr (Or.inl rfl) f3).tr (s1_scr (Or.inl rfl) f4)).tr (sPk_scr f5)⟩
  unfold jX8_wayWith jX2_count
  rw [e3, Option.bind_some, e4, Option.bind_some, hP4.1, e5, Option.bind_some, x4_way k5 ho2]
  rfl
theorem x9_wayWith {p : Int} (hM : RwM h (7, 0, 2) (7, 0, 7) 0 0 (n, b, pf, nm)) (hok : RwOk (n, b, pf, nm)) (p0 : 0 ≤ p) (p5 : p ≤ 5) : ∃ h3, jX9_wayWith (iZ p) h = some (iZ (wyN n p pf), h3) ∧ Fr sW h h3 ∧ RwM h3 (7, 0, 2) (7, 0, 7) 0 0 (n, b, pf, nm) := by
  have ho : PrOk n b pf := hok.1
  have ho2 : PrOk n p pf := ⟨ho.1, ho.2.1, p0, p5, ho.2.2.2.2⟩
  obtain ⟨h3, e3, f3, a3, m3⟩ := x9_away hM ho.2.1
  have m4 := x9_setb (v := p) m3
  have f4 : Fr sW h3 (sI h3 (7, 0, 2) 1 (iZ p)) := Fr.rf.sI rfl _
  have a4 : RwM (sI h3 (7, 0, 2) 1 (iZ p)) (7, 0, 5) (7, 0, 10) 0 0 (n, b, pf, nm) := a3.fr (S := sCu) (Fr.rf.sI rfl _) (fun _ => rfl) (fun _ => rfl)
  have q4 : PrM (sI h3 (7, 0, 2) 1 (iZ p)) n p pf := m4.pr
  obtain ⟨h5, e5, f5, k5⟩ := x9_parks q4 ho2 ho.1 (Int.le_refl n)
  have q5 : PrM h5 n p pf := q4.fr f5 (fun _ => rfl)
  have a5 := a4.fr f5 (fun _ => rfl) (fun _ => rfl)
  obtain ⟨h6, e6, f6, m6⟩ := x9_fromAway (iZ (wyN n p pf)) a5 ho.2.1
  refine ⟨h6, ?_, (((aw_W f3).tr f4).tr (pm_W f5)).tr (cu_W f6), m6⟩
  unfold jX9_wayWith
  rw [e3, Option.bind_some, lt_eq, q4.1, e5, Option.bind_some, x9_way q5 k5 ho2, Option.bind_some, e6]
  rfl
end
theorem x8_isBack (h : HD) {z : Int} (z1 : -2147483648 ≤ z) (z2 : z < 2147483648) : jX8_isBack (iZ z) h = decide (0 ≤ z ∧ z ≤ 5) := by
  unfold jX8_isBack
  rw [i0, i5]
  by_cases q1 : z < 0
  · rw [if_pos (lt_y (by omega) (by omega) (by omega)), decide_eq_false (by omega)]
  · rw [if_neg (lt_n (by omega) (by omega) (by omega))]
    by_cases q2 : 5 < z
    · rw [if_pos (lt_y (by omega) (by omega) (by omega)), decide_eq_false (by omega)]
    · rw [if_neg (lt_n (by omega) (by omega) (by omega)), decide_eq_true (by omega)]
theorem x8_needBack (h : HD) {z : Int} (z1 : -2147483648 ≤ z) (z2 : z < 2147483648) : jX8_needBack (iZ z) h = some (if 0 ≤ z ∧ z ≤ 5 then .inr () else .inl 1) := by
  unfold jX8_needBack
  rw [x8_isBack h z1 z2]
  by_cases q : 0 ≤ z ∧ z ≤ 5
  · rw [decide_eq_true q, if_pos rfl, if_pos q]
  · rw [decide_eq_false q, if_neg (by decide), if_neg q]
theorem x9_isBack (h : HD) {z : Int} (z1 : -2147483648 ≤ z) (z2 : z < 2147483648) : jX9_isBack (iZ z) h = decide (0 ≤ z ∧ z ≤ 5) := by
  unfold jX9_isBack
  rw [iZ_j (by omega) (by omega), show (0 : Int64) = jZ 0 from rfl, show (5 : Int64) = jZ 5 from rfl, jZ_is (by omega) (by omega) (by omega) (by omega) (by omega) (by omega)]
theorem p_wayBy {h : HD} (hR : Rel h) (p : Int32) : PP [1] (jX8_wayBy p h) (jX9_wayBy p) := by
  obtain ⟨⟨⟨n, b, pf, nm⟩, hok, hC, hM⟩, -⟩ := id hR
  obtain ⟨z, z1, z2, rfl⟩ := iZ_ex p
  by_cases q : 0 ≤ z ∧ z ≤ 5
  · obtain ⟨h1, e1, f1⟩ := x8_wayWith hC hok q.1 q.2
    have hM1 := (hM.fr f1 (fun _ => rfl) (fun _ => rfl)).c0 0
    obtain ⟨h2, e2, f2, m2⟩ := x9_wayWith hM1 hok q.1 q.2
    have F : Fr scrU h h2 := (scr_U (f1.tr (c0_fr h1 0))).tr (sW_U f2)
    refine PP.ok (v := iZ (wyN n z pf)) (h1 := h1) (h2 := h2) ?_ ?_ (hR.new F ⟨hok, (hC.fr (f1.tr (c0_fr h1 0)) (scr_1 (by decide))).fr f2 (fun _ _ => rfl), m2⟩) (by rw [f2.1 _ _ rfl]; exact c0_0 _ _)
    · unfold jX8_wayBy
      rw [x8_needBack h z1 z2, if_pos q, Option.bind_some]
      show (jX8_wayWith (iZ z) h).bind _ = _
      rw [e1]
      rfl
    · unfold jX9_wayBy
      rw [x9_isBack _ z1 z2, decide_eq_true q, x9_goes, Option.bind_some, if_pos rfl]
      show (jX9_wayWith (iZ z) (c0 h1 0)).bind _ = _
      rw [e2]
      rfl
  · refine PP.ex (h1 := h) (h2 := c0 h 1) (w := 0) 0 (e := 1) ?_ ?_ (hR.fr (c0_fr h 1)) rfl (c0_0 _ _)
    · unfold jX8_wayBy
      rw [x8_needBack h z1 z2, if_neg q]; rfl
    · unfold jX9_wayBy
      rw [x9_isBack _ z1 z2, decide_eq_false q, x9_goes]; rfl
/-- the best BACK of 0 to z -/
def bbN (n : Int) (pf : Int → Int) (z : Int) : Int := itr (fun k m => if wyN n (k + 1) pf < wyN n m pf then k + 1 else m) 0 z
theorem bbN_in (n : Int) (pf : Int → Int) {z : Int} (hz : 0 ≤ z) : 0 ≤ bbN n pf z ∧ bbN n pf z ≤ z := by
  refine ind_Z (P := fun z => 0 ≤ bbN n pf z ∧ bbN n pf z ≤ z) (by unfold bbN; rw [itr_0]; omega) (fun y h1 _ ih => ?_) hz
  unfold bbN at ih ⊢
  rw [itr_s _ _ h1]
  split <;> omega
theorem p_bestBack {h : HD} (hR : Rel h) : PV (jX8_bestBack h) jX9_bestBack := by
  obtain ⟨⟨⟨n, b, pf, nm⟩, hok, hC, hM⟩, -⟩ := id hR
  have ho : PrOk n b pf := hok.1
  have hw : ∀ p, 0 ≤ p → p ≤ 5 → 0 ≤ wyN n p pf ∧ wyN n p pf ≤ 121 := fun p p0 p5 => wyN_in (b := p) ⟨ho.1, ho.2.1, p0, p5, ho.2.2.2.2⟩
  have bs : ∀ z, 0 ≤ z → bbN n pf (z + 1) = if wyN n (z + 1) pf < wyN n (bbN n pf z) pf then z + 1 else bbN n pf z := fun z q => itr_s _ _ q
  -- the class
  have k8 : ∃ h1, jX8_bestBack h = some (iZ (bbN n pf 5), h1) ∧ Fr scr h h1 := by
    obtain ⟨h1, e1, f1⟩ := x8_wayWith hC hok (p := 0) (by decide) (by decide)
    unfold jX8_bestBack
    rw [i0, e1, Option.bind_some]
    refine loopI (fun f (x : Int32 × Int32 × Int32 × HD) => jX8_bestBack_L10 f x.1 x.2.1 x.2.2.1 x.2.2.2) (fun z x => x.1 = iZ (bbN n pf z) ∧ x.2.1 = iZ (wyN n (bbN n pf z) pf) ∧ x.2.2.1 = iZ (z + 1) ∧ Fr scr h x.2.2.2) (a := 0) (b := 5) (fun y => ∃ h1, y = some (iZ (bbN n pf 5), h1) ∧ Fr scr h h1) (by decide) ?_ ?_ FU (iZ 0, iZ (wyN n 0 pf), iZ 1, h1) (FU_gt (by omega)) ⟨rfl, rfl, rfl, f1⟩
    · intro f z x z0 z1 hI
      obtain ⟨x1, x2, x3, h4⟩ := x
      obtain ⟨a1, a2, a3, hF⟩ := hI
      replace a1 : x1 = iZ (bbN n pf z) := a1
      replace a2 : x2 = iZ (wyN n (bbN n pf z) pf) := a2
      replace a3 : x3 = iZ (z + 1) := a3
      replace hF : Fr scr h h4 := hF
      subst a1; subst a2; subst a3
      have hb := bbN_in n pf z0
      have w1 := hw (bbN n pf z) (by omega) (by omega)
      have w2 := hw (z + 1) (by omega) (by omega)
      obtain ⟨h5, e5, f5⟩ := x8_wayWith (hC.fr hF (scr_1 (by decide))) hok (p := z + 1) (by omega) (by omega)
      by_cases q : wyN n (z + 1) pf < wyN n (bbN n pf z) pf
      · refine ⟨(iZ (z + 1), iZ (wyN n (z + 1) pf), iZ (z + 1 + 1), h5), ?_, ?_, ?_, rfl, hF.tr f5⟩
        · show jX8_bestBack_L10 (f + 1) _ _ (iZ (z + 1)) h4 = _
          rw [jX8_bestBack_L10, i5, if_neg (lt_n (by omega) (by omega) (by omega)), e5, Option.bind_some, if_neg (le_n (by omega) (by omega) (by omega)), i1, iZ_add]
        · show iZ (z + 1) = iZ (bbN n pf (z + 1))
          rw [bs z z0, if_pos q]
        · show _ = iZ (wyN n (bbN n pf (z + 1)) pf)
          rw [bs z z0, if_pos q]
      · refine ⟨(iZ (bbN n pf z), iZ (wyN n (bbN n pf z) pf), iZ (z + 1 + 1), h5), ?_, ?_, ?_, rfl, hF.tr f5⟩
        · show jX8_bestBack_L10 (f + 1) _ _ (iZ (z + 1)) h4 = _
          rw [jX8_bestBack_L10, i5, if_neg (lt_n (by omega) (by omega) (by omega)), e5, Option.bind_some, if_pos (le_y (by omega) (by omega) (by omega)), i1, iZ_add]
        · show _ = iZ (bbN n pf (z + 1))
          rw [bs z z0, if_neg q]
        · show _ = iZ (wyN n (bbN n pf (z + 1)) pf)
          rw [bs z z0, if_neg q]
    · intro f x hI
      obtain ⟨x1, x2, x3, h4⟩ := x
      obtain ⟨a1, a2, a3, hF⟩ := hI
      replace a1 : x1 = iZ (bbN n pf 5) := a1
      replace a3 : x3 = iZ (5 + 1) := a3
      subst a1; subst a3
      refine ⟨h4, ?_, hF⟩
      show jX8_bestBack_L10 (f + 1) _ _ (iZ (5 + 1)) h4 = _
      rw [jX8_bestBack_L10, i5, if_pos (lt_y (by omega) (by omega) (by omega))]
  obtain ⟨h1, e1, f1⟩ := k8
  have hM1 := (hM.fr f1 (fun _ => rfl) (fun _ => rfl)).c0 0
  have k9 : ∃ h2, jX9_bestBack h1 = some (iZ (bbN n pf 5), h2) ∧ Fr sW (c0 h1 0) h2 ∧ RwM h2 (7, 0, 2) (7, 0, 7) 0 0 (n, b, pf, nm) := by
    unfold jX9_bestBack
    rw [lt_eq, c0_def, i0]
    refine loopI (fun f (x : Int32 × Int32 × HD) => jX9_bestBack_L9 f x.1 x.2.1 x.2.2) (fun z x => x.1 = iZ (bbN n pf z) ∧ x.2.1 = iZ (z + 1) ∧ Fr sW (c0 h1 0) x.2.2 ∧ RwM x.2.2 (7, 0, 2) (7, 0, 7) 0 0 (n, b, pf, nm)) (a := 0) (b := 5) (fun y => ∃ h2, y = some (iZ (bbN n pf 5), h2) ∧ Fr sW (c0 h1 0) h2 ∧ RwM h2 (7, 0, 2) (7, 0, 7) 0 0 (n, b, pf, nm)) (by decide) ?_ ?_ FU (iZ 0, iZ 1, c0 h1 0) (FU_gt (by omega)) ⟨rfl, rfl, Fr.rf, hM1⟩
    · intro f z x z0 z1 hI
      obtain ⟨x1, x3, h4⟩ := x
      obtain ⟨a1, a3, hF, m4⟩ := hI
      replace a1 : x1 = iZ (bbN n pf z) := a1
      replace a3 : x3 = iZ (z + 1) := a3
      replace hF : Fr sW (c0 h1 0) h4 := hF
      replace m4 : RwM h4 (7, 0, 2) (7, 0, 7) 0 0 (n, b, pf, nm) := m4
      subst a1; subst a3
      have hb := bbN_in n pf z0
      have w1 := hw (bbN n pf z) (by omega) (by omega)
      have w2 := hw (z + 1) (by omega) (by omega)
      obtain ⟨h5, e5, f5, m5⟩ := x9_wayWith m4 hok (p := z + 1) (by omega) (by omega)
      obtain ⟨h6, e6, f6, m6⟩ := x9_wayWith m5 hok (p := bbN n pf z) (by omega) (by omega)
      by_cases q : wyN n (z + 1) pf < wyN n (bbN n pf z) pf
      · refine ⟨(iZ (z + 1), iZ (z + 1 + 1), h6), ?_, ?_, rfl, (hF.tr f5).tr f6, m6⟩
        · show jX9_bestBack_L9 (f + 1) _ (iZ (z + 1)) h4 = _
          rw [jX9_bestBack_L9, i5, if_neg (lt_n (by omega) (by omega) (by omega)), e5, Option.bind_some, e6, Option.bind_some, if_neg (le_n (by omega) (by omega) (by omega)), i1, iZ_add]
        · show iZ (z + 1) = iZ (bbN n pf (z + 1))
          rw [bs z z0, if_pos q]
      · refine ⟨(iZ (bbN n pf z), iZ (z + 1 + 1), h6), ?_, ?_, rfl, (hF.tr f5).tr f6, m6⟩
        · show jX9_bestBack_L9 (f + 1) _ (iZ (z + 1)) h4 = _
          rw [jX9_bestBack_L9, i5, if_neg (lt_n (by omega) (by omega) (by omega)), e5, Option.bind_some, e6, Option.bind_some, if_pos (le_y (by omega) (by omega) (by omega)), i1, iZ_add]
        · show _ = iZ (bbN n pf (z + 1))
          rw [bs z z0, if_neg q]
    · intro f x hI
      obtain ⟨x1, x3, h4⟩ := x
      obtain ⟨a1, a3, hF, m4⟩ := hI
      replace a1 : x1 = iZ (bbN n pf 5) := a1
      replace a3 : x3 = iZ (5 + 1) := a3
      subst a1; subst a3
      refine ⟨h4, ?_, hF, m4⟩
      show jX9_bestBack_L9 (f + 1) _ (iZ (5 + 1)) h4 = _
      rw [jX9_bestBack_L9, i5, if_pos (lt_y (by omega) (by omega) (by omega))]
  obtain ⟨h2, e2, f2, m2⟩ := k9
  exact ⟨_, h1, h2, e1, e2, hR.new ((scr_U (f1.tr (c0_fr h1 0))).tr (sW_U f2)) ⟨hok, (hC.fr (f1.tr (c0_fr h1 0)) (scr_1 (by decide))).fr f2 (fun _ _ => rfl), m2⟩⟩
/-- the reference's try: the row laid away, one preference set -/
theorem x9_try {h : HD} {n b z v : Int} {pf : Int → Int} {nm : Int → List Nat} (hM : RwM h (7, 0, 2) (7, 0, 7) 0 0 (n, b, pf, nm)) (hn : 0 ≤ n ∧ n ≤ 11) (h1 : 0 ≤ z) (h2 : z < n) : ∃ h3, jX9_laysAway h = some h3 ∧ Fr sW h (sI h3 (7, 0, 2) (2 + z).toNat (iZ v)) ∧ RwM (sI h3 (7, 0, 2) (2 + z).toNat (iZ v)) (7, 0, 5) (7, 0, 10) 0 0 (n, b, pf, nm) ∧ RwM (sI h3 (7, 0, 2) (2 + z).toNat (iZ v)) (7, 0, 2) (7, 0, 7) 0 0 (n, b, updP pf z v, nm) := by
  obtain ⟨h3, e3, f3, a3, m3⟩ := x9_away hM hn.2
  exact ⟨h3, e3, (aw_W f3).tr (Fr.rf.sI rfl _), a3.fr (S := sCu) (Fr.rf.sI rfl _) (fun _ => rfl) (fun _ => rfl), x9_setw m3 h1⟩
theorem p_spotIf {h : HD} (hR : Rel h) (p w : Int32) : PP [2, 1] (jX8_spotIf p w h) (jX9_spotIf p w) := by
  obtain ⟨⟨⟨n, b, pf, nm⟩, hok, hC, hM⟩, -⟩ := id hR
  have ho : PrOk n b pf := hok.1
  have hP : PrC h 0 n b pf := hC.1
  have hQ : PrM h n b pf := hM.pr
  have hn : 0 ≤ n ∧ n ≤ 11 := ⟨ho.1, ho.2.1⟩
  obtain ⟨z, z1, z2, rfl⟩ := iZ_ex p
  obtain ⟨v, v1, v2, rfl⟩ := iZ_ex w
  by_cases q : 0 ≤ z ∧ z < n
  · by_cases qv : 0 ≤ v ∧ v ≤ n
    · obtain ⟨h1, e1, f1, k1⟩ := x8_parkedIf hC hok q.1 q.2 qv.1 qv.2
      have hM1 := (hM.fr f1 (fun _ => rfl) (fun _ => rfl))
      obtain ⟨h3, e3, f3, a3, m3⟩ := x9_try (v := v) (hM1.c0 0) hn q.1 q.2
      have q3 : PrM (sI h3 (7, 0, 2) (2 + z).toNat (iZ v)) n b (updP pf z v) := m3.pr
      obtain ⟨h4, e4, f4, k4⟩ := x9_parks q3 (upd_ok ho qv.1 qv.2) hn.1 (Int.le_refl n)
      have a4 := a3.fr f4 (fun _ => rfl) (fun _ => rfl)
      obtain ⟨h5, e5, f5, m5⟩ := x9_fromAway (iZ (sp (n + 1) b (updP pf z v) z)) a4 hn.2
      have F5 : Fr sW (c0 h1 0) h5 := (f3.tr (pm_W f4)).tr (cu_W f5)
      refine PP.ok (v := iZ (sp (n + 1) b (updP pf z v) z)) (h1 := h1) (h2 := h5) ?_ ?_ (hR.new ((scr_U (f1.tr (c0_fr h1 0))).tr (sW_U F5)) ⟨hok, (hC.fr (f1.tr (c0_fr h1 0)) (scr_1 (by decide))).fr F5 (fun _ _ => rfl), m5⟩) (by rw [F5.1 _ _ rfl]; exact c0_0 _ _)
      · unfold jX8_spotIf
        rw [x8_needCar (o := 0) hP hn z1 z2, if_pos q, Option.bind_some]
        show (jX8_needPreference (iZ v) h).bind _ = _
        rw [x8_needPref hP hn v1 v2, if_pos qv, Option.bind_some]
        show (jX8_parkedIf (iZ z) (iZ v) h).bind _ = _
        rw [e1, Option.bind_some, x4_spotOf k1.1 hn q.1 q.2]
        rfl
      · unfold jX9_spotIf
        rw [x9_isCar hM1.pr hn z1 z2, decide_eq_true q, Option.bind_some, x9_isSpot hM1.pr hn v1 v2, decide_eq_true qv, Option.bind_some, x9_both, Option.bind_some, Bool.and_self, if_pos rfl]
        show (jX9_laysAway (c0 h1 0)).bind _ = _
        rw [e3, Option.bind_some, i2, iZ_add, inB_t (by omega) (by omega) (by omega), if_pos rfl, lt_eq, iZ_nat (by omega) (by omega), q3.1, e4, Option.bind_some, inB_t (by omega) (by omega) (by omega), if_pos rfl, iZ_nat (by omega) (by omega), k4.2.1 z q.1 q.2, e5]
        rfl
    · refine PP.ex (h1 := h) (h2 := c0 h 2) (w := 0) 1 (e := 1) ?_ ?_ (hR.fr (c0_fr h 2)) rfl (c0_0 _ _)
      · unfold jX8_spotIf
        rw [x8_needCar (o := 0) hP hn z1 z2, if_pos q, Option.bind_some]
        show (jX8_needPreference (iZ v) h).bind _ = _
        rw [x8_needPref hP hn v1 v2, if_neg qv]
        rfl
      · unfold jX9_spotIf
        rw [x9_isCar hQ hn z1 z2, decide_eq_true q, Option.bind_some, x9_isSpot hQ hn v1 v2, decide_eq_false qv, Option.bind_some, x9_both]
        rfl
  · refine PP.ex (h1 := h) (h2 := c0 h 1) (w := 0) 0 (e := 2) ?_ ?_ (hR.fr (c0_fr h 1)) rfl (c0_0 _ _)
    · unfold jX8_spotIf
      rw [x8_needCar (o := 0) hP hn z1 z2, if_neg q]; rfl
    · unfold jX9_spotIf
      rw [x9_isCar hQ hn z1 z2, decide_eq_false q, Option.bind_some, x9_isSpot hQ hn v1 v2, Option.bind_some, x9_both]
      rfl
theorem p_settingIf {h : HD} (hR : Rel h) (p w u : Int32) : PP [2, 1] (jX8_settingIf p w u h) (jX9_settingIf p w u) := by
  obtain ⟨⟨⟨n, b, pf, nm⟩, hok, hC, hM⟩, -⟩ := id hR
  have ho : PrOk n b pf := hok.1
  have hP : PrC h 0 n b pf := hC.1
  have hQ : PrM h n b pf := hM.pr
  have hn : 0 ≤ n ∧ n ≤ 11 := ⟨ho.1, ho.2.1⟩
  obtain ⟨z, z1, z2, rfl⟩ := iZ_ex p
  obtain ⟨v, v1, v2, rfl⟩ := iZ_ex w
  obtain ⟨s, t1, t2, rfl⟩ := iZ_ex u
  by_cases q : 0 ≤ z ∧ z < n
  · by_cases qv : 0 ≤ v ∧ v ≤ n
    · by_cases qs : 0 ≤ s ∧ s ≤ 9
      · have hok2 : RwOk (n, b, updP pf z v, nm) := ⟨upd_ok ho qv.1 qv.2, hok.2⟩
        obtain ⟨g3, d3, j3, c3⟩ := x2_copy (o := 1) (r := 0) (by decide) hC hn.2
        obtain ⟨g4, d4, j4, c4⟩ := x2_chg (v := v) c3 hn q.1 q.2
        obtain ⟨h1, e1, j5⟩ := x8_settingOf 1 c4 hok2 (iZ s)
        have f1 : Fr scr h h1 := ((s1_scr (Or.inl rfl) j3).tr (s1_scr (Or.inl rfl) j4)).tr (sPk_scr j5)
        have hM1 := (hM.fr f1 (fun _ => rfl) (fun _ => rfl))
        obtain ⟨h3, e3, f3, a3, m3⟩ := x9_try (v := v) (hM1.c0 0) hn q.1 q.2
        obtain ⟨h4, e4, f4⟩ := x9_settingOf (R := (n, b, updP pf z v, nm)) m3.pr hok2 (iZ s)
        have a4 := a3.fr f4 (fun _ => rfl) (fun _ => rfl)
        obtain ⟨h5, e5, f5, m5⟩ := x9_fromAway (iZ (stN (n, b, updP pf z v, nm) (iZ s))) a4 hn.2
        have F5 : Fr sW (c0 h1 0) h5 := (f3.tr (pm_W f4)).tr (cu_W f5)
        refine PP.ok (v := iZ (stN (n, b, updP pf z v, nm) (iZ s))) (h1 := h1) (h2 := h5) ?_ ?_ (hR.new ((scr_U (f1.tr (c0_fr h1 0))).tr (sW_U F5)) ⟨hok, (hC.fr (f1.tr (c0_fr h1 0)) (scr_1 (by decide))).fr F5 (fun _ _ => rfl), m5⟩) (by rw [F5.1 _ _ rfl]; exact c0_0 _ _)
        · unfold jX8_settingIf
          rw [x8_needCar (o := 0) hP hn z1 z2, if_pos q, Option.bind_some]
          show (jX8_needPreference (iZ v) h).bind _ = _
          rw [x8_needPref hP hn v1 v2, if_pos qv, Option.bind_some]
          show (jX8_needSetting (iZ s) h).bind _ = _
          rw [x8_needSet h t1 t2, if_pos qs, Option.bind_some]
          rw [sm_r, d3, Option.bind_some, d4, Option.bind_some, e1]
          rfl
        · unfold jX9_settingIf
          rw [x9_isCar hM1.pr hn z1 z2, decide_eq_true q, Option.bind_some, x9_isSpot hM1.pr hn v1 v2, decide_eq_true qv, Option.bind_some, if_pos rfl, x9_isSet _ t1 t2, decide_eq_true qs, if_pos rfl, x9_both, Option.bind_some, Bool.and_self, if_pos rfl]
          show (jX9_laysAway (c0 h1 0)).bind _ = _
          rw [e3, Option.bind_some, i2, iZ_add, inB_t (by omega) (by omega) (by omega), if_pos rfl, lt_eq, iZ_nat (by omega) (by omega), e4, Option.bind_some, e5]
          rfl
      · refine PP.ex (h1 := h) (h2 := c0 h 2) (w := 0) 1 (e := 1) ?_ ?_ (hR.fr (c0_fr h 2)) rfl (c0_0 _ _)
        · unfold jX8_settingIf
          rw [x8_needCar (o := 0) hP hn z1 z2, if_pos q, Option.bind_some]
          show (jX8_needPreference (iZ v) h).bind _ = _
          rw [x8_needPref hP hn v1 v2, if_pos qv, Option.bind_some]
          show (jX8_needSetting (iZ s) h).bind _ = _
          rw [x8_needSet h t1 t2, if_neg qs]
          rfl
        · unfold jX9_settingIf
          rw [x9_isCar hQ hn z1 z2, decide_eq_true q, Option.bind_some, x9_isSpot hQ hn v1 v2, decide_eq_true qv, Option.bind_some, if_pos rfl, x9_isSet _ t1 t2, decide_eq_false qs, if_neg (by decide), x9_both]
          rfl
    · refine PP.ex (h1 := h) (h2 := c0 h 2) (w := 0) 1 (e := 1) ?_ ?_ (hR.fr (c0_fr h 2)) rfl (c0_0 _ _)
      · unfold jX8_settingIf
        rw [x8_needCar (o := 0) hP hn z1 z2, if_pos q, Option.bind_some]
        show (jX8_needPreference (iZ v) h).bind _ = _
        rw [x8_needPref hP hn v1 v2, if_neg qv]
        rfl
      · unfold jX9_settingIf
        rw [x9_isCar hQ hn z1 z2, decide_eq_true q, Option.bind_some, x9_isSpot hQ hn v1 v2, decide_eq_false qv, Option.bind_some, if_neg (by decide), x9_both]
        rfl
  · refine PP.ex (h1 := h) (h2 := c0 h 1) (w := 0) 0 (e := 2) ?_ ?_ (hR.fr (c0_fr h 1)) rfl (c0_0 _ _)
    · unfold jX8_settingIf
      rw [x8_needCar (o := 0) hP hn z1 z2, if_neg q]; rfl
    · unfold jX9_settingIf
      rw [x9_isCar hQ hn z1 z2, decide_eq_false q, Option.bind_some, x9_isSpot hQ hn v1 v2, Option.bind_some, x9_isSet _ t1 t2]
      by_cases qv : 0 ≤ v ∧ v ≤ n
      · rw [decide_eq_true qv, if_pos rfl]
        by_cases qs : 0 ≤ s ∧ s ≤ 9
        · rw [decide_eq_true qs, if_pos rfl, x9_both]; rfl
        · rw [decide_eq_false qs, if_neg (by decide), x9_both]; rfl
      · rw [decide_eq_false qv, if_neg (by decide), x9_both]; rfl
