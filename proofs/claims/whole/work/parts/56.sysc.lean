/-! A SYSTEM that is read: the class -/
/-- a row that is not yet whole: its preferences may be greater than its cars -/
def RwW (R : Row) : Prop := (0 ≤ R.1 ∧ R.1 ≤ 11) ∧ ∀ z, 0 ≤ z → z < R.1 → NmOk (R.2.2.2 z)
theorem x2_carNamedW {h : HD} {o : Nat} {R : Row} {k : List Nat} (hC : RwC h o R) (hok : RwW R) (hk : NmZ k) : jX2_carNamed o (jZ (eC k)) h = some (iZ (cnN R k)) := by
  have hn : 0 ≤ R.1 ∧ R.1 ≤ 11 := hok.1
  obtain ⟨g, hg⟩ : ∃ g, fnd (fun c => decide (R.2.2.2 c = k)) R.1.toNat 0 = g := ⟨_, rfl⟩
  have g1 := fnd_ge (fun c => decide (R.2.2.2 c = k)) R.1.toNat 0
  have g2 : ∀ z, 0 ≤ z → z < g → ¬ R.2.2.2 z = k := fun z q1 q2 => of_decide_eq_false (fnd_not (fun c => decide (R.2.2.2 c = k)) R.1.toNat 0 z q1 (by omega))
  have g3 : g < R.1 → R.2.2.2 g = k := fun q => by
    have := fnd_is (fun c => decide (R.2.2.2 c = k)) R.1.toNat 0 (by omega)
    rw [hg] at this
    exact of_decide_eq_true this
  have hcmp : ∀ z, 0 ≤ z → z < R.1 → (lg_cmp (jZ (eC (R.2.2.2 z))) (jZ (eC k)) = 0 ↔ R.2.2.2 z = k) := fun z q1 q2 => by
    have a1 := eC_le (hok.2 z q1 q2)
    have a2 := eC_z hk
    rw [lg_eq0, jZ_eq (by omega) (by omega) (by omega) (by omega)]
    exact eC_eq (hok.2 z q1 q2) hk
  unfold jX2_carNamed cnN fcar
  rw [hg, i0]
  refine loopN (fun f (x : Int32) => jX2_carNamed_L2 o (jZ (eC k)) h f x) iZ (a := 0) (b := g) (by omega) (fun f z q1 q2 => ?_) (fun f => ?_) FU (FU_gt (by omega))
  · show jX2_carNamed_L2 o (jZ (eC k)) h (f + 1) (iZ z) = _
    rw [jX2_carNamed_L2, hC.1.1, if_neg (le_n (by omega) (by omega) (by omega)), x2_nameOf hC hn q1 (by omega), Option.bind_some, if_neg (fun e => g2 z q1 q2 ((hcmp z q1 (by omega)).mp e)), i1, iZ_add]
  · show jX2_carNamed_L2 o (jZ (eC k)) h (f + 1) (iZ g) = _
    rw [jX2_carNamed_L2, hC.1.1]
    by_cases q : g < R.1
    · rw [if_neg (le_n (by omega) (by omega) (by omega)), x2_nameOf hC hn (by omega) q, Option.bind_some, if_pos ((hcmp g (by omega) q).mpr (g3 q)), if_pos q]
    · rw [if_pos (le_y (by omega) (by omega) (by omega)), if_neg q, im1]
theorem x9_carNamedW {h : HD} {R : Row} {k : List Nat} (hM : RwM h (7, 0, 2) (7, 0, 7) 0 0 R) (hok : RwW R) (hk : NmZ k) : jX9_carNamed (jZ (eM k)) h = some (iZ (cnN R k)) := by
  have hn : 0 ≤ R.1 ∧ R.1 ≤ 11 := hok.1
  obtain ⟨g, hg⟩ : ∃ g, fnd (fun c => decide (R.2.2.2 c = k)) R.1.toNat 0 = g := ⟨_, rfl⟩
  have g1 := fnd_ge (fun c => decide (R.2.2.2 c = k)) R.1.toNat 0
  have g2 : ∀ z, 0 ≤ z → z < g → ¬ R.2.2.2 z = k := fun z q1 q2 => of_decide_eq_false (fnd_not (fun c => decide (R.2.2.2 c = k)) R.1.toNat 0 z q1 (by omega))
  have g3 : g < R.1 → R.2.2.2 g = k := fun q => by
    have := fnd_is (fun c => decide (R.2.2.2 c = k)) R.1.toNat 0 (by omega)
    rw [hg] at this
    exact of_decide_eq_true this
  have n4 : ∀ z : Int, 0 ≤ z → z < R.1 → gJ h (7, 0, 7) z.toNat = jZ (eM (R.2.2.2 z)) := fun z q1 q2 => by
    have := hM.2.2.2 z q1 q2
    rwa [Int.zero_add] at this
  have hcmp : ∀ z, 0 ≤ z → z < R.1 → (lg_cmp (jZ (eM (R.2.2.2 z))) (jZ (eM k)) = 0 ↔ R.2.2.2 z = k) := fun z q1 q2 => by
    have a1 := eM_le (hok.2 z q1 q2)
    have a2 := eM_z hk
    rw [lg_eq0, jZ_eq (by omega) (by omega) (by omega) (by omega)]
    exact eM_eq (hok.2 z q1 q2) hk
  have h0 : gI h (7, 0, 2) 0 = iZ R.1 := hM.pr.1
  unfold jX9_carNamed cnN fcar
  rw [hg, i0]
  refine loopN (fun f (x : Int32) => jX9_carNamed_L2 (jZ (eM k)) h f x) iZ (a := 0) (b := g) (by omega) (fun f z q1 q2 => ?_) (fun f => ?_) FU (FU_gt (by omega))
  · show jX9_carNamed_L2 (jZ (eM k)) h (f + 1) (iZ z) = _
    rw [jX9_carNamed_L2, h0, if_neg (le_n (by omega) (by omega) (by omega)), inB_t (by omega) (by omega) (by omega), if_pos rfl, iZ_nat (by omega) (by omega), n4 z q1 (by omega), if_neg (fun e => g2 z q1 q2 ((hcmp z q1 (by omega)).mp e)), i1, iZ_add]
  · show jX9_carNamed_L2 (jZ (eM k)) h (f + 1) (iZ g) = _
    rw [jX9_carNamed_L2, h0]
    by_cases q : g < R.1
    · rw [if_neg (le_n (by omega) (by omega) (by omega)), inB_t (by omega) (by omega) (by omega), if_pos rfl, iZ_nat (by omega) (by omega), n4 g (by omega) q, if_pos ((hcmp g (by omega) q).mpr (g3 q)), if_pos q]
    · rw [if_pos (le_y (by omega) (by omega) (by omega)), if_neg q, im1]
theorem x2_addW {g : HD} {o : Nat} {R : Row} {k : List Nat} {v : Int} (hC : RwC g o R) (hn : 0 ≤ R.1 ∧ R.1 ≤ 11) (q1 : R.1 < 11) : ∃ h4, jX2_add o (jZ (eC k)) (iZ v) g = some h4 ∧ Fr (s1 o) g h4 ∧ RwC h4 o (comR R k v) := by
  have nj : ∀ i j : Nat, i ≠ j → ((1, o, i) : Rf) ≠ (1, o, j) := fun i j hij e => hij (congrArg (fun x : Rf => x.2.2) e)
  obtain ⟨⟨p2, p3, pp⟩, pn⟩ := hC
  refine ⟨sI (sJ (sI g (1, o, 0) 2 (iZ (R.1 + 1))) (1, o, 1) R.1.toNat (jZ (eC k))) (1, o, 2) R.1.toNat (iZ v), ?_, ((Fr.rf.sI (s1_t o 0 _) _).sJ (s1_t o 1 _) _).sI (s1_t o 2 _) _, ⟨?_, ?_, ?_⟩, ?_⟩
  · unfold jX2_add jX2_put
    rw [p2, i11, if_neg (le_n (by omega) (by omega) (by omega)), lt_eq, i1, iZ_add, gI_self, iZ_sub, show R.1 + 1 - 1 = R.1 by omega, x2_hasCar (n := R.1 + 1) (gI_self _ _ _ _) ⟨by omega, by omega⟩ (by omega) (by omega), decide_eq_true ⟨hn.1, by omega⟩, if_pos rfl, inB_t (by omega) (by omega) (by omega), if_pos rfl, lt_eq, if_pos rfl, lt_eq, iZ_nat (by omega) (by omega)]
    rfl
  · rw [gI_ne _ (nj 0 2 (by decide)), gI_sJ, gI_self]; rfl
  · rw [gI_ne _ (nj 0 2 (by decide)), gI_sJ, gI_nk _ _ _ (by decide)]; exact p3
  · intro z z1 z2
    replace z2 : z < R.1 + 1 := z2
    show _ = iZ (updP R.2.2.1 R.1 v z)
    unfold updP
    rw [gI_sI, gI_sJ]
    by_cases e : z = R.1
    · rw [if_pos ⟨rfl, by rw [e]⟩, if_pos e]
    · rw [if_neg (fun q => e (by omega)), if_neg e, gI_ne _ (nj 2 0 (by decide))]
      exact pp z z1 (by omega)
  · intro z z1 z2
    replace z2 : z < R.1 + 1 := z2
    show _ = jZ (eC (if z = R.1 then k else R.2.2.2 z))
    rw [gJ_sI, gJ_sJ]
    by_cases e : z = R.1
    · rw [if_pos ⟨rfl, by rw [e]⟩, if_pos e]
    · rw [if_neg (fun q => e (by omega)), if_neg e, gJ_sI]
      exact pn z z1 (by omega)
