/-! CHANGES, one side at a time -/
abbrev Ac : Type := Nat → Int32
def bmp (i : Nat) (a : Ac) : Ac := fun j => if j = i then a j + 1 else a j
theorem bmp_c {i j : Nat} (h : i ≠ j) (a : Ac) : bmp i (bmp j a) = bmp j (bmp i a) := by
  funext k
  unfold bmp
  by_cases h1 : k = i
  · rw [if_pos h1, if_neg (by omega), if_neg (by omega), if_pos h1]
  · rw [if_neg h1]
    by_cases h2 : k = j
    · rw [if_pos h2, if_pos h2, if_neg h1]
    · rw [if_neg h2, if_neg h2, if_neg h1]
/-- the current row, the accounts, the latest refusal -/
abbrev S3 : Type := Row × Ac × Int32
def SC (h : HD) (s : S3) : Prop := RwC h 0 s.1 ∧ (∀ i : Nat, i < 5 → gI h (6, 0, 2) i = s.2.1 i) ∧ gI h (6, 0, 0) 16 = s.2.2
def SM (h : HD) (s : S3) : Prop := RwM h (7, 0, 2) (7, 0, 7) 0 0 s.1 ∧ (∀ i : Nat, i < 5 → gI h (7, 0, 12) i = s.2.1 i) ∧ gI h (7, 0, 0) 26 = s.2.2
def sA8 : Rf → Nat → Bool := fun r k => (Nat.beq r.1 1 && (Nat.beq r.2.1 0 || Nat.beq r.2.1 1)) || (Nat.beq r.1 6 && Nat.beq r.2.2 2) || (Nat.beq r.1 6 && Nat.beq r.2.2 0 && Nat.beq k 16)
def sA9 : Rf → Nat → Bool := fun r k => Nat.beq r.1 7 && (Nat.beq r.2.2 2 || Nat.beq r.2.2 5 || Nat.beq r.2.2 7 || Nat.beq r.2.2 10 || Nat.beq r.2.2 12 || (Nat.ble 13 r.2.2 && Nat.ble r.2.2 24) || (Nat.beq r.2.2 0 && Nat.beq k 26))
theorem s1_A8 {o : Nat} (ho : o = 0 ∨ o = 1) {h h2 : HD} (hF : Fr (s1 o) h h2) : Fr sA8 h h2 := hF.mono fun r k q => by
  unfold sA8 at q
  simp only [Bool.or_eq_false_iff] at q
  have q1 := q.1.1
  unfold s1
  rcases ho with rfl | rfl
  · revert q1
    cases Nat.beq r.1 1 <;> cases Nat.beq r.2.1 0 <;> simp
  · revert q1
    cases Nat.beq r.1 1 <;> cases Nat.beq r.2.1 0 <;> cases Nat.beq r.2.1 1 <;> simp
theorem sW_A9 {h h2 : HD} (hF : Fr sW h h2) : Fr sA9 h h2 := hF.mono fun r k q => by
  unfold sA9 at q
  unfold sW
  cases e7 : Nat.beq r.1 7
  · rfl
  · rw [e7] at q
    simp only [Bool.true_and, Bool.or_eq_false_iff] at q ⊢
    have hb : ∀ j, 13 ≤ j → j ≤ 24 → Nat.beq r.2.2 j = false := by
      intro j h1 h2
      cases e : Nat.beq r.2.2 j with
      | false => rfl
      | true =>
        have := Nat.eq_of_beq_eq_true e
        rw [this] at q
        have a1 : Nat.ble 13 j = true := Nat.ble_eq_true_of_le h1
        have a2 : Nat.ble j 24 = true := Nat.ble_eq_true_of_le h2
        rw [a1, a2] at q
        exact absurd q.1.2 (by decide)
    exact ⟨⟨⟨⟨⟨⟨q.1.1.1.1.1.1, q.1.1.1.1.1.2⟩, q.1.1.1.1.2⟩, q.1.1.1.2⟩, hb 13 (by decide) (by decide)⟩, hb 14 (by decide) (by decide)⟩, hb 15 (by decide) (by decide)⟩
theorem SC.bump {h : HD} {R : Row} {a : Ac} {rf : Int32} (hS : SC h (R, a, rf)) (i : Nat) (hi : i < 5) : SC (sI h (6, 0, 2) i (gI h (6, 0, 2) i + 1)) (R, bmp i a, rf) := by
  obtain ⟨h1, h2, h3⟩ := hS
  refine ⟨h1.fr (S := fun q _ => decide (q = (6, 0, 2))) (Fr.rf.sI rfl _) (fun j k => decide_eq_false (fun e => by cases e)), fun j hj => ?_, (gI_ne _ (by decide) _ _ _).trans h3⟩
  show gI (sI h (6, 0, 2) i _) (6, 0, 2) j = bmp i a j
  unfold bmp
  by_cases e : j = i
  · rw [e, gI_self, if_pos rfl, h2 i hi]
  · rw [gI_nk _ _ _ e, if_neg e]; exact h2 j hj
theorem SM.bump {h : HD} {R : Row} {a : Ac} {rf : Int32} (hS : SM h (R, a, rf)) (i : Nat) (hi : i < 5) : SM (sI h (7, 0, 12) i (gI h (7, 0, 12) i + 1)) (R, bmp i a, rf) := by
  obtain ⟨h1, h2, h3⟩ := hS
  refine ⟨h1.fr (S := fun q _ => decide (q = (7, 0, 12))) (Fr.rf.sI rfl _) (fun k => rfl) (fun k => rfl), fun j hj => ?_, (gI_ne _ (by decide) _ _ _).trans h3⟩
  show gI (sI h (7, 0, 12) i _) (7, 0, 12) j = bmp i a j
  unfold bmp
  by_cases e : j = i
  · rw [e, gI_self, if_pos rfl, h2 i hi]
  · rw [gI_nk _ _ _ e, if_neg e]; exact h2 j hj
theorem SC.row {h h2 : HD} {R R2 : Row} {a : Ac} {rf : Int32} (hS : SC h (R, a, rf)) {o : Nat} (hF : Fr (s1 o) h h2) (hR : RwC h2 0 R2) : SC h2 (R2, a, rf) := ⟨hR, fun i hi => (hF.1 _ _ rfl).trans (hS.2.1 i hi), (hF.1 _ _ rfl).trans hS.2.2⟩
theorem SM.row {h h2 : HD} {R R2 : Row} {a : Ac} {rf : Int32} (hS : SM h (R, a, rf)) {S : Rf → Nat → Bool} (hF : Fr S h h2) (h1 : ∀ k, S (7, 0, 12) k = false) (h3 : S (7, 0, 0) 26 = false) (hR : RwM h2 (7, 0, 2) (7, 0, 7) 0 0 R2) : SM h2 (R2, a, rf) := ⟨hR, fun i hi => (hF.1 _ _ (h1 _)).trans (hS.2.1 i hi), (hF.1 _ _ h3).trans hS.2.2⟩
theorem b8_fr (h : HD) (i : Nat) (v : Int32) : Fr sA8 h (sI h (6, 0, 2) i v) := Fr.rf.sI rfl _
theorem b9_fr (h : HD) (i : Nat) (v : Int32) : Fr sA9 h (sI h (7, 0, 12) i v) := Fr.rf.sI rfl _
theorem d8_refuse {h : HD} {R : Row} {a : Ac} {rf : Int32} (hS : SC h (R, a, rf)) (k : Int32) : ∃ h2, jX8_refuse k h = some (false, h2) ∧ Fr sA8 h h2 ∧ SC h2 (R, bmp 1 a, k) := by
  refine ⟨_, rfl, (Fr.rf.sI rfl k).tr (b8_fr _ 1 _), SC.bump (rf := k) ⟨hS.1.fr (S := fun q _ => decide (q = (6, 0, 0))) (Fr.rf.sI rfl _) (fun j k => decide_eq_false (fun e => by cases e)), fun i hi => (gI_ne _ (by decide) _ _ _).trans (hS.2.1 i hi), gI_self _ _ _ _⟩ 1 (by decide)⟩
theorem d9_refuse {h : HD} {R : Row} {a : Ac} {rf : Int32} (hS : SM h (R, a, rf)) {k : Int32} (hk : k ≠ 0) : ∃ h2, jX9_refused k h = some (true, h2) ∧ Fr sA9 h h2 ∧ SM h2 (R, bmp 1 a, k) := by
  refine ⟨_, ?_, (Fr.rf.sI rfl k).tr (b9_fr _ 1 _), SM.bump (rf := k) ⟨hS.1.fr (S := fun q _ => decide (q = (7, 0, 0))) (Fr.rf.sI rfl _) (fun k => rfl) (fun k => rfl), fun i hi => (gI_ne _ (by decide) _ _ _).trans (hS.2.1 i hi), gI_self _ _ _ _⟩ 1 (by decide)⟩
  unfold jX9_refused
  rw [if_neg hk]
  rfl
theorem d9_acted {h : HD} {R : Row} {a : Ac} {rf : Int32} (hS : SM h (R, a, rf)) (v : Int32) : ∃ h2, jX9_acted v h = some (v, h2) ∧ Fr sA9 h h2 ∧ SM h2 (R, bmp 0 a, rf) := ⟨_, rfl, b9_fr _ 0 _, hS.bump 0 (by decide)⟩
section
variable {h : HD} {n b : Int} {pf : Int → Int} {nm : Int → List Nat} {a : Ac} {rf : Int32}
/-! prefer -/
theorem d8_prefer {z v : Int} (hS : SC h ((n, b, pf, nm), a, rf)) (hn : 0 ≤ n ∧ n ≤ 11) (h1 : 0 ≤ z) (h2 : z < n) : ∃ h3, jX8_doPrefer (iZ z) (iZ v) h = some (true, h3) ∧ Fr sA8 h h3 ∧ SC h3 ((n, b, updP pf z v, nm), bmp 0 a, rf) := by
  have hB := hS.bump 0 (by decide)
  obtain ⟨h4, e4, f4, c4⟩ := x2_chg (v := v) hB.1 hn h1 h2
  refine ⟨h4, ?_, (b8_fr _ 0 _).tr (s1_A8 (Or.inl rfl) f4), hB.row f4 c4⟩
  unfold jX8_doPrefer
  rw [lt_eq, e4]
  rfl
theorem d9_wishes {z v : Int} (hS : SM h ((n, b, pf, nm), a, rf)) (hn : 0 ≤ n ∧ n ≤ 11) (h1 : 0 ≤ z) (h2 : z < n) : ∃ h3, jX9_wishes (iZ z) (iZ v) h = some (iZ (pf z), h3) ∧ Fr sA9 h h3 ∧ SM h3 ((n, b, updP pf z v, nm), bmp 0 a, rf) := by
  have f4 : Fr sCu h (sI h (7, 0, 2) (2 + z).toNat (iZ v)) := Fr.rf.sI rfl _
  have hS4 := hS.row f4 (fun _ => rfl) rfl (x9_setw (v := v) hS.1 h1)
  obtain ⟨h5, e5, f5, s5⟩ := d9_acted hS4 (iZ (pf z))
  refine ⟨h5, ?_, (sW_A9 (cu_W f4)).tr f5, s5⟩
  unfold jX9_wishes
  rw [x9_wish hS.1.pr hn h1 h2, Option.bind_some, i2, iZ_add, inB_t (by omega) (by omega) (by omega), if_pos rfl, lt_eq, iZ_nat (by omega) (by omega), e5]
  rfl
/-! swap -/
theorem d8_swap {z : Int} (hS : SC h ((n, b, pf, nm), a, rf)) (hn : 0 ≤ n ∧ n ≤ 11) (h1 : 0 ≤ z) (h2 : z < n) : ∃ h3, jX8_doSwap (iZ z) h = some (decide (z + 1 < n), h3) ∧ Fr sA8 h h3 ∧ SC h3 (if z + 1 < n then (swR (n, b, pf, nm) z (z + 1), bmp 0 a, rf) else ((n, b, pf, nm), bmp 1 a, 3)) := by
  unfold jX8_doSwap
  rw [i1, iZ_add, x2_hasCar hS.1.1.1 hn (by omega) (by omega)]
  by_cases q : z + 1 < n
  · have hB := hS.bump 0 (by decide)
    obtain ⟨h4, e4, f4, c4⟩ := x2_exch (x := z) (y := z + 1) hB.1 hn h1 h2 (by omega) q
    refine ⟨h4, ?_, (b8_fr _ 0 _).tr (s1_A8 (Or.inl rfl) f4), ?_⟩
    · rw [decide_eq_true ⟨by omega, q⟩, if_pos rfl, lt_eq, ← i1, e4, decide_eq_true q]
      rfl
    · rw [if_pos q]; exact hB.row f4 c4
  · obtain ⟨h4, e4, f4, c4⟩ := d8_refuse hS 3
    refine ⟨h4, ?_, f4, ?_⟩
    · rw [decide_eq_false (fun e => q e.2), if_neg (by decide), e4, decide_eq_false q]
      rfl
    · rw [if_neg q]; exact c4
theorem d9_whySwap {z : Int} (hM : RwM h (7, 0, 2) (7, 0, 7) 0 0 (n, b, pf, nm)) (hn : 0 ≤ n ∧ n ≤ 11) (h1 : 0 ≤ z) (h2 : z < n) : jX9_whyNoSwap (iZ z) h = some (iZ (if z + 1 < n then 0 else 3)) := by
  unfold jX9_whyNoSwap
  rw [hM.pr.1, i1, iZ_sub]
  by_cases q : z + 1 < n
  · rw [if_neg (eq_n (b := n - 1) (by omega) (by omega) (by omega) (by omega) (by omega)), if_pos q]; rfl
  · rw [if_pos (by rw [show z = n - 1 by omega]), if_neg q]; rfl
theorem d9_swaps {z : Int} (hS : SM h ((n, b, pf, nm), a, rf)) (hn : 0 ≤ n ∧ n ≤ 11) (h1 : 0 ≤ z) (h2 : z + 1 < n) : ∃ h3, jX9_swaps (iZ z) h = some (iZ z, h3) ∧ Fr sA9 h h3 ∧ SM h3 (swR (n, b, pf, nm) z (z + 1), bmp 0 a, rf) := by
  obtain ⟨h4, e4, f4, c4⟩ := x9_chgPl (x := z) (y := z + 1) hS.1 hn h1 (show z < n by omega) (by omega) h2
  obtain ⟨h5, e5, f5, s5⟩ := d9_acted (hS.row f4 (fun _ => rfl) rfl c4) (iZ z)
  refine ⟨h5, ?_, (sW_A9 (cu_W f4)).tr f5, s5⟩
  unfold jX9_swaps
  rw [i1, iZ_add, e4, Option.bind_some, e5]
  rfl
/-! setBack -/
theorem d8_back {v : Int} (hS : SC h ((n, b, pf, nm), a, rf)) : ∃ h3, jX8_doSetBack (iZ v) h = some (true, h3) ∧ Fr sA8 h h3 ∧ SC h3 ((n, v, pf, nm), bmp 0 a, rf) := by
  have hB := hS.bump 0 (by decide)
  obtain ⟨h4, e4, f4, c4⟩ := x2_back (v := v) hB.1
  refine ⟨h4, ?_, (b8_fr _ 0 _).tr (s1_A8 (Or.inl rfl) f4), hB.row f4 c4⟩
  unfold jX8_doSetBack
  rw [lt_eq, e4]
  rfl
theorem d9_back {v : Int} (hS : SM h ((n, b, pf, nm), a, rf)) : ∃ h3, jX9_looksBack (iZ v) h = some (iZ b, h3) ∧ Fr sA9 h h3 ∧ SM h3 ((n, v, pf, nm), bmp 0 a, rf) := by
  have f4 : Fr sCu h (sI h (7, 0, 2) 1 (iZ v)) := Fr.rf.sI rfl _
  obtain ⟨h5, e5, f5, s5⟩ := d9_acted (hS.row f4 (fun _ => rfl) rfl (x9_setb (v := v) hS.1)) (iZ b)
  refine ⟨h5, ?_, (sW_A9 (cu_W f4)).tr f5, s5⟩
  unfold jX9_looksBack
  rw [lt_eq, hS.1.pr.2.1, e5]
  rfl
/-! turn -/
def tuF (n v : Int) (pf : Int → Int) (z : Int) : Int → Int := fun i => if i < z then (pf i + v) % (n + 1) else pf i
theorem tuF_ok {v z : Int} (ho : PrOk n b pf) : PrOk n b (tuF n v pf z) := ⟨ho.1, ho.2.1, ho.2.2.1, ho.2.2.2.1, fun c q1 q2 => by
  have hn0 := ho.1
  have := emod_in (pf c + v) (N := n + 1) (by omega)
  have := ho.2.2.2.2 c q1 q2
  unfold tuF
  split <;> omega⟩
theorem tuF_s {v z : Int} : updP (tuF n v pf z) z ((pf z + v) % (n + 1)) = tuF n v pf (z + 1) := by
  funext i
  unfold updP tuF
  by_cases e : i = z
  · rw [if_pos e, if_pos (by omega), e]
  · rw [if_neg e]
    by_cases e2 : i < z
    · rw [if_pos e2, if_pos (by omega)]
    · rw [if_neg e2, if_neg (by omega)]
theorem tuF_0 {v : Int} : ∀ i, 0 ≤ i → tuF n v pf 0 i = pf i := fun i hi => by unfold tuF; rw [if_neg (by omega)]
theorem RwC.eqp {o : Nat} {pf2 : Int → Int} (hC : RwC h o (n, b, pf, nm)) (he : ∀ i, 0 ≤ i → i < n → pf i = pf2 i) : RwC h o (n, b, pf2, nm) := ⟨⟨hC.1.1, hC.1.2.1, hC.1.2.2.eq he⟩, hC.2⟩
theorem RwM.eqp {r t : Rf} {x y : Int} {pf2 : Int → Int} (hM : RwM h r t x y (n, b, pf, nm)) (he : ∀ i, 0 ≤ i → i < n → pf i = pf2 i) : RwM h r t x y (n, b, pf2, nm) := ⟨hM.1, hM.2.1, fun z q1 q2 => by
  have := hM.2.2.1 z q1 q2
  rw [this]
  show iZ (pf z) = iZ (pf2 z)
  rw [he z q1 q2], hM.2.2.2⟩
theorem d8_turn {v : Int} (hS : SC h ((n, b, pf, nm), a, rf)) (ho : PrOk n b pf) (v0 : 0 ≤ v) (v1 : v ≤ 99) : ∃ h3, jX8_doTurn (iZ v) h = some (true, h3) ∧ Fr sA8 h h3 ∧ SC h3 ((n, b, tuF n v pf n, nm), bmp 0 a, rf) := by
  have hn0 := ho.1
  have hn := ho.2.1
  have hB := hS.bump 0 (by decide)
  have key : ∃ h4, jX2_turnBy 0 (iZ v) (sI h (6, 0, 2) 0 (gI h (6, 0, 2) 0 + 1)) = some h4 ∧ Fr (s1 0) (sI h (6, 0, 2) 0 (gI h (6, 0, 2) 0 + 1)) h4 ∧ RwC h4 0 (n, b, tuF n v pf n, nm) := by
    generalize sI h (6, 0, 2) 0 (gI h (6, 0, 2) 0 + 1) = g at hB ⊢
    unfold jX2_turnBy
    rw [i0]
    refine loopI (fun f (x : Int32 × HD) => jX2_turnBy_L2 0 (iZ v) f x.1 x.2) (fun z x => x.1 = iZ z ∧ Fr (s1 0) g x.2 ∧ RwC x.2 0 (n, b, tuF n v pf z, nm)) (a := 0) (b := n) (fun y => ∃ h4, y = some h4 ∧ Fr (s1 0) g h4 ∧ RwC h4 0 (n, b, tuF n v pf n, nm)) hn0 ?_ ?_ FU (iZ 0, g) (FU_gt (by omega)) ⟨rfl, Fr.rf, hB.1.eqp (fun i q1 _ => (tuF_0 i q1).symm)⟩
    · intro f z x z0 z1 hI
      obtain ⟨x1, h4⟩ := x
      obtain ⟨a1, hF, hR4⟩ := hI
      replace a1 : x1 = iZ z := a1
      replace hR4 : RwC h4 0 (n, b, tuF n v pf z, nm) := hR4
      subst a1
      have hp := ho.2.2.2.2 z z0 z1
      obtain ⟨h5, e5, f5, c5⟩ := x2_chg (v := (pf z + v) % (n + 1)) hR4 ⟨hn0, hn⟩ z0 z1
      rw [tuF_s] at c5
      refine ⟨(iZ (z + 1), h5), ?_, rfl, Fr.tr hF f5, c5⟩
      have ez : tuF n v pf z z = pf z := by unfold tuF; rw [if_neg (by omega)]
      show jX2_turnBy_L2 0 (iZ v) (f + 1) (iZ z) h4 = _
      rw [jX2_turnBy_L2, hR4.1.1, if_neg (le_n (by omega) (by omega) (by omega)), x2_pref hR4.1 ⟨hn0, hn⟩ z0 z1, Option.bind_some]
      show ((jX8_wrapped (iZ (tuF n v pf z z) + iZ v) (iZ n + 1) h4).bind _) = _
      rw [ez, i1, iZ_add, iZ_add, w_wrapped h4 (by omega) (by omega) (by omega) (by omega), Option.bind_some, e5, Option.bind_some, iZ_add]
    · intro f x hI
      obtain ⟨x1, h4⟩ := x
      obtain ⟨a1, hF, hR4⟩ := hI
      replace a1 : x1 = iZ n := a1
      replace hR4 : RwC h4 0 (n, b, tuF n v pf n, nm) := hR4
      subst a1
      refine ⟨h4, ?_, hF, hR4⟩
      show jX2_turnBy_L2 0 (iZ v) (f + 1) (iZ n) h4 = _
      rw [jX2_turnBy_L2, hR4.1.1, if_pos (le_y (by omega) (by omega) (by omega))]
  obtain ⟨h4, e4, f4, c4⟩ := key
  refine ⟨h4, ?_, (b8_fr _ 0 _).tr (s1_A8 (Or.inl rfl) f4), hB.row f4 c4⟩
  unfold jX8_doTurn
  rw [lt_eq, e4]
  rfl
theorem d9_turn {v : Int} (hS : SM h ((n, b, pf, nm), a, rf)) (hok : RwOk (n, b, pf, nm)) (v0 : 0 ≤ v) (v1 : v ≤ 99) : ∃ h3, jX9_turns (iZ v) h = some (iZ (tn n b (tuF n v pf n)), h3) ∧ Fr sA9 h h3 ∧ SM h3 ((n, b, tuF n v pf n, nm), bmp 0 a, rf) := by
  have ho : PrOk n b pf := hok.1
  have hn0 := ho.1
  have hn := ho.2.1
  unfold jX9_turns
  rw [i0]
  refine loopI (fun f (x : Int32 × HD) => jX9_turns_L2 (iZ v) (fun h5 => (jX9_settingOf (7 : Int32) h5).bind fun q6 => (jX9_acted q6.1 q6.2).bind fun q7 => some (q7.1, q7.2)) f x.1 x.2) (fun z x => x.1 = iZ z ∧ Fr sCu h x.2 ∧ RwM x.2 (7, 0, 2) (7, 0, 7) 0 0 (n, b, tuF n v pf z, nm)) (a := 0) (b := n) (fun y => ∃ h3, y = some (iZ (tn n b (tuF n v pf n)), h3) ∧ Fr sA9 h h3 ∧ SM h3 ((n, b, tuF n v pf n, nm), bmp 0 a, rf)) hn0 ?_ ?_ FU (iZ 0, h) (FU_gt (by omega)) ⟨rfl, Fr.rf, hS.1.eqp (fun i q1 _ => (tuF_0 i q1).symm)⟩
  · intro f z x z0 z1 hI
    obtain ⟨x1, h4⟩ := x
    obtain ⟨a1, hF, hR4⟩ := hI
    replace a1 : x1 = iZ z := a1
    replace hR4 : RwM h4 (7, 0, 2) (7, 0, 7) 0 0 (n, b, tuF n v pf z, nm) := hR4
    subst a1
    have hp := ho.2.2.2.2 z z0 z1
    have ez : tuF n v pf z z = pf z := by unfold tuF; rw [if_neg (by omega)]
    have m5 := x9_setw (v := (pf z + v) % (n + 1)) hR4 z0
    rw [tuF_s] at m5
    refine ⟨(iZ (z + 1), sI h4 (7, 0, 2) (2 + z).toNat (iZ ((pf z + v) % (n + 1)))), ?_, rfl, Fr.sI hF rfl _, m5⟩
    have hpr : PrM h4 n b (tuF n v pf z) := hR4.pr
    show jX9_turns_L2 (iZ v) _ (f + 1) (iZ z) h4 = _
    rw [jX9_turns_L2, hpr.1, if_neg (le_n (by omega) (by omega) (by omega)), x9_wish hpr ⟨hn0, hn⟩ z0 z1, Option.bind_some, ez, iZ_add, x9_round hpr ⟨hn0, hn⟩ (by omega) (by omega), Option.bind_some, i2, iZ_add, inB_t (by omega) (by omega) (by omega), if_pos rfl, lt_eq, iZ_nat (by omega) (by omega), i1, iZ_add]
  · intro f x hI
    obtain ⟨x1, h4⟩ := x
    obtain ⟨a1, hF, hR4⟩ := hI
    replace a1 : x1 = iZ n := a1
    replace hR4 : RwM h4 (7, 0, 2) (7, 0, 7) 0 0 (n, b, tuF n v pf n, nm) := hR4
    replace hF : Fr sCu h h4 := hF
    subst a1
    have hpr : PrM h4 n b (tuF n v pf n) := hR4.pr
    obtain ⟨h5, e5, f5⟩ := x9_settingOf (R := (n, b, tuF n v pf n, nm)) hpr ⟨tuF_ok ho, hok.2⟩ (7 : Int32)
    have e5' : stN (n, b, tuF n v pf n, nm) 7 = tn n b (tuF n v pf n) := rfl
    rw [e5'] at e5
    have S5 : SM h5 ((n, b, tuF n v pf n, nm), a, rf) := hS.row (S := sW) ((cu_W hF).tr (pm_W f5)) (fun _ => rfl) rfl (hR4.fr f5 (fun _ => rfl) (fun _ => rfl))
    obtain ⟨h6, e6, f6, s6⟩ := d9_acted S5 (iZ (tn n b (tuF n v pf n)))
    refine ⟨h6, ?_, (sW_A9 ((cu_W hF).tr (pm_W f5))).tr f6, s6⟩
    show jX9_turns_L2 (iZ v) _ (f + 1) (iZ n) h4 = _
    rw [jX9_turns_L2, hpr.1, if_pos (le_y (by omega) (by omega) (by omega)), e5, Option.bind_some, e6]
    rfl
/-! reverse -/
def rvR (R : Row) (z : Int) : Row := itr (fun c Q => swR Q c (R.1 - 1 - c)) R z
theorem rvR_s (R : Row) {z : Int} (h : 0 ≤ z) : rvR R (z + 1) = swR (rvR R z) z (R.1 - 1 - z) := itr_s _ _ h
theorem rvR_ok {R : Row} (hok : RwOk R) {z : Int} (hz : 0 ≤ z) (hz2 : 2 * z ≤ R.1) : RwOk (rvR R z) ∧ (rvR R z).1 = R.1 ∧ (rvR R z).2.1 = R.2.1 := by
  refine ind_Z (P := fun z => RwOk (rvR R z) ∧ (rvR R z).1 = R.1 ∧ (rvR R z).2.1 = R.2.1) ⟨hok, rfl, rfl⟩ (fun y h1 h2 ih => ?_) hz
  rw [rvR_s R h1]
  exact ⟨swf_ok ih.1 h1 (by rw [ih.2.1]; omega) (by omega) (by rw [ih.2.1]; omega), ih.2.1, ih.2.2⟩
theorem d8_rev {R : Row} (hS : SC h (R, a, rf)) (hok : RwOk R) : ∃ h3, jX8_doReverse h = some (true, h3) ∧ Fr sA8 h h3 ∧ SC h3 (rvR R (R.1 / 2), bmp 0 a, rf) := by
  have hn0 := hok.1.1
  have hn := hok.1.2.1
  have hB := hS.bump 0 (by decide)
  have key : ∃ h4, jX8_doReverse_L20 (iZ R.1) FU (iZ 0) (sI h (6, 0, 2) 0 (gI h (6, 0, 2) 0 + 1)) = some (true, h4) ∧ Fr (s1 0) (sI h (6, 0, 2) 0 (gI h (6, 0, 2) 0 + 1)) h4 ∧ RwC h4 0 (rvR R (R.1 / 2)) := by
    generalize sI h (6, 0, 2) 0 (gI h (6, 0, 2) 0 + 1) = g at hB ⊢
    refine loopI (fun f (x : Int32 × HD) => jX8_doReverse_L20 (iZ R.1) f x.1 x.2) (fun z x => x.1 = iZ z ∧ Fr (s1 0) g x.2 ∧ RwC x.2 0 (rvR R z)) (a := 0) (b := R.1 / 2) (fun y => ∃ h4, y = some (true, h4) ∧ Fr (s1 0) g h4 ∧ RwC h4 0 (rvR R (R.1 / 2))) (by omega) ?_ ?_ FU (iZ 0, g) (FU_gt (by omega)) ⟨rfl, Fr.rf, hB.1⟩
    · intro f z x z0 z1 hI
      obtain ⟨x1, h4⟩ := x
      obtain ⟨a1, hF, hR4⟩ := hI
      replace a1 : x1 = iZ z := a1
      replace hR4 : RwC h4 0 (rvR R z) := hR4
      subst a1
      obtain ⟨o1, o2, o3⟩ := rvR_ok hok z0 (by omega)
      obtain ⟨h5, e5, f5, c5⟩ := x2_exch (x := z) (y := R.1 - 1 - z) hR4 (by rw [o2]; exact ⟨hn0, hn⟩) z0 (by rw [o2]; omega) (by omega) (by rw [o2]; omega)
      rw [← rvR_s R z0] at c5
      refine ⟨(iZ (z + 1), h5), ?_, rfl, Fr.tr hF f5, c5⟩
      show jX8_doReverse_L20 (iZ R.1) (f + 1) (iZ z) h4 = _
      rw [jX8_doReverse_L20, i1, iZ_sub, iZ_sub, if_neg (le_n (by omega) (by omega) (by omega)), e5, Option.bind_some, iZ_add]
    · intro f x hI
      obtain ⟨x1, h4⟩ := x
      obtain ⟨a1, hF, hR4⟩ := hI
      replace a1 : x1 = iZ (R.1 / 2) := a1
      subst a1
      refine ⟨h4, ?_, hF, hR4⟩
      show jX8_doReverse_L20 (iZ R.1) (f + 1) (iZ (R.1 / 2)) h4 = _
      rw [jX8_doReverse_L20, i1, iZ_sub, iZ_sub, if_pos (le_y (by omega) (by omega) (by omega))]
  obtain ⟨h4, e4, f4, c4⟩ := key
  refine ⟨h4, ?_, (b8_fr _ 0 _).tr (s1_A8 (Or.inl rfl) f4), hB.row f4 c4⟩
  unfold jX8_doReverse jX2_count
  rw [lt_eq, hB.1.1.1, i0, e4]
theorem d9_rev {R : Row} (hS : SM h (R, a, rf)) (hok : RwOk R) : ∃ h3, jX9_reverses h = some (iZ (stN (rvR R (R.1 / 2)) 4), h3) ∧ Fr sA9 h h3 ∧ SM h3 (rvR R (R.1 / 2), bmp 0 a, rf) := by
  have hn0 := hok.1.1
  have hn := hok.1.2.1
  unfold jX9_reverses
  rw [i0]
  refine loopI (fun f (x : Int32 × HD) => jX9_reverses_L2 (fun h2 => (jX9_settingOf (4 : Int32) h2).bind fun q3 => (jX9_acted q3.1 q3.2).bind fun q4 => some (q4.1, q4.2)) f x.1 x.2) (fun z x => x.1 = iZ z ∧ Fr sCu h x.2 ∧ RwM x.2 (7, 0, 2) (7, 0, 7) 0 0 (rvR R z)) (a := 0) (b := R.1 / 2) (fun y => ∃ h3, y = some (iZ (stN (rvR R (R.1 / 2)) 4), h3) ∧ Fr sA9 h h3 ∧ SM h3 (rvR R (R.1 / 2), bmp 0 a, rf)) (by omega) ?_ ?_ FU (iZ 0, h) (FU_gt (by omega)) ⟨rfl, Fr.rf, hS.1⟩
  · intro f z x z0 z1 hI
    obtain ⟨x1, h4⟩ := x
    obtain ⟨a1, hF, hR4⟩ := hI
    replace a1 : x1 = iZ z := a1
    replace hR4 : RwM h4 (7, 0, 2) (7, 0, 7) 0 0 (rvR R z) := hR4
    subst a1
    obtain ⟨o1, o2, o3⟩ := rvR_ok hok z0 (by omega)
    have h0 : gI h4 (7, 0, 2) 0 = iZ R.1 := by rw [← o2]; exact hR4.pr.1
    obtain ⟨h5, e5, f5, c5⟩ := x9_chgPl (x := z) (y := R.1 - 1 - z) hR4 (by rw [o2]; exact ⟨hn0, hn⟩) z0 (by rw [o2]; omega) (by omega) (by rw [o2]; omega)
    rw [← rvR_s R z0] at c5
    refine ⟨(iZ (z + 1), h5), ?_, rfl, Fr.tr hF f5, c5⟩
    show jX9_reverses_L2 _ (f + 1) (iZ z) h4 = _
    rw [jX9_reverses_L2, h0, i1, iZ_sub, iZ_sub, if_neg (le_n (by omega) (by omega) (by omega)), e5, Option.bind_some, iZ_add]
  · intro f x hI
    obtain ⟨x1, h4⟩ := x
    obtain ⟨a1, hF, hR4⟩ := hI
    replace a1 : x1 = iZ (R.1 / 2) := a1
    replace hF : Fr sCu h h4 := hF
    replace hR4 : RwM h4 (7, 0, 2) (7, 0, 7) 0 0 (rvR R (R.1 / 2)) := hR4
    subst a1
    obtain ⟨o1, o2, o3⟩ := rvR_ok hok (show 0 ≤ R.1 / 2 by omega) (by omega)
    have h0 : gI h4 (7, 0, 2) 0 = iZ R.1 := by rw [← o2]; exact hR4.pr.1
    obtain ⟨h5, e5, f5⟩ := x9_settingOf hR4.pr o1 (4 : Int32)
    have S5 : SM h5 (rvR R (R.1 / 2), a, rf) := hS.row (S := sW) ((cu_W hF).tr (pm_W f5)) (fun _ => rfl) rfl (hR4.fr f5 (fun _ => rfl) (fun _ => rfl))
    obtain ⟨h6, e6, f6, s6⟩ := d9_acted S5 (iZ (stN (rvR R (R.1 / 2)) 4))
    refine ⟨h6, ?_, (sW_A9 ((cu_W hF).tr (pm_W f5))).tr f6, s6⟩
    show jX9_reverses_L2 _ (f + 1) (iZ (R.1 / 2)) h4 = _
    rw [jX9_reverses_L2, h0, i1, iZ_sub, iZ_sub, if_pos (le_y (by omega) (by omega) (by omega)), e5, Option.bind_some, e6]
    rfl
end
