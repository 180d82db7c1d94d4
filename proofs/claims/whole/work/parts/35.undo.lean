/-! WHAT IS KEPT: the rows before the latest changes -/
def Fk (S : Rf → Nat → Bool) (h h2 : HD) : Prop := (∀ r k, S r k = false → gI h2 r k = gI h r k) ∧ (∀ r k, S r k = false → gJ h2 r k = gJ h r k) ∧ h2.2.2.2 = h.2.2.2
/-- the later heap with the earlier one's kept row -/
def ck (h h2 : HD) : HD := (h2.1, h2.2.1, h.2.2)
theorem Fk.of {S : Rf → Nat → Bool} {h h2 : HD} (a : Fr S h h2) : Fk S h h2 := ⟨a.1, a.2.1, congrArg Prod.snd a.2.2⟩
theorem Fk.fr {S : Rf → Nat → Bool} {h h2 : HD} (a : Fk S h h2) : Fr S h (ck h h2) := ⟨a.1, a.2.1, rfl⟩
theorem Fk.tr {S : Rf → Nat → Bool} {h h2 h3 : HD} (a : Fk S h h2) (b : Fk S h2 h3) : Fk S h h3 := ⟨fun r k q => (b.1 r k q).trans (a.1 r k q), fun r k q => (b.2.1 r k q).trans (a.2.1 r k q), b.2.2.trans a.2.2⟩
theorem Fk.mono {S T : Rf → Nat → Bool} {h h2 : HD} (a : Fk S h h2) (hs : ∀ r k, T r k = false → S r k = false) : Fk T h h2 := ⟨fun r k q => a.1 r k (hs r k q), fun r k q => a.2.1 r k (hs r k q), a.2.2⟩
theorem RwC.ck {h h2 : HD} {o : Nat} {R : Row} (hC : RwC h o R) (e1 : ∀ r k, gI h2 r k = gI h r k) (e2 : ∀ r k, gJ h2 r k = gJ h r k) : RwC h2 o R := ⟨⟨(e1 _ _).trans hC.1.1, (e1 _ _).trans hC.1.2.1, fun z h1 h3 => (e1 _ _).trans (hC.1.2.2 z h1 h3)⟩, fun z h1 h3 => (e2 _ _).trans (hC.2 z h1 h3)⟩
def psK (k : Int) : Int := if k < 6 then k + 1 else 6
def psF (k : Int) (past : Int → Row) (R : Row) : Int → Row := fun z => if k < 6 then (if z = k then R else past z) else if z = 5 then R else past (z + 1)
theorem psK_in {k : Int} (hk : 0 ≤ k ∧ k ≤ 6) : 0 ≤ psK k ∧ psK k ≤ 6 := by unfold psK; split <;> omega
theorem psF_ok {k : Int} {past : Int → Row} {R : Row} (hk : 0 ≤ k ∧ k ≤ 6) (hp : ∀ z, 0 ≤ z → z < k → RwOk (past z)) (hR : RwOk R) : ∀ z, 0 ≤ z → z < psK k → RwOk (psF k past R z) := by
  intro z z0 z1
  unfold psK at z1
  unfold psF
  by_cases q : k < 6
  · rw [if_pos q] at z1
    rw [if_pos q]
    by_cases e : z = k
    · rw [if_pos e]; exact hR
    · rw [if_neg e]; exact hp z z0 (by omega)
  · rw [if_neg q] at z1
    rw [if_neg q]
    by_cases e : z = 5
    · rw [if_pos e]; exact hR
    · rw [if_neg e]; exact hp (z + 1) (by omega) (by omega)
def UC (h : HD) (k : Int) (past : Int → Row) : Prop := gI h (6, 0, 0) 13 = iZ k ∧ (∀ i : Nat, i < 6 → 4 ≤ gK h i ∧ gK h i < 10) ∧ (∀ i j : Nat, i < 6 → j < 6 → gK h i = gK h j → i = j) ∧ ∀ z : Int, 0 ≤ z → z < k → RwC h (gK h z.toNat) (past z)
def UM (h : HD) (k : Int) (past : Int → Row) : Prop := gI h (7, 0, 0) 23 = iZ k ∧ ∀ z : Int, 0 ≤ z → z < k → RwM h (7, 0, 6) (7, 0, 11) (13 * z) (11 * z) (past z)
theorem UC.fr {S : Rf → Nat → Bool} {h h2 : HD} {k : Int} {past : Int → Row} (hU : UC h k past) (hk : k ≤ 6) (hF : Fr S h h2) (s1 : S (6, 0, 0) 13 = false) (s3 : ∀ o j k, 4 ≤ o → S (1, o, j) k = false) : UC h2 k past := ⟨(hF.1 _ _ s1).trans hU.1, fun i hi => by rw [hF.kK]; exact hU.2.1 i hi, fun i j hi hj => by rw [hF.kK, hF.kK]; exact hU.2.2.1 i j hi hj, fun z h1 h3 => by
  rw [hF.kK]
  exact (hU.2.2.2 z h1 h3).fr hF (fun j k => s3 _ j k (hU.2.1 z.toNat (by omega)).1)⟩
theorem UM.fr {S : Rf → Nat → Bool} {h h2 : HD} {k : Int} {past : Int → Row} (hU : UM h k past) (hF : Fr S h h2) (s1 : S (7, 0, 0) 23 = false) (s2 : ∀ k, S (7, 0, 6) k = false) (s3 : ∀ k, S (7, 0, 11) k = false) : UM h2 k past := ⟨(hF.1 _ _ s1).trans hU.1, fun z h1 h3 => (hU.2 z h1 h3).fr hF s2 s3⟩
/-! the class -/
def sKp : Rf → Nat → Bool := fun r k => (Nat.beq r.1 1 && Nat.ble 4 r.2.1) || (Nat.beq r.1 6 && Nat.beq r.2.2 0 && Nat.beq k 13)
theorem s1_Kp {o : Nat} (ho : 4 ≤ o) {h h2 : HD} (hF : Fr (s1 o) h h2) : Fr sKp h h2 := hF.mono fun r k q => by
  unfold s1
  cases e1 : Nat.beq r.1 1
  · rfl
  · cases e2 : Nat.beq r.2.1 o
    · rfl
    · exfalso
      have := Nat.eq_of_beq_eq_true e2
      unfold sKp at q
      rw [e1, this, Nat.ble_eq_true_of_le ho] at q
      cases q
/-- the kept row, turned by one place, up to x -/
def rt (h : HD) (x : Int) : HD := (h.1, h.2.1, fun j => if (j : Int) + 1 < x then h.2.2.1 (j + 1) else h.2.2.1 j, h.2.2.2)
theorem rt_0 (h : HD) : rt h 1 = h := by
  obtain ⟨a, b, c, d⟩ := h
  refine Prod.ext rfl (Prod.ext rfl (Prod.ext ?_ rfl))
  funext j
  show (if (j : Int) + 1 < 1 then c (j + 1) else c j) = c j
  rw [if_neg (by omega)]
theorem rt_s (h : HD) {z : Int} (h1 : 1 ≤ z) : sK (rt h z) (z - 1).toNat (gK (rt h z) z.toNat) = rt h (z + 1) := by
  refine Prod.ext rfl (Prod.ext rfl (Prod.ext ?_ rfl))
  funext j
  show (if j = (z - 1).toNat then (if ((z.toNat : Nat) : Int) + 1 < z then h.2.2.1 (z.toNat + 1) else h.2.2.1 z.toNat) else if (j : Int) + 1 < z then h.2.2.1 (j + 1) else h.2.2.1 j) = if (j : Int) + 1 < z + 1 then h.2.2.1 (j + 1) else h.2.2.1 j
  by_cases e : j = (z - 1).toNat
  · rw [if_pos e, if_neg (by omega), if_pos (by omega), show z.toNat = j + 1 by omega]
  · rw [if_neg e]
    by_cases e2 : (j : Int) + 1 < z
    · rw [if_pos e2, if_pos (by omega)]
    · rw [if_neg e2, if_neg (by omega)]
theorem rt_loop (y : Nat) (k : HD → Option HD) (h : HD) : jX8_keepNoted_L18 y k FU (iZ 1) h = k (rt h 6) := by
  have := loopN (fun f (x : Int32 × HD) => jX8_keepNoted_L18 y k f x.1 x.2) (fun x => (iZ x, rt h x)) (a := 1) (b := 6) (res := k (rt h 6)) (by omega) (fun f z q1 q2 => ?_) (fun f => ?_) FU (FU_gt (by omega))
  · have e : jX8_keepNoted_L18 y k FU (iZ 1) (rt h 1) = k (rt h 6) := this
    rwa [rt_0] at e
  · show jX8_keepNoted_L18 y k (f + 1) (iZ z) (rt h z) = jX8_keepNoted_L18 y k f (iZ (z + 1)) (rt h (z + 1))
    rw [jX8_keepNoted_L18, i6, if_neg (le_n (by omega) (by omega) (by omega)), inB_t (by omega) (by omega) (by omega), if_pos rfl, i1, iZ_sub, inB_t (by omega) (by omega) (by omega), if_pos rfl, lt_eq, iZ_nat (by omega) (by omega), iZ_nat (by omega) (by omega), iZ_add, rt_s h q1]
  · show jX8_keepNoted_L18 y k (f + 1) (iZ 6) (rt h 6) = _
    rw [jX8_keepNoted_L18, i6, if_pos (le_y (by omega) (by omega) (by omega))]
theorem x8_keep {h : HD} {k : Int} {past : Int → Row} {R : Row} (hU : UC h k past) (hk : 0 ≤ k ∧ k ≤ 6) (hC : RwC h 3 R) (hn : R.1 ≤ 11) : ∃ h2, jX8_keepNoted h = some h2 ∧ Fk sKp h h2 ∧ UC h2 (psK k) (psF k past R) := by
  obtain ⟨u1, u2, u3, u4⟩ := hU
  by_cases q : k < 6
  · have hu := u2 k.toNat (by omega)
    obtain ⟨h1, e1, f1, c1⟩ := x2_copy (o := gK h k.toNat) (r := 3) (by omega) hC hn
    have hF : Fr sKp h (sI h1 (6, 0, 0) 13 (iZ (k + 1))) := (s1_Kp hu.1 f1).sI rfl _
    refine ⟨sI h1 (6, 0, 0) 13 (iZ (k + 1)), ?_, Fk.of hF, ?_, ?_, ?_, ?_⟩
    · unfold jX8_keepNoted
      rw [u1, i6, if_pos (lt_y (by omega) (by omega) (by omega)), i0, if_neg (lt_n (by omega) (by omega) (by omega)), if_neg (le_n (by omega) (by omega) (by omega)), inB_t (by omega) (by omega) (by omega), if_pos rfl, iZ_nat (by omega) (by omega), e1, Option.bind_some, lt_eq, f1.1 _ _ rfl, u1, i1, iZ_add]
    · rw [gI_self]; unfold psK; rw [if_pos q]
    · intro i hi; rw [hF.kK]; exact u2 i hi
    · intro i j hi hj; rw [hF.kK, hF.kK]; exact u3 i j hi hj
    · intro z z0 z1
      have z2 : z < k + 1 := by unfold psK at z1; rwa [if_pos q] at z1
      rw [hF.kK]
      unfold psF
      rw [if_pos q]
      have nx : ∀ (o j k2 : Nat), (fun (q : Rf) (_ : Nat) => decide (q = (6, 0, 0))) (1, o, j) k2 = false := fun o j k2 => decide_eq_false (fun e => by cases e)
      by_cases e : z = k
      · rw [if_pos e, e]
        exact c1.fr (S := fun q _ => decide (q = (6, 0, 0))) (Fr.rf.sI rfl _) (nx _)
      · rw [if_neg e]
        have e3 : gK h z.toNat ≠ gK h k.toNat := fun e2 => by
          have := u3 _ _ (by omega) (by omega) e2
          omega
        exact ((u4 z z0 (by omega)).fr f1 (s1_f e3)).fr (S := fun q _ => decide (q = (6, 0, 0))) (Fr.rf.sI rfl _) (nx _)
  · have hk6 : k = 6 := by omega
    subst hk6
    obtain ⟨g, hg⟩ : ∃ g, g = sI (sK (rt h 6) 5 (gK h 0)) (6, 0, 0) 13 (iZ 5) := ⟨_, rfl⟩
    have gi : ∀ r k, ¬ (r = ((6, 0, 0) : Rf) ∧ k = 13) → gI g r k = gI h r k := fun r k e => by rw [hg, gI_sI, if_neg e]; rfl
    have gj : ∀ r k, gJ g r k = gJ h r k := fun r k => by rw [hg]; rfl
    have gk : ∀ i : Nat, i < 6 → gK g i = gK h (if i = 5 then 0 else i + 1) := fun i hi => by
      rw [hg, gK_sI, gK_sK]
      by_cases e : i = 5
      · rw [if_pos e, if_pos e]
      · rw [if_neg e, if_neg e]
        show (if (i : Int) + 1 < 6 then h.2.2.1 (i + 1) else h.2.2.1 i) = _
        rw [if_pos (by omega)]
        rfl
    have gC : ∀ {o : Nat} {Q : Row}, RwC h o Q → RwC g o Q := fun {o Q} hQ => ⟨⟨(gi _ _ (fun e => by cases e.1)).trans hQ.1.1, (gi _ _ (fun e => by cases e.1)).trans hQ.1.2.1, fun z h1 h3 => (gi _ _ (fun e => by cases e.1)).trans (hQ.1.2.2 z h1 h3)⟩, fun z h1 h3 => (gj _ _).trans (hQ.2 z h1 h3)⟩
    have g5 : gK g 5 = gK h 0 := gk 5 (by omega)
    have hu := u2 0 (by omega)
    obtain ⟨h1, e1, f1, c1⟩ := x2_copy (o := gK h 0) (r := 3) (by omega) (gC hC) hn
    have hF : Fr sKp g (sI h1 (6, 0, 0) 13 (iZ 6)) := (s1_Kp hu.1 f1).sI rfl _
    have hG : Fk sKp h g := ⟨fun r k e => gi r k (fun e2 => by rw [e2.1, e2.2] at e; cases e), fun r k _ => gj r k, by rw [hg]; rfl⟩
    refine ⟨sI h1 (6, 0, 0) 13 (iZ 6), ?_, hG.tr (Fk.of hF), ?_, ?_, ?_, ?_⟩
    · unfold jX8_keepNoted
      rw [u1, i6, if_neg (lt_n (by omega) (by omega) (by omega)), i1, rt_loop]
      show (lt (sI (sK (rt h 6) 5 (gK h 0)) (6, 0, 0) 13 5) fun h12 => if (gI h12 (6, 0, 0) 13) < 0 then some h12 else if iZ 6 ≤ (gI h12 (6, 0, 0) 13) then some h12 else if inB (gI h12 (6, 0, 0) 13) 6 = true then (jX2_copyFrom (gK h12 ((gI h12 (6, 0, 0) 13).toNatClampNeg)) 3 h12).bind fun q15 => lt (sI q15 (6, 0, 0) 13 ((gI q15 (6, 0, 0) 13) + iZ 1)) fun h16 => some h16 else none) = _
      rw [i5, ← hg, lt_eq]
      have g13 : gI g (6, 0, 0) 13 = iZ 5 := by rw [hg, gI_self]
      rw [g13, i0, if_neg (lt_n (by omega) (by omega) (by omega)), if_neg (le_n (by omega) (by omega) (by omega)), inB_t (by omega) (by omega) (by omega), if_pos rfl, iZ_nat (by omega) (by omega), show (5 : Int).toNat = 5 from rfl, g5, e1, Option.bind_some, lt_eq, f1.1 _ _ rfl, g13, iZ_add]
      rfl
    · rw [gI_self]; rfl
    · intro i hi
      rw [hF.kK, gk i hi]
      exact u2 _ (by split <;> omega)
    · intro i j hi hj
      rw [hF.kK, hF.kK, gk i hi, gk j hj]
      intro e
      have := u3 _ _ (by split <;> omega) (by split <;> omega) e
      revert this
      split <;> split <;> omega
    · intro z z0 z1
      have z2 : z < 6 := z1
      rw [hF.kK, gk z.toNat (by omega)]
      have nx : ∀ (o j k2 : Nat), (fun (q : Rf) (_ : Nat) => decide (q = (6, 0, 0))) (1, o, j) k2 = false := fun o j k2 => decide_eq_false (fun e => by cases e)
      unfold psF
      rw [if_neg q]
      by_cases e : z = 5
      · rw [if_pos e, if_pos (by omega)]
        exact c1.fr (S := fun q _ => decide (q = (6, 0, 0))) (Fr.rf.sI rfl _) (nx _)
      · rw [if_neg e, if_neg (by omega)]
        have e3 : gK h (z.toNat + 1) ≠ gK h 0 := fun e2 => by
          have := u3 _ _ (by omega) (by omega) e2
          omega
        have := u4 (z + 1) (by omega) (by omega)
        rw [show (z + 1).toNat = z.toNat + 1 by omega] at this
        exact ((gC this).fr f1 (s1_f e3)).fr (S := fun q _ => decide (q = (6, 0, 0))) (Fr.rf.sI rfl _) (nx _)
/-! the reference -/
def sKm : Rf → Nat → Bool := fun r k => Nat.beq r.1 7 && (Nat.beq r.2.2 6 || Nat.beq r.2.2 11 || (Nat.beq r.2.2 0 && Nat.beq k 23))
theorem s2_Km {h h2 : HD} (hF : Fr (s2 (7, 0, 6) (7, 0, 11)) h h2) : Fr sKm h h2 := hF.mono fun r k q => by
  refine decide_eq_false fun e => ?_
  rcases e with e | e <;> · rw [e] at q; cases q
theorem x9_tail {h : HD} {k : Int} {past : Int → Row} {R : Row} (hU : UM h k past) (hk : 0 ≤ k ∧ k < 6) (hp : ∀ z, 0 ≤ z → z < k → (past z).1 ≤ 11) (hA : RwM h (7, 0, 4) (7, 0, 9) 0 0 R) (hn : R.1 ≤ 11) : ∃ h1 h2, jX9_copiesRow (7, 0, 4) (iZ 0) (7, 0, 6) (iZ (13 * k)) h = some h1 ∧ jX9_copiesNames (7, 0, 9) (iZ 0) (7, 0, 11) (iZ (11 * k)) h1 = some h2 ∧ gI h1 (7, 0, 0) 23 = iZ k ∧ gI h2 (7, 0, 0) 23 = iZ k ∧ Fr sKm h (sI h2 (7, 0, 0) 23 (iZ (k + 1))) ∧ UM (sI h2 (7, 0, 0) 23 (iZ (k + 1))) (k + 1) (fun z => if z = k then R else past z) := by
  obtain ⟨h1, h2, e1, e2, F1, F, M, o1, o2⟩ := x9_cpBoth (t := (7, 0, 6)) (t2 := (7, 0, 11)) (c := 13 * k) (c2 := 11 * k) (m := 13) (k := 78) (m2 := 11) (k2 := 66) hA hn rfl rfl rfl rfl (by decide) (by decide) (by decide) (by decide) (by decide) (by decide) (by omega) (by omega) (by decide) (by decide) (by omega) (by omega) (by decide) (by decide) (by decide) (by decide)
  refine ⟨h1, h2, e1, e2, (F1.1 _ _ rfl).trans hU.1, (F.1 _ _ rfl).trans hU.1, (s2_Km F).sI rfl _, gI_self _ _ _ _, fun z z0 z1 => ?_⟩
  have nx : ∀ (j k2 : Nat), j ≠ 0 → (fun (q : Rf) (_ : Nat) => decide (q = (7, 0, 0))) (7, 0, j) k2 = false := fun j k2 hj => decide_eq_false (fun e => hj (congrArg (fun x : Rf => x.2.2) e))
  show RwM _ _ _ _ _ (if z = k then R else past z)
  by_cases e : z = k
  · rw [if_pos e, e]
    exact M.fr (S := fun q _ => decide (q = (7, 0, 0))) (Fr.rf.sI rfl _) (fun k2 => nx 6 k2 (by decide)) (fun k2 => nx 11 k2 (by decide))
  · rw [if_neg e]
    obtain ⟨m1, m2, m3, m4⟩ := hU.2 z z0 (by omega)
    have := hp z z0 (by omega)
    have hz : 13 * z + 13 ≤ 13 * k := by omega
    have hz2 : 11 * z + 11 ≤ 11 * k := by omega
    refine RwM.fr (h := h2) ⟨?_, ?_, fun y y0 y1 => ?_, fun y y0 y1 => ?_⟩ (S := fun q _ => decide (q = (7, 0, 0))) (Fr.rf.sI rfl _) (fun k2 => nx 6 k2 (by decide)) (fun k2 => nx 11 k2 (by decide))
    · exact (o1 _ (Or.inl (by omega))).trans m1
    · exact (o1 _ (Or.inl (by omega))).trans m2
    · exact (o1 _ (Or.inl (by omega))).trans (m3 y y0 y1)
    · exact (o2 _ (Or.inl (by omega))).trans (m4 y y0 y1)
def sh1 (g : HD) (x : Int) : HD := (fun q j => if q = (7, 0, 6) ∧ (j : Int) < x then gI g q (j + 13) else gI g q j, g.2.1, g.2.2)
def sh2 (g : HD) (x : Int) : HD := (g.1, fun q j => if q = (7, 0, 11) ∧ (j : Int) < x then gJ g q (j + 11) else gJ g q j, g.2.2)
theorem gI_sh1 (g : HD) (x : Int) (q : Rf) (j : Nat) : gI (sh1 g x) q j = if q = (7, 0, 6) ∧ (j : Int) < x then gI g q (j + 13) else gI g q j := rfl
theorem gJ_sh2 (g : HD) (x : Int) (q : Rf) (j : Nat) : gJ (sh2 g x) q j = if q = (7, 0, 11) ∧ (j : Int) < x then gJ g q (j + 11) else gJ g q j := rfl
theorem sh1_0 (g : HD) : sh1 g 0 = g := by
  obtain ⟨a, b⟩ := g
  unfold sh1
  congr 1
  funext q j
  rw [if_neg (by omega)]
  rfl
theorem sh2_0 (g : HD) : sh2 g 0 = g := by
  obtain ⟨a, b, c⟩ := g
  unfold sh2
  congr 2
  funext q j
  rw [if_neg (by omega)]
  rfl
theorem sh1_s (g : HD) {x : Int} (h : 0 ≤ x) : sI (sh1 g x) (7, 0, 6) x.toNat (gI (sh1 g x) (7, 0, 6) (x + 13).toNat) = sh1 g (x + 1) := by
  refine Prod.ext ?_ rfl
  funext q j
  show gI (sI (sh1 g x) (7, 0, 6) x.toNat _) q j = gI (sh1 g (x + 1)) q j
  rw [gI_sI, gI_sh1, gI_sh1, gI_sh1]
  by_cases e : q = (7, 0, 6)
  · by_cases e2 : j = x.toNat
    · rw [if_pos ⟨e, e2⟩, if_neg (by omega), if_pos ⟨e, by omega⟩, e, e2, show (x + 13).toNat = x.toNat + 13 by omega]
    · rw [if_neg (fun c => e2 c.2)]
      by_cases e3 : (j : Int) < x
      · rw [if_pos ⟨e, e3⟩, if_pos ⟨e, by omega⟩]
      · rw [if_neg (fun c => e3 c.2), if_neg (fun c => by omega)]
  · rw [if_neg (fun c => e c.1), if_neg (fun c => e c.1), if_neg (fun c => e c.1)]
theorem sh2_s (g : HD) {x : Int} (h : 0 ≤ x) : sJ (sh2 g x) (7, 0, 11) x.toNat (gJ (sh2 g x) (7, 0, 11) (x + 11).toNat) = sh2 g (x + 1) := by
  refine Prod.ext rfl (Prod.ext ?_ rfl)
  funext q j
  show gJ (sJ (sh2 g x) (7, 0, 11) x.toNat _) q j = gJ (sh2 g (x + 1)) q j
  rw [gJ_sJ, gJ_sh2, gJ_sh2, gJ_sh2]
  by_cases e : q = (7, 0, 11)
  · by_cases e2 : j = x.toNat
    · rw [if_pos ⟨e, e2⟩, if_neg (by omega), if_pos ⟨e, by omega⟩, e, e2, show (x + 11).toNat = x.toNat + 11 by omega]
    · rw [if_neg (fun c => e2 c.2)]
      by_cases e3 : (j : Int) < x
      · rw [if_pos ⟨e, e3⟩, if_pos ⟨e, by omega⟩]
      · rw [if_neg (fun c => e3 c.2), if_neg (fun c => by omega)]
  · rw [if_neg (fun c => e c.1), if_neg (fun c => e c.1), if_neg (fun c => e c.1)]
theorem sh1_loop (K : HD → Option HD) {g : HD} (hg : gI g (7, 0, 0) 23 = iZ 5) : jX9_keeps_L21 K FU (iZ 0) g = K (sh1 g 65) := by
  have := loopN (fun f (x : Int32 × HD) => jX9_keeps_L21 K f x.1 x.2) (fun x => (iZ x, sh1 g x)) (a := 0) (b := 65) (res := K (sh1 g 65)) (by omega) (fun f z q1 q2 => ?_) (fun f => ?_) FU (FU_gt (by omega))
  · have e : jX9_keeps_L21 K FU (iZ 0) (sh1 g 0) = K (sh1 g 65) := this
    rwa [sh1_0] at e
  · show jX9_keeps_L21 K (f + 1) (iZ z) (sh1 g z) = jX9_keeps_L21 K f (iZ (z + 1)) (sh1 g (z + 1))
    have e5 : gI (sh1 g z) (7, 0, 0) 23 = iZ 5 := hg
    rw [jX9_keeps_L21, e5, i13, iZ_mul, if_neg (le_n (by omega) (by omega) (by omega)), iZ_add, inB_t (by omega) (by omega) (by omega), if_pos rfl, inB_t (by omega) (by omega) (by omega), if_pos rfl, lt_eq, iZ_nat (by omega) (by omega), iZ_nat (by omega) (by omega), sh1_s g q1, i1, iZ_add]
  · show jX9_keeps_L21 K (f + 1) (iZ 65) (sh1 g 65) = _
    have e5 : gI (sh1 g 65) (7, 0, 0) 23 = iZ 5 := hg
    rw [jX9_keeps_L21, e5, i13, iZ_mul, if_pos (le_y (by omega) (by omega) (by omega))]
theorem sh2_loop (K : HD → Option HD) {g : HD} (hg : gI g (7, 0, 0) 23 = iZ 5) : jX9_keeps_L55 K FU (iZ 0) g = K (sh2 g 55) := by
  have := loopN (fun f (x : Int32 × HD) => jX9_keeps_L55 K f x.1 x.2) (fun x => (iZ x, sh2 g x)) (a := 0) (b := 55) (res := K (sh2 g 55)) (by omega) (fun f z q1 q2 => ?_) (fun f => ?_) FU (FU_gt (by omega))
  · have e : jX9_keeps_L55 K FU (iZ 0) (sh2 g 0) = K (sh2 g 55) := this
    rwa [sh2_0] at e
  · show jX9_keeps_L55 K (f + 1) (iZ z) (sh2 g z) = jX9_keeps_L55 K f (iZ (z + 1)) (sh2 g (z + 1))
    have e5 : gI (sh2 g z) (7, 0, 0) 23 = iZ 5 := hg
    rw [jX9_keeps_L55, e5, i11, iZ_mul, if_neg (le_n (by omega) (by omega) (by omega)), iZ_add, inB_t (by omega) (by omega) (by omega), if_pos rfl, inB_t (by omega) (by omega) (by omega), if_pos rfl, lt_eq, iZ_nat (by omega) (by omega), iZ_nat (by omega) (by omega), sh2_s g q1, i1, iZ_add]
  · show jX9_keeps_L55 K (f + 1) (iZ 55) (sh2 g 55) = _
    have e5 : gI (sh2 g 55) (7, 0, 0) 23 = iZ 5 := hg
    rw [jX9_keeps_L55, e5, i11, iZ_mul, if_pos (le_y (by omega) (by omega) (by omega))]
theorem x9_keeps {h : HD} {k : Int} {past : Int → Row} {R : Row} (hU : UM h k past) (hk : 0 ≤ k ∧ k ≤ 6) (hp : ∀ z, 0 ≤ z → z < k → (past z).1 ≤ 11) (hA : RwM h (7, 0, 4) (7, 0, 9) 0 0 R) (hn : R.1 ≤ 11) : ∃ h2, jX9_keeps h = some h2 ∧ Fr sKm h h2 ∧ UM h2 (psK k) (psF k past R) := by
  by_cases q : k < 6
  · obtain ⟨h1, h2, e1, e2, g1, g2, F, hV⟩ := x9_tail hU ⟨hk.1, q⟩ hp hA hn
    refine ⟨_, ?_, F, ?_⟩
    · unfold jX9_keeps
      rw [hU.1, i6, if_neg (eq_n (a := k) (by omega) (by omega) (by omega) (by omega) (by omega)), i13, iZ_mul, i0, e1, Option.bind_some, g1, i11, iZ_mul, e2, Option.bind_some, lt_eq, g2, i1, iZ_add]
    · unfold psK psF
      simp only [if_pos q]
      exact hV
  · have hk6 : k = 6 := by omega
    subst hk6
    obtain ⟨g0, hg0⟩ : ∃ g, g = sI h (7, 0, 0) 23 (iZ 5) := ⟨_, rfl⟩
    have f0 : Fr sKm h g0 := by rw [hg0]; exact Fr.rf.sI rfl _
    have e5 : gI g0 (7, 0, 0) 23 = iZ 5 := by rw [hg0, gI_self]
    obtain ⟨g, hg⟩ : ∃ g, g = sh2 (sh1 g0 65) 55 := ⟨_, rfl⟩
    have gi : ∀ q j, gI g q j = gI (sh1 g0 65) q j := fun q j => by rw [hg]; rfl
    have fg : Fr sKm g0 g := ⟨fun r k2 e => by
      rw [gi, gI_sh1, if_neg (fun c => by rw [c.1] at e; cases e)], fun r k2 e => by
      rw [hg, gJ_sh2, if_neg (fun c => by rw [c.1] at e; cases e)]; rfl, by rw [hg]; rfl⟩
    have eg5 : gI g (7, 0, 0) 23 = iZ 5 := by rw [gi]; exact e5
    have hV : UM g 5 (fun z => past (z + 1)) := ⟨eg5, fun z z0 z1 => by
      obtain ⟨m1, m2, m3, m4⟩ := hU.2 (z + 1) (by omega) (by omega)
      have hp1 := hp (z + 1) (by omega) (by omega)
      have gi6 : ∀ y : Int, 0 ≤ y → y < 65 → gI g (7, 0, 6) y.toNat = gI h (7, 0, 6) (y + 13).toNat := fun y y0 y1 => by
        rw [gi, gI_sh1, if_pos ⟨rfl, by omega⟩, hg0, gI_ne _ (by decide), show y.toNat + 13 = (y + 13).toNat by omega]
      have gj6 : ∀ y : Int, 0 ≤ y → y < 55 → gJ g (7, 0, 11) y.toNat = gJ h (7, 0, 11) (y + 11).toNat := fun y y0 y1 => by
        rw [hg, gJ_sh2, if_pos ⟨rfl, by omega⟩, hg0, show y.toNat + 11 = (y + 11).toNat by omega]
        rfl
      refine ⟨?_, ?_, fun y y0 y1 => ?_, fun y y0 y1 => ?_⟩
      · rw [gi6 _ (by omega) (by omega), show 13 * z + 13 = 13 * (z + 1) by omega]; exact m1
      · rw [gi6 _ (by omega) (by omega), show 13 * z + 1 + 13 = 13 * (z + 1) + 1 by omega]; exact m2
      · replace y1 : y < (past (z + 1)).1 := y1
        rw [gi6 _ (by omega) (by omega), show 13 * z + 2 + y + 13 = 13 * (z + 1) + 2 + y by omega]; exact m3 y y0 y1
      · replace y1 : y < (past (z + 1)).1 := y1
        rw [gj6 _ (by omega) (by omega), show 11 * z + y + 11 = 11 * (z + 1) + y by omega]; exact m4 y y0 y1⟩
    have hA2 : RwM g (7, 0, 4) (7, 0, 9) 0 0 R := hA.fr (f0.tr fg) (fun _ => rfl) (fun _ => rfl)
    obtain ⟨h1, h2, e1, e2, g1, g2, F, hW⟩ := x9_tail hV ⟨by decide, by decide⟩ (fun z z0 z1 => hp (z + 1) (by omega) (by omega)) hA2 hn
    refine ⟨_, ?_, (f0.tr fg).tr F, hW⟩
    unfold jX9_keeps
    rw [hU.1, i6, if_pos rfl, lt_eq, i1, iZ_sub, show (6 : Int) - 1 = 5 from rfl, ← hg0, i0, sh1_loop _ e5, sh2_loop _ (g := sh1 g0 65) e5, ← hg]
    show ((jX9_copiesRow (7, 0, 4) (iZ 0) (7, 0, 6) ((13 : Int32) * (gI g (7, 0, 0) 23)) g).bind fun q13 => (jX9_copiesNames (7, 0, 9) (iZ 0) (7, 0, 11) ((11 : Int32) * (gI q13 (7, 0, 0) 23)) q13).bind fun q14 => lt (sI q14 (7, 0, 0) 23 ((gI q14 (7, 0, 0) 23) + iZ 1)) fun h15 => some h15) = _
    rw [eg5, i13, iZ_mul, e1, Option.bind_some, g1, i11, iZ_mul, e2, Option.bind_some, lt_eq, g2, iZ_add]
/-! all that a change may touch -/
def sCC : Rf → Nat → Bool := fun r k => (Nat.beq r.1 1 && (Nat.beq r.2.1 0 || Nat.beq r.2.1 1 || Nat.beq r.2.1 3 || Nat.ble 4 r.2.1)) || Nat.beq r.1 2 || (Nat.beq r.1 6 && Nat.beq r.2.2 2) || (Nat.beq r.1 6 && Nat.beq r.2.2 0 && (Nat.beq k 13 || Nat.beq k 16))
def sMM : Rf → Nat → Bool := fun r k => Nat.beq r.1 7 && (Nat.beq r.2.2 2 || Nat.beq r.2.2 4 || Nat.beq r.2.2 5 || Nat.beq r.2.2 6 || Nat.beq r.2.2 7 || Nat.beq r.2.2 9 || Nat.beq r.2.2 10 || Nat.beq r.2.2 11 || Nat.beq r.2.2 12 || (Nat.ble 13 r.2.2 && Nat.ble r.2.2 24) || (Nat.beq r.2.2 0 && (Nat.beq k 0 || Nat.beq k 23 || Nat.beq k 26)))
theorem A8_CC {h h2 : HD} (hF : Fr sA8 h h2) : Fr sCC h h2 := hF.mono fun r k q => by
  unfold sCC at q
  unfold sA8
  revert q
  cases Nat.beq r.1 1 <;> cases Nat.beq r.2.1 0 <;> cases Nat.beq r.2.1 1 <;> cases Nat.beq r.1 6 <;> cases Nat.beq r.2.2 2 <;> cases Nat.beq r.2.2 0 <;> cases Nat.beq k 16 <;> simp
theorem Kp_CC {h h2 : HD} (hF : Fk sKp h h2) : Fk sCC h h2 := hF.mono fun r k q => by
  unfold sCC at q
  unfold sKp
  revert q
  cases Nat.beq r.1 1 <;> cases Nat.ble 4 r.2.1 <;> cases Nat.beq r.1 6 <;> cases Nat.beq r.2.2 0 <;> cases Nat.beq k 13 <;> simp
theorem s1_CC {o : Nat} (ho : o ≠ 2) {h h2 : HD} (hF : Fr (s1 o) h h2) : Fr sCC h h2 := hF.mono fun r k q => by
  unfold s1
  cases e1 : Nat.beq r.1 1
  · rfl
  · cases e2 : Nat.beq r.2.1 o
    · rfl
    · exfalso
      have e3 := Nat.eq_of_beq_eq_true e2
      unfold sCC at q
      rw [e1, e3] at q
      rcases o with _ | _ | _ | _ | o
      · cases q
      · cases q
      · exact ho rfl
      · cases q
      · rw [Nat.ble_eq_true_of_le (show 4 ≤ o + 1 + 1 + 1 + 1 by omega)] at q
        simp at q
theorem Km_MM {h h2 : HD} (hF : Fr sKm h h2) : Fr sMM h h2 := hF.mono fun r k q => by
  unfold sMM at q
  unfold sKm
  revert q
  cases Nat.beq r.1 7 <;> cases Nat.beq r.2.2 6 <;> cases Nat.beq r.2.2 11 <;> cases Nat.beq r.2.2 0 <;> cases Nat.beq k 23 <;> simp
theorem A9_MM {h h2 : HD} (hF : Fr sA9 h h2) : Fr sMM h h2 := hF.mono fun r k q => by
  unfold sMM at q
  unfold sA9
  revert q
  generalize (Nat.ble 13 r.2.2 && Nat.ble r.2.2 24) = w
  cases Nat.beq r.1 7 <;> cases Nat.beq r.2.2 2 <;> cases Nat.beq r.2.2 5 <;> cases Nat.beq r.2.2 7 <;> cases Nat.beq r.2.2 10 <;> cases Nat.beq r.2.2 12 <;> cases w <;> cases Nat.beq r.2.2 0 <;> cases Nat.beq k 26 <;> simp
theorem s2_MM {i j : Nat} (hi : i = 2 ∨ i = 4 ∨ i = 5) (hj : j = 7 ∨ j = 9 ∨ j = 10) {h h2 : HD} (hF : Fr (s2 (7, 0, i) (7, 0, j)) h h2) : Fr sMM h h2 := hF.mono fun r k q => by
  refine decide_eq_false fun e => ?_
  rcases e with e | e
  · rw [e] at q
    rcases hi with rfl | rfl | rfl <;> cases q
  · rw [e] at q
    rcases hj with rfl | rfl | rfl <;> cases q
theorem sCC_1 : ∀ j k, sCC (1, 2, j) k = false := fun j k => rfl
/-- the state that changes read and write -/
theorem Rel.get {h : HD} (hR : Rel h) : ∃ (R : Row) (a : Ac) (rf : Int32) (k : Int) (past : Int → Row), RwOk R ∧ SC h (R, a, rf) ∧ SM h (R, a, rf) ∧ (0 ≤ k ∧ k ≤ 6) ∧ UC h k past ∧ UM h k past ∧ ∀ z, 0 ≤ z → z < k → RwOk (past z) := by
  obtain ⟨⟨R, hok, hC, hM⟩, -, r3, -, r5, -, -⟩ := hR
  obtain ⟨k, past, k0, k1, e1, e2, g1, g2, hb⟩ := r5
  exact ⟨R, fun i => gI h (6, 0, 2) i, gI h (6, 0, 0) 16, k, past, hok, ⟨hC, fun _ _ => rfl, rfl⟩, ⟨hM, fun i hi => (r3.1 i hi).symm, r3.2.symm⟩, ⟨k0, k1⟩, ⟨e1, g1, g2, fun z z0 z1 => (hb z z0 z1).2.1⟩, ⟨e2, fun z z0 z1 => (hb z z0 z1).2.2⟩, fun z z0 z1 => (hb z z0 z1).1⟩
theorem Rel.chg {h h1 h2 : HD} {R : Row} {a : Ac} {rf : Int32} {k : Int} {past : Int → Row} (hR : Rel h) (hF : Fk sCC h h1) (hG : Fr sMM h1 h2) (hok : RwOk R) (hC : SC h1 (R, a, rf)) (hM : SM h2 (R, a, rf)) (hk : 0 ≤ k ∧ k ≤ 6) (hU : UC h1 k past) (hV : UM h2 k past) (hp : ∀ z, 0 ≤ z → z < k → RwOk (past z)) : Rel h2 := by
  obtain ⟨-, r2, -, r4, -, r6, r7⟩ := hR
  have c2 : RBuf h1 := r2.fr (S := sCC) (h2 := ck h h1) hF.fr rfl rfl (fun _ => rfl) (fun _ => rfl)
  have c4 : RErr h1 := r4.fr (S := sCC) (h2 := ck h h1) hF.fr rfl rfl rfl rfl
  have c6 : RSav h1 := r6.fr (S := sCC) (h2 := ck h h1) hF.fr rfl rfl (fun _ _ => rfl) (fun _ => rfl) (fun _ => rfl)
  have c7 : RRep h1 := r7.fr (S := sCC) (h2 := ck h h1) hF.fr rfl rfl (fun _ => rfl) (fun _ => rfl) rfl
  have f1 : ∀ o j k, sMM (1, o, j) k = false := fun _ _ _ => rfl
  have u2 : UC h2 k past := hU.fr hk.2 hG rfl (fun o j k _ => f1 o j k)
  refine ⟨⟨R, hok, hC.1.fr hG (f1 0), hM.1⟩, c2.fr hG rfl rfl (fun _ => rfl) (fun _ => rfl), ⟨fun i hi => ?_, ?_⟩, c4.fr hG rfl rfl rfl rfl, ⟨k, past, hk.1, hk.2, u2.1, hV.1, u2.2.1, u2.2.2.1, fun z z0 z1 => ⟨hp z z0 z1, u2.2.2.2 z z0 z1, hV.2 z z0 z1⟩⟩, c6.fr hG rfl rfl (f1 2) (fun _ => rfl) (fun _ => rfl), c7.fr hG rfl rfl (fun _ => rfl) (fun _ => rfl) rfl⟩
  · exact ((hG.1 _ _ rfl).trans (hC.2.1 i hi)).trans (hM.2.1 i hi).symm
  · exact ((hG.1 _ _ rfl).trans hC.2.2).trans hM.2.2.symm
theorem SM.fk {h h1 : HD} {s : S3} (hM : SM h s) (hF : Fk sCC h h1) : SM h1 s := ⟨hM.1.fr (S := sCC) (h2 := ck h h1) hF.fr (fun _ => rfl) (fun _ => rfl), fun i hi => (hF.1 _ _ rfl).trans (hM.2.1 i hi), (hF.1 _ _ rfl).trans hM.2.2⟩
theorem UM.fk {h h1 : HD} {k : Int} {past : Int → Row} (hV : UM h k past) (hF : Fk sCC h h1) : UM h1 k past := hV.fr (S := sCC) (h2 := ck h h1) hF.fr rfl (fun _ => rfl) (fun _ => rfl)
theorem SC.fr {S : Rf → Nat → Bool} {h h2 : HD} {s : S3} (hS : SC h s) (hF : Fr S h h2) (s1 : ∀ j k, S (1, 0, j) k = false) (s2 : ∀ k, S (6, 0, 2) k = false) (s3 : S (6, 0, 0) 16 = false) : SC h2 s := ⟨hS.1.fr hF s1, fun i hi => (hF.1 _ _ (s2 _)).trans (hS.2.1 i hi), (hF.1 _ _ s3).trans hS.2.2⟩
theorem SM.fr {S : Rf → Nat → Bool} {h h2 : HD} {s : S3} (hS : SM h s) (hF : Fr S h h2) (s1 : ∀ k, S (7, 0, 2) k = false) (s4 : ∀ k, S (7, 0, 7) k = false) (s2 : ∀ k, S (7, 0, 12) k = false) (s3 : S (7, 0, 0) 26 = false) : SM h2 s := ⟨hS.1.fr hF s1 s4, fun i hi => (hF.1 _ _ (s2 _)).trans (hS.2.1 i hi), (hF.1 _ _ s3).trans hS.2.2⟩
/-- a change of the class between note and keepNoted -/
theorem c_kept {τ : Type} {h : HD} {s s2 : S3} {k : Int} {past : Int → Row} {v : τ} {f : HD → Option (τ × HD)} (hS : SC h s) (hn : s.1.1 ≤ 11) (hk : 0 ≤ k ∧ k ≤ 6) (hU : UC h k past) (hf : ∀ g, SC g s → ∃ g2, f g = some (v, g2) ∧ Fr sA8 g g2 ∧ SC g2 s2) : ∃ q1 q2 q3, jX8_note h = some q1 ∧ f q1 = some (v, q2) ∧ jX8_keepNoted q2 = some q3 ∧ (Fr sCC h q2 ∧ SC q2 s2 ∧ UC q2 k past) ∧ Fk sCC h q3 ∧ SC q3 s2 ∧ UC q3 (psK k) (psF k past s.1) := by
  obtain ⟨q1, e1, f1, c1⟩ := x2_copy (o := 3) (r := 0) (by decide) hS.1 hn
  have hS1 : SC q1 s := hS.fr f1 (s1_f (by decide)) (fun _ => rfl) rfl
  have hU1 : UC q1 k past := hU.fr hk.2 f1 rfl (fun o j k ho => s1_f (by omega) j k)
  obtain ⟨q2, e2, f2, c2⟩ := hf q1 hS1
  have nA : ∀ o j k, 2 ≤ o → sA8 (1, o, j) k = false := fun o j k ho => by
    rcases o with _ | _ | o
    · omega
    · omega
    · rfl
  have hU2 : UC q2 k past := hU1.fr hk.2 f2 rfl (fun o j k ho => nA o j k (by omega))
  obtain ⟨q3, e3, f3, c3⟩ := x8_keep hU2 hk (c1.fr f2 (fun j k => nA 3 j k (by decide))) hn
  have F2 : Fr sCC h q2 := (s1_CC (by decide) f1).tr (A8_CC f2)
  refine ⟨q1, q2, q3, ?_, e2, e3, ⟨F2, c2, hU2⟩, (Fk.of F2).tr (Kp_CC f3), c2.fr (S := sKp) (h2 := ck q2 q3) f3.fr (fun _ _ => rfl) (fun _ => rfl) rfl, c3⟩
  unfold jX8_note
  rw [e1]
  rfl
theorem m_kept {h : HD} {s s2 : S3} {k : Int} {past : Int → Row} {v : Int32} {f : HD → Option (Int32 × HD)} (hS : SM h s) (hn : s.1.1 ≤ 11) (hk : 0 ≤ k ∧ k ≤ 6) (hU : UM h k past) (hp : ∀ z, 0 ≤ z → z < k → RwOk (past z)) (hf : ∀ g, SM g s → ∃ g2, f g = some (v, g2) ∧ Fr sA9 g g2 ∧ SM g2 s2) : ∃ q1 q2 q3, jX9_laysAside h = some q1 ∧ f q1 = some (v, q2) ∧ jX9_kept v q2 = some (v, q3) ∧ Fr sMM h q3 ∧ SM q3 s2 ∧ UM q3 (psK k) (psF k past s.1) ∧ gI q3 (7, 0, 0) 0 = gI h (7, 0, 0) 0 := by
  obtain ⟨q1, e1, f1, c1, -⟩ := x9_aside hS.1 hn
  obtain ⟨q2, e2, f2, c2⟩ := hf q1 (hS.fr f1 (fun _ => rfl) (fun _ => rfl) (fun _ => rfl) rfl)
  have hU2 : UM q2 k past := (hU.fr f1 rfl (fun _ => rfl) (fun _ => rfl)).fr f2 rfl (fun _ => rfl) (fun _ => rfl)
  obtain ⟨q3, e3, f3, c3⟩ := x9_keeps hU2 hk (fun z z0 z1 => (hp z z0 z1).1.2.1) (c1.fr f2 (fun _ => rfl) (fun _ => rfl)) hn
  refine ⟨q1, q2, q3, e1, e2, ?_, ((s2_MM (Or.inr (Or.inl rfl)) (Or.inr (Or.inl rfl)) f1).tr (A9_MM f2)).tr (Km_MM f3), c2.fr f3 (fun _ => rfl) (fun _ => rfl) (fun _ => rfl) rfl, c3, ?_⟩
  · unfold jX9_kept
    rw [e3]
    rfl
  · rw [f3.1 _ _ rfl, f2.1 _ _ rfl, f1.1 _ _ rfl]
