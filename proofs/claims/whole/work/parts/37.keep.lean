/-! UNDO, SAVE, RESTORE -/
theorem p_undo {h : HD} (hR : Rel h) : PV (jX8_undo h) jX9_undo := by
  obtain ⟨R, a, rf, k, past, hok, hC, hM, hk, hU, hV, hp⟩ := hR.get
  by_cases q : k = 0
  · subst q
    refine ⟨iZ (-1), h, c0 h 0, ?_, ?_, hR.fr (c0_fr h 0)⟩
    · unfold jX8_undo
      rw [hU.1, i1, if_pos (lt_y (by omega) (by omega) (by omega))]
      rfl
    · unfold jX9_undo
      rw [lt_eq, c0_def, (hV.c0 0).1, if_pos (show iZ 0 = 0 from rfl)]
      rfl
  · obtain ⟨P, hP⟩ : ∃ P, past (k - 1) = P := ⟨_, rfl⟩
    have okP : RwOk P := hP ▸ hp (k - 1) (by omega) (by omega)
    have cP : RwC h (gK h (k - 1).toNat) P := hP ▸ hU.2.2.2 (k - 1) (by omega) (by omega)
    have mP : RwM h (7, 0, 6) (7, 0, 11) (13 * (k - 1)) (11 * (k - 1)) P := hP ▸ hV.2 (k - 1) (by omega) (by omega)
    have hu := hU.2.1 (k - 1).toNat (by omega)
    obtain ⟨g, hg⟩ : ∃ g, g = sI h (6, 0, 0) 13 (iZ (k - 1)) := ⟨_, rfl⟩
    have fg : Fr (fun (q : Rf) (_ : Nat) => decide (q = (6, 0, 0))) h g := by rw [hg]; exact Fr.rf.sI rfl _
    have fg2 : Fr sCC h g := by rw [hg]; exact Fr.rf.sI rfl _
    have nx : ∀ (o j k2 : Nat), (fun (q : Rf) (_ : Nat) => decide (q = (6, 0, 0))) (1, o, j) k2 = false := fun o j k2 => decide_eq_false (fun e => by cases e)
    have g13 : gI g (6, 0, 0) 13 = iZ (k - 1) := by rw [hg, gI_self]
    have gSC : SC g (R, a, rf) := ⟨hC.1.fr fg (nx 0), fun i hi => (fg.1 _ _ rfl).trans (hC.2.1 i hi), by
      rw [hg, gI_nk _ _ _ (by decide)]; exact hC.2.2⟩
    have gU : UC g (k - 1) past := ⟨g13, fun i hi => by rw [fg.kK]; exact hU.2.1 i hi, fun i j hi hj => by rw [fg.kK, fg.kK]; exact hU.2.2.1 i j hi hj, fun z z0 z1 => by
      rw [fg.kK]; exact (hU.2.2.2 z z0 (by omega)).fr fg (nx _)⟩
    obtain ⟨h4, e4, f4, c4⟩ := x2_copy (o := 0) (r := gK h (k - 1).toNat) (by omega) (cP.fr fg (nx _)) okP.1.2.1
    have C5 := (gSC.row f4 c4).bump 4 (by decide)
    have F5 : Fr sCC h (sI h4 (6, 0, 2) 4 (gI h4 (6, 0, 2) 4 + 1)) := (fg2.tr (s1_CC (by decide) f4)).sI rfl _
    have U5 : UC (sI h4 (6, 0, 2) 4 (gI h4 (6, 0, 2) 4 + 1)) (k - 1) past := (gU.fr (by omega) f4 rfl (fun o j k2 ho => s1_f (by omega) j k2)).fr (S := fun (q : Rf) (_ : Nat) => decide (q = (6, 0, 2))) (by omega) (Fr.rf.sI rfl _) rfl (fun o j k2 _ => decide_eq_false (fun e => by cases e))
    obtain ⟨h5, e5⟩ : ∃ h5, h5 = sI h4 (6, 0, 2) 4 (gI h4 (6, 0, 2) 4 + 1) := ⟨_, rfl⟩
    rw [← e5] at C5 F5 U5
    have M5 := (hM.fk (Fk.of F5)).c0 0
    have V5 := (hV.fk (Fk.of F5)).c0 0
    have mP5 : RwM (c0 h5 0) (7, 0, 6) (7, 0, 11) (13 * (k - 1)) (11 * (k - 1)) P := hP ▸ V5.2 (k - 1) (by omega) (by omega)
    obtain ⟨m, em⟩ : ∃ m, m = sI (c0 h5 0) (7, 0, 0) 23 (iZ (k - 1)) := ⟨_, rfl⟩
    have fm : Fr (fun (q : Rf) (k2 : Nat) => decide (q = (7, 0, 0)) && Nat.beq k2 23) (c0 h5 0) m := by rw [em]; exact Fr.rf.sI rfl _
    have fm2 : Fr sMM (c0 h5 0) m := by rw [em]; exact Fr.rf.sI rfl _
    have m23 : gI m (7, 0, 0) 23 = iZ (k - 1) := by rw [em, gI_self]
    have mSM : SM m (R, a, rf) := M5.fr fm (fun _ => rfl) (fun _ => rfl) (fun _ => rfl) rfl
    have mU : UM m (k - 1) past := ⟨m23, fun z z0 z1 => (V5.2 z z0 (by omega)).fr fm (fun _ => rfl) (fun _ => rfl)⟩
    obtain ⟨n1, n2, E1, E2, F1, F2, N, -, -⟩ := x9_cpBoth (h := m) (t := (7, 0, 2)) (t2 := (7, 0, 7)) (c := 0) (c2 := 0) (m := 78) (k := 13) (m2 := 66) (k2 := 11) (mP5.fr fm (fun _ => rfl) (fun _ => rfl)) okP.1.2.1 rfl rfl rfl rfl (by decide) (by decide) (by decide) (by decide) (by omega) (by omega) (by decide) (by decide) (by omega) (by omega) (by decide) (by decide) (by decide) (by decide) (by decide) (by decide)
    have M6 := (mSM.row F2 (fun _ => rfl) rfl N).bump 4 (by decide)
    have U6 : UM (sI n2 (7, 0, 12) 4 (gI n2 (7, 0, 12) 4 + 1)) (k - 1) past := (mU.fr F2 rfl (fun _ => rfl) (fun _ => rfl)).fr (S := fun (q : Rf) (_ : Nat) => decide (q = (7, 0, 12))) (Fr.rf.sI rfl _) rfl (fun _ => rfl) (fun _ => rfl)
    have G6 : Fr sMM (c0 h5 0) (sI n2 (7, 0, 12) 4 (gI n2 (7, 0, 12) 4 + 1)) := (fm2.tr (s2_MM (Or.inl rfl) (Or.inl rfl) F2)).sI rfl _
    refine ⟨iZ (k - 1), h5, sI n2 (7, 0, 12) 4 (gI n2 (7, 0, 12) 4 + 1), ?_, ?_, hR.chg (Fk.of F5) ((c0_MM h5 0).tr G6) okP C5 M6 ⟨by omega, by omega⟩ U5 U6 (fun z z0 z1 => hp z z0 (by omega))⟩
    · unfold jX8_undo
      rw [hU.1, i1, if_neg (lt_n (by omega) (by omega) (by omega)), i6, if_pos (le_y (by omega) (by omega) (by omega)), iZ_sub, ← hg, lt_eq, g13, inB_t (by omega) (by omega) (by omega), if_pos rfl, iZ_nat (by omega) (by omega), fg.kK, e4, Option.bind_some, ← i1, ← e5, lt_eq, U5.1]
    · unfold jX9_undo
      rw [lt_eq, c0_def, V5.1, if_neg (show ¬ iZ k = 0 from eq_n (a := k) (b := 0) (by omega) (by omega) (by omega) (by omega) (by omega)), i1, iZ_sub, ← em, lt_eq, m23, i13, iZ_mul, i0, E1, Option.bind_some, F1.1 _ _ rfl, m23, i11, iZ_mul, E2, Option.bind_some, lt_eq, ← i1, U6.1]
/-- what save may touch -/
def sSv : Rf → Nat → Bool := fun r k => (Nat.beq r.1 1 && Nat.beq r.2.1 2) || (Nat.beq r.1 6 && Nat.beq r.2.2 0 && Nat.beq k 14) || (Nat.beq r.1 7 && (Nat.beq r.2.2 3 || Nat.beq r.2.2 8 || (Nat.beq r.2.2 0 && (Nat.beq k 0 || Nat.beq k 24))))
theorem sSv_1 {o : Nat} (ho : o ≠ 2) (j k : Nat) : sSv (1, o, j) k = false := by
  unfold sSv
  cases e : Nat.beq o 2 with
  | true => exact absurd (Nat.eq_of_beq_eq_true e) ho
  | false =>
    rfl
theorem p_save {h : HD} (hR : Rel h) : PV (jX8_save h) jX9_save := by
  obtain ⟨⟨R, r1⟩, r2, r3, r4, r5, r6, r7⟩ := id hR
  obtain ⟨hok, hC, hM⟩ := id r1
  obtain ⟨q1, e1, f1, c1⟩ := x2_copy (o := 2) (r := 0) (by decide) hC hok.1.2.1
  obtain ⟨g, hg⟩ : ∃ g, g = sI q1 (6, 0, 0) 14 (iZ 1) := ⟨_, rfl⟩
  have Fg : Fr sSv h g := by
    rw [hg]
    refine Fr.sI (f1.mono fun r k q => ?_) rfl _
    unfold sSv at q
    unfold s1
    revert q
    cases Nat.beq r.1 1 <;> cases Nat.beq r.2.1 2 <;> simp
  have cg : RwC g 2 R := by rw [hg]; exact c1.fr (S := fun (q : Rf) (_ : Nat) => decide (q = (6, 0, 0))) (Fr.rf.sI rfl _) (fun j k => decide_eq_false (fun e => by cases e))
  have Fc : Fr sSv g (c0 g 0) := Fr.rf.sI rfl _
  have hM1 : RwM (c0 g 0) (7, 0, 2) (7, 0, 7) 0 0 R := hM.fr (Fg.tr Fc) (fun _ => rfl) (fun _ => rfl)
  obtain ⟨n1, n2, E1, E2, F1, F2, N, -, -⟩ := x9_cpBoth (h := c0 g 0) (t := (7, 0, 3)) (t2 := (7, 0, 8)) (c := 0) (c2 := 0) (m := 13) (k := 13) (m2 := 11) (k2 := 11) hM1 hok.1.2.1 rfl rfl rfl rfl (by decide) (by decide) (by decide) (by decide) (by decide) (by decide) (by decide) (by decide) (by decide) (by decide) (by decide) (by decide) (by decide) (by decide) (by decide) (by decide)
  have Fn : Fr sSv (c0 g 0) (sI n2 (7, 0, 0) 24 (iZ 1)) := by
    refine Fr.sI (F2.mono fun r k q => ?_) rfl _
    refine decide_eq_false fun e => ?_
    rcases e with e | e <;> · rw [e] at q; cases q
  have F : Fr sSv h (sI n2 (7, 0, 0) 24 (iZ 1)) := (Fg.tr Fc).tr Fn
  have nz : ∀ (j k2 : Nat), j ≠ 0 → (fun (q : Rf) (_ : Nat) => decide (q = (7, 0, 0))) (7, 0, j) k2 = false := fun j k2 hj => decide_eq_false (fun e => hj (congrArg (fun x : Rf => x.2.2) e))
  refine ⟨iZ R.1, g, sI n2 (7, 0, 0) 24 (iZ 1), ?_, ?_, ⟨R, r1.fr F (sSv_1 (by decide)) (fun _ => rfl) (fun _ => rfl)⟩, r2.fr F rfl rfl (fun _ => rfl) (fun _ => rfl), r3.fr F (fun _ => rfl) (fun _ => rfl) rfl rfl, r4.fr F rfl rfl rfl rfl, r5.fr F rfl rfl (fun o j k ho => sSv_1 (by omega) j k) (fun _ => rfl) (fun _ => rfl), Or.inr ⟨?_, gI_self _ _ _ _, R, hok, ?_, ?_⟩, r7.fr F rfl rfl (fun _ => rfl) (fun _ => rfl) rfl⟩
  · unfold jX8_save
    rw [e1, Option.bind_some, i1, ← hg, lt_eq]
    unfold jX2_count
    rw [(hC.fr Fg (sSv_1 (by decide))).1.1]
  · unfold jX9_save
    rw [lt_eq, c0_def, i0, E1, Option.bind_some, E2, Option.bind_some, i1, lt_eq, (hM.fr F (fun _ => rfl) (fun _ => rfl)).pr.1]
  · rw [gI_ne _ (by decide), F2.1 _ _ rfl]
    show gI (sI g (7, 0, 0) 0 _) _ _ = _
    rw [gI_ne _ (by decide), hg, gI_self]
  · have : RwC (c0 g 0) 2 R := cg.fr (S := fun (q : Rf) (_ : Nat) => decide (q = (7, 0, 0))) (Fr.rf.sI rfl _) (fun j k => rfl)
    exact (this.fr F2 (fun _ _ => rfl)).fr (S := fun (q : Rf) (_ : Nat) => decide (q = (7, 0, 0))) (Fr.rf.sI rfl _) (fun j k => rfl)
  · exact N.fr (S := fun (q : Rf) (_ : Nat) => decide (q = (7, 0, 0))) (Fr.rf.sI rfl _) (fun k2 => nz 3 k2 (by decide)) (fun k2 => nz 8 k2 (by decide))
theorem p_restore {h : HD} (hR : Rel h) : PP [0] (jX8_restore h) jX9_restore := by
  obtain ⟨R, a, rf, k, past, hok, hC, hM, hk, hU, hV, hp⟩ := hR.get
  have r6 := hR.2.2.2.2.2.1
  rcases r6 with ⟨s1, s2⟩ | ⟨s1, s2, P, okP, cP, mP⟩
  · refine PP.ex (h1 := h) (h2 := c0 h 1) (w := 0) 0 (e := 0) ?_ ?_ (hR.fr (c0_fr h 1)) rfl (c0_0 _ _)
    · unfold jX8_restore
      rw [s1, if_pos (show iZ 0 = 0 from rfl)]
    · unfold jX9_restore
      rw [s2, if_pos (show iZ 0 = 0 from rfl), x9_goes]
      rfl
  · obtain ⟨q1, e1, f1, c1⟩ := x2_copy (o := 0) (r := 2) (by decide) cP okP.1.2.1
    obtain ⟨g, hg⟩ : ∃ g, g = sI q1 (6, 0, 0) 13 (iZ 0) := ⟨_, rfl⟩
    have fg : Fr (fun (q : Rf) (k2 : Nat) => decide (q = (6, 0, 0)) && Nat.beq k2 13) q1 g := by rw [hg]; exact Fr.rf.sI rfl _
    have Fg : Fr sCC h g := (s1_CC (by decide) f1).tr (by rw [hg]; exact Fr.rf.sI rfl _)
    have nx : ∀ (o j k2 : Nat), (fun (q : Rf) (k2 : Nat) => decide (q = (6, 0, 0)) && Nat.beq k2 13) (1, o, j) k2 = false := fun o j k2 => by
      show (decide _ && _) = false
      rw [decide_eq_false (fun e => by cases e)]
      rfl
    have C : SC g (P, a, rf) := (hC.row f1 c1).fr fg (nx 0) (fun _ => rfl) rfl
    have kF : ∀ i, gK g i = gK h i := fun i => Fg.kK i
    have U : UC g 0 past := ⟨by rw [hg, gI_self], fun i hi => by rw [kF]; exact hU.2.1 i hi, fun i j hi hj => by rw [kF, kF]; exact hU.2.2.1 i j hi hj, fun z z0 z1 => by omega⟩
    have M1 := (hM.fk (Fk.of Fg)).c0 0
    have mP1 : RwM (c0 g 0) (7, 0, 3) (7, 0, 8) 0 0 P := (mP.fr Fg (fun _ => rfl) (fun _ => rfl)).fr (c0_fr g 0) (fun _ => rfl) (fun _ => rfl)
    obtain ⟨n1, n2, E1, E2, F1, F2, N, -, -⟩ := x9_cpBoth (h := c0 g 0) (t := (7, 0, 2)) (t2 := (7, 0, 7)) (c := 0) (c2 := 0) (m := 13) (k := 13) (m2 := 11) (k2 := 11) mP1 okP.1.2.1 rfl rfl rfl rfl (by decide) (by decide) (by decide) (by decide) (by decide) (by decide) (by decide) (by decide) (by decide) (by decide) (by decide) (by decide) (by decide) (by decide) (by decide) (by decide)
    have fm : Fr (fun (q : Rf) (k2 : Nat) => decide (q = (7, 0, 0)) && Nat.beq k2 23) n2 (sI n2 (7, 0, 0) 23 (iZ 0)) := Fr.rf.sI rfl _
    have M : SM (sI n2 (7, 0, 0) 23 (iZ 0)) (P, a, rf) := (M1.row F2 (fun _ => rfl) rfl N).fr fm (fun _ => rfl) (fun _ => rfl) (fun _ => rfl) rfl
    have G : Fr sMM (c0 g 0) (sI n2 (7, 0, 0) 23 (iZ 0)) := (s2_MM (Or.inl rfl) (Or.inl rfl) F2).sI rfl _
    refine PP.ok (v := iZ P.1) (h1 := g) (h2 := sI n2 (7, 0, 0) 23 (iZ 0)) ?_ ?_ (hR.chg (Fk.of Fg) ((c0_MM g 0).tr G) okP C M ⟨by decide, by decide⟩ U ⟨gI_self _ _ _ _, fun z z0 z1 => by omega⟩ (fun z z0 z1 => by omega)) ?_
    · unfold jX8_restore
      rw [s1, if_neg (show ¬ iZ 1 = 0 by decide), e1, Option.bind_some, i0, ← hg, lt_eq]
      unfold jX2_count
      rw [C.1.1.1]
    · unfold jX9_restore
      rw [Fg.1 _ _ rfl, s2, if_neg (show ¬ iZ 1 = 0 by decide), if_pos (show iZ 1 = 1 from rfl), x9_goes, Option.bind_some, if_pos rfl]
      show (jX9_copiesRow (7, 0, 3) 0 (7, 0, 2) 0 (c0 g 0)).bind _ = _
      rw [i0, E1, Option.bind_some, E2, Option.bind_some, lt_eq, M.1.pr.1]
    · rw [gI_nk _ _ _ (by decide), F2.1 _ _ rfl]
      exact c0_0 _ _
