/-! a script is read: the reference's loop -/
def RE (h : HD) : Option (Int32 × HD) := (jX9_endsText h).bind fun q14 =>
  (if q14.1 = true then (jX9_laysAside q14.2).bind fun q15 =>
  (jX9_doesAll q15).bind fun q16 =>
  (jX9_keeps q16.2).bind fun q17 =>
  some (q16.1, q17) else some ((0 : Int32), q14.2))
def RK (h9 : HD) : Option (Int32 × HD) := (if (jX9_isGood h9) = true then (if (gI h9 (7, 0, 0) 47) ≤ 0 then RE h9 else (jX9_wrong (1 : Int32) h9).bind fun q18 => RE q18) else RE h9)
theorem runScript_eq (h : HD) : jX9_runScript h = (jX9_beginsText h).bind fun q1 => lt (sI q1 (7, 0, 0) 45 (0 : Int32)) fun h2 => lt (sI h2 (7, 0, 0) 46 (0 : Int32)) fun h3 => lt (sI h3 (7, 0, 0) 47 (0 : Int32)) fun h4 => jX9_runScript_L19 RK FU h4 := rfl
theorem b_isSign {g : HD} {c p : Int} (k : ErM g c p) (hc : c = 1 ∨ c = 2 ∨ c = 3 ∨ c = 5) (x : Int32) : jX9_isSign x g = false := by
  unfold jX9_isSign
  rw [k.1, if_neg (show ¬ iZ c = 0 from eq_n (b := 0) (by omega) (by omega) (by omega) (by omega) (by omega))]
theorem b_closes {g : HD} {c p : Int} (k : ErM g c p) (hc : c = 1 ∨ c = 2 ∨ c = 3 ∨ c = 5) (m : Nat) : jX9_closes_L0 (m + 1) g = some g := by
  rw [jX9_closes_L0]
  by_cases q : gI g (7, 0, 0) 47 ≤ 0
  · rw [if_pos q]
  · rw [if_neg q, b_isSign k hc, if_neg Bool.false_ne_true]
theorem b_L19 {g : HD} {c p : Int} (k : ErM g c p) (hc : c = 1 ∨ c = 2 ∨ c = 3 ∨ c = 5) (f : Nat) : jX9_runScript_L19 RK (f + 1) g = RE g := by
  have kg : jX9_isGood g = false := k.g (by omega)
  rw [jX9_runScript_L19, kg, if_neg Bool.false_ne_true]
  unfold RK
  rw [kg, if_neg Bool.false_ne_true]
section
variable {len : Int} {bs : Int → Int}
theorem m_readL : ∀ (n : Nat) (f m : Nat) (h : HD) (z : Zp) (t : Tok), MT h len bs t → TG len t → MZ h z → 401 ≤ (n : Int) + t.2.1 → (match scP len bs n z t with
    | .inl (c, p) => ∃ g, ((jX9_closes_L0 (m + (dpZ z).toNat + 1) h).bind fun q => jX9_runScript_L19 RK (f + n + 1) q) = RE g ∧ Fr sSm h g ∧ ErM g c p ∧ (c = 1 ∨ c = 2 ∨ c = 3 ∨ c = 5)
    | .inr P => ∃ g, ((jX9_closes_L0 (m + (dpZ z).toNat + 1) h).bind fun q => jX9_runScript_L19 RK (f + n + 1) q) = RE g ∧ Fr sSm h g ∧ MZ g (P, none) ∧ gI g (7, 0, 0) 8 = iZ 0 ∧ gI g (7, 0, 0) 9 = gI h (7, 0, 0) 9) := by
  intro n
  induction n with
  | zero =>
    intro f m h z t hM hT hZ hn
    exfalso
    have := hM.2.2.1
    have := hT.2.2.1
    have := hT.2.2.2.1
    omega
  | succ n ih =>
    intro f m h z t hM hT hZ hn
    have h4 := hT.1.2.2.2
    obtain ⟨nn, d0, d2, -⟩ := szZ_nn (e := 1) (z := z) (by decide)
    have n2 := (szZ_nn (e := 2) (z := z) (by decide)).1
    have two := szZ_two (z := z)
    obtain ⟨z1, z2, z3, z4, z5⟩ := id hZ
    have e6 := hM.2.2.2.1.1
    have gd := m_good hM
    rw [show f + (n + 1) + 1 = f + n + 1 + 1 by omega]
    unfold scP
    by_cases qd : dpZ z = 0 ∧ t.1 = 0
    · rw [if_pos qd]
      refine ⟨h, ?_, Fr.rf, by rw [← dp0 qd.1]; exact hZ, hM.2.2.2.2.2.2.2, rfl⟩
      rw [jX9_closes_L0, z3, if_pos (show iZ (dpZ z) ≤ 0 by rw [qd.1]; decide), Option.bind_some, jX9_runScript_L19, gd, if_pos rfl, e6, if_pos (show iZ t.1 = 0 by rw [qd.2]; rfl)]
      unfold RK
      rw [gd, if_pos rfl, z3, if_pos (show iZ (dpZ z) ≤ 0 by rw [qd.1]; decide)]
    rw [if_neg qd]
    by_cases qm : 0 < dpZ z ∧ isMk t 41
    · rw [if_pos qm]
      obtain ⟨k, hk⟩ : ∃ k : Nat, szZ 2 z = k := ⟨(szZ 2 z).toNat, by omega⟩
      have ek : (iZ k).toNatClampNeg = k := by rw [iZ_nat (by omega) (by omega), Int.toNat_natCast]
      obtain ⟨s1', s2'⟩ := clsZ_sz (e := 2) qm.1
      have s3' := (clsZ_sz (e := 1) qm.1).1
      obtain ⟨g1, e1⟩ : ∃ g1, g1 = sI (sI (sI h (7, 0, 0) 47 (iZ (dpZ z - 1))) (7, 0, 25) k (iZ 9)) (7, 0, 0) 45 (iZ ((k : Int) + 1)) := ⟨_, rfl⟩
      have F1 : Fr (fun r j => (decide (r = (7, 0, 0)) && (Nat.beq j 45 || Nat.beq j 47)) || (decide (r = (7, 0, 25)) && Nat.beq j k)) h g1 := by rw [e1]; exact ((Fr.rf.sI rfl _).sI (by simp) _).sI rfl _
      have S1 : Fr sSm h g1 := by rw [e1]; exact ((Fr.rf.sI rfl _).sI rfl _).sI rfl _
      have ne : ∀ j : Int, 0 ≤ j → j < szZ 2 z → Nat.beq j.toNat k = false := fun j j0 j1 => by
        cases e : Nat.beq j.toNat k with
        | true => have := Nat.eq_of_beq_eq_true e; omega
        | false => rfl
      have c25 : ∀ j : Int, 0 ≤ j → j < szZ 2 z → gI g1 (7, 0, 25) j.toNat = gI h (7, 0, 25) j.toNat := fun j j0 j1 => F1.1 _ _ (by
        show (false || (true && Nat.beq j.toNat k)) = false
        rw [ne j j0 j1]; rfl)
      have Z1 : MZ g1 (clsZ z) := ⟨by rw [e1, gI_self, s1', hk]; rfl, by rw [F1.1 _ _ rfl, z2, s3']; show iZ (szZ 1 z) = iZ (szZ 1 z + (1 - 1)); rw [show szZ 1 z + (1 - 1) = szZ 1 z by omega], by rw [e1, gI_nk _ _ _ (by decide), gI_ne _ (by decide), gI_self, s2'], by omega, AtZ_cls (P := CellM h) (by decide) qm.1 (fun j c bh j0 j1 j2 hc => hc.keep (c25 j j0 j1) (F1.2.1 _ _ rfl) (F1.1 _ _ rfl)) (fun c bh hc => by
        have o := (szZ_nn (e := 2) (z := z) (by decide)).2.2.2 qm.1
        exact hc.keep (c25 _ o.1 o.2) (F1.2.1 _ _ rfl) (F1.1 _ _ rfl)) (Or.inl (by decide)) (fun j j0 j1 hl => (c25 j j0 j1).trans hl) (by
        show gI g1 (7, 0, 25) (szZ 2 z).toNat = iZ 9
        rw [e1, gI_ne _ (by decide), hk, Int.toNat_natCast, gI_self]) z5⟩
      have M1 : MT g1 len bs t := hM.fr F1 (fun _ => rfl) rfl rfl rfl rfl rfl rfl rfl
      obtain ⟨g2, e2, f2, M2⟩ := m_goOn M1
      have Z2 : MZ g2 (clsZ z) := Z1.fr f2 (fun _ => rfl) (fun _ => rfl) (fun _ => rfl) rfl rfl rfl
      have T2 := hT.nx (bs := bs)
      have ms := m_mustSign M2 (c := 59) (by decide) (by decide)
      have a9 : gI g2 (7, 0, 0) 9 = gI h (7, 0, 0) 9 := by rw [f2.1 _ _ rfl, F1.1 _ _ rfl]
      have st : jX9_closes_L0 (m + (dpZ z).toNat + 1) h = (jX9_mustSign (59 : Int32) g2).bind fun q6 => jX9_closes_L0 (m + (dpZ z).toNat) q6 := by
        rw [jX9_closes_L0, z3, if_neg (show ¬ iZ (dpZ z) ≤ 0 from le_n (b := 0) (by omega) (by omega) (by omega)), show (41 : Int32) = iZ 41 from rfl, m_isSign hM (by decide) (by decide), decide_eq_true (show t.1 = 3 ∧ t.2.2.2.2 = 41 from qm.2), if_pos rfl, i1, iZ_sub, lt_eq, gI_nk _ _ _ (by decide), z1, hk, inB_t (by omega) (by omega) (by omega), if_pos rfl, ek, lt_eq, gI_ne _ (by decide), gI_nk _ _ _ (by decide), z1, hk, iZ_add, lt_eq, show (9 : Int32) = iZ 9 from rfl, ← e1, e2, Option.bind_some]
      rw [st]
      unfold mkP
      by_cases q4 : isMk (nx len bs t) 59
      · rw [if_pos q4]
        obtain ⟨g3, e3, f3, M3⟩ := ms.1 q4
        have := hT.2.2.2.2 (by have := qm.2.1; omega)
        have n1 := T2.1.nx (bs := bs)
        have := T2.1.2.2.1
        have ihx := ih (f + 1) m g3 (clsZ z) (nx len bs (nx len bs t)) M3 n1.1 (Z2.fr f3 (fun _ => rfl) (fun _ => rfl) (fun _ => rfl) rfl rfl rfl) (by omega)
        rw [show m + (dpZ (clsZ z)).toNat + 1 = m + (dpZ z).toNat by rw [s2']; omega, show f + 1 + n + 1 = f + n + 1 + 1 by omega] at ihx
        rw [show (59 : Int32) = iZ 59 from rfl, e3, Option.bind_some]
        show match scP len bs n (clsZ z) (nx len bs (nx len bs t)) with | .inl (c, p) => _ | .inr P => _
        cases hs : scP len bs n (clsZ z) (nx len bs (nx len bs t)) with
        | inl er =>
          rw [hs] at ihx
          obtain ⟨c, p⟩ := er
          obtain ⟨g4, e4, f4, r4⟩ := ihx
          exact ⟨g4, e4, ((S1.tr (sRd_Sm f2)).tr (sRd_Sm f3)).tr f4, r4⟩
        | inr P =>
          rw [hs] at ihx
          obtain ⟨g4, e4, f4, r4, r8, r9⟩ := ihx
          exact ⟨g4, e4, ((S1.tr (sRd_Sm f2)).tr (sRd_Sm f3)).tr f4, r4, r8, r9.trans ((f3.1 _ _ rfl).trans a9)⟩
      · rw [if_neg q4]
        obtain ⟨g3, e3, f3, k3⟩ := ms.2 q4
        refine ⟨g3, ?_, (S1.tr (sRd_Sm f2)).tr (sME_Sm f3), k3, Or.inl rfl⟩
        rw [show (59 : Int32) = iZ 59 from rfl, e3, Option.bind_some, show m + (dpZ z).toNat = (m + (dpZ z).toNat - 1) + 1 by omega, b_closes k3 (Or.inl rfl), Option.bind_some, b_L19 k3 (Or.inl rfl)]
    · rw [if_neg qm]
      have ex : jX9_closes_L0 (m + (dpZ z).toNat + 1) h = some h := by
        rw [jX9_closes_L0, z3]
        by_cases q0 : dpZ z = 0
        · rw [if_pos (show iZ (dpZ z) ≤ 0 by rw [q0]; decide)]
        · rw [if_neg (show ¬ iZ (dpZ z) ≤ 0 from le_n (b := 0) (by omega) (by omega) (by omega)), show (41 : Int32) = iZ 41 from rfl, m_isSign hM (by decide) (by decide), decide_eq_false (show ¬ (t.1 = 3 ∧ t.2.2.2.2 = 41) from fun c => qm ⟨by omega, c⟩), if_neg Bool.false_ne_true]
      rw [ex, Option.bind_some, jX9_runScript_L19, gd, if_pos rfl, e6]
      by_cases q0 : t.1 = 0
      · have ec : cmP len bs z t = .inl (1, t.2.1) := by
          unfold cmP cmdOf
          rw [if_neg (show ¬ t.1 = 1 by omega)]
        rw [ec, if_pos (show iZ t.1 = 0 by rw [q0]; rfl)]
        obtain ⟨g, e, f1, k⟩ := m_wrong hM (c := 1)
        have k1 : ErM g 1 t.2.1 := by rwa [ite_self] at k
        refine ⟨g, ?_, sME_Sm f1, k1, Or.inl rfl⟩
        unfold RK
        rw [gd, if_pos rfl, z3, if_neg (show ¬ iZ (dpZ z) ≤ 0 from le_n (b := 0) (by omega) (by omega) (by omega)), i1, e, Option.bind_some]
      · rw [if_neg (show ¬ iZ t.1 = 0 from eq_n (b := 0) (by omega) (by omega) (by omega) (by omega) (by omega))]
        have mc := m_cms hM hT hZ
        have fuc : ∀ (g : HD), jX9_closes g = jX9_closes_L0 (999999 + 1) g := fun g => rfl
        cases hc : cmP len bs z t with
        | inl er =>
          rw [hc] at mc
          obtain ⟨c, p⟩ := er
          obtain ⟨g, mc⟩ := mc
          rcases mc with ⟨e, f1, k, kc⟩ | ⟨q5, e, e47, e5, f1, k, kc⟩
          · refine ⟨g, ?_, f1, k, kc⟩
            rw [e, Option.bind_some]
            by_cases q47 : gI g (7, 0, 0) 47 = gI h (7, 0, 0) 47
            · rw [if_pos q47, b_mustSign (k.g (by omega)), Option.bind_some, fuc, b_closes k kc, Option.bind_some, b_L19 k kc]
            · rw [if_neg q47, fuc, b_closes k kc, Option.bind_some, b_L19 k kc]
          · refine ⟨g, ?_, f1, k, kc⟩
            rw [e, Option.bind_some, if_pos e47, e5, Option.bind_some, fuc, b_closes k kc, Option.bind_some, b_L19 k kc]
        | inr zt =>
          rw [hc] at mc
          obtain ⟨y2, t2⟩ := zt
          obtain ⟨q5, g, e, mc, f1, k, Z2, b9⟩ := mc
          have ok := cmP_ok hT hc
          have d2' := (szZ_nn (e := 1) (z := y2) (by decide)).2
          have ihx := ih f (999999 - (dpZ y2).toNat) g y2 t2 k ok.1 Z2 (by omega)
          rw [show 999999 - (dpZ y2).toNat + (dpZ y2).toNat + 1 = 999999 + 1 by omega] at ihx
          have st : ((jX9_command h).bind fun q5 => (if (gI q5 (7, 0, 0) 47) = (gI h (7, 0, 0) 47) then (jX9_mustSign (59 : Int32) q5).bind fun q7 => (jX9_closes q7).bind fun q8 => jX9_runScript_L19 RK (f + n + 1) q8 else (jX9_closes q5).bind fun q6 => jX9_runScript_L19 RK (f + n + 1) q6)) = ((jX9_closes_L0 (999999 + 1) g).bind fun q => jX9_runScript_L19 RK (f + n + 1) q) := by
            rw [e, Option.bind_some]
            rcases mc with ⟨a1, a2⟩ | ⟨a1, a2⟩
            · rw [if_pos a1, a2, Option.bind_some, fuc]
            · rw [if_neg a1, a2, fuc]
          rw [st]
          show match scP len bs n y2 t2 with | .inl (c, p) => _ | .inr P => _
          cases hs : scP len bs n y2 t2 with
          | inl er =>
            rw [hs] at ihx
            obtain ⟨c, p⟩ := er
            obtain ⟨g4, e4, f4, r4⟩ := ihx
            exact ⟨g4, e4, f1.tr f4, r4⟩
          | inr P =>
            rw [hs] at ihx
            obtain ⟨g4, e4, f4, r4, r8, r9⟩ := ihx
            exact ⟨g4, e4, f1.tr f4, r4, r8, r9.trans b9⟩
end
def sSM2 : Rf → Nat → Bool := fun r k => decide (r = (7, 0, 25) ∨ r = (7, 0, 26) ∨ r = (7, 0, 29)) || (decide (r = (7, 0, 0)) && (Nat.beq k 2 || Nat.beq k 3 || Nat.beq k 4 || Nat.beq k 5 || Nat.beq k 6 || Nat.beq k 7 || Nat.beq k 8 || Nat.beq k 9 || Nat.beq k 12 || Nat.beq k 45 || Nat.beq k 46 || Nat.beq k 47))
theorem sBT_M2 {h h2 : HD} (hF : Fr sBT h h2) : Fr sSM2 h h2 := hF.mono fun r j q => by
  unfold sSM2 at q
  unfold sBT
  have q2 := (Bool.or_eq_false_iff.mp q).2
  revert q2
  cases decide (r = (7, 0, 0)) <;> cases Nat.beq j 2 <;> cases Nat.beq j 3 <;> cases Nat.beq j 4 <;> cases Nat.beq j 5 <;> cases Nat.beq j 6 <;> cases Nat.beq j 7 <;> cases Nat.beq j 8 <;> cases Nat.beq j 9 <;> cases Nat.beq j 12 <;> simp
theorem sSm_M2 {h h2 : HD} (hF : Fr sSm h h2) : Fr sSM2 h h2 := hF.mono fun r j q => by
  unfold sSM2 at q
  unfold sSm
  rw [Bool.or_eq_false_iff] at q ⊢
  refine ⟨q.1, ?_⟩
  have q2 := q.2
  revert q2
  cases decide (r = (7, 0, 0)) <;> cases Nat.beq j 4 <;> cases Nat.beq j 5 <;> cases Nat.beq j 6 <;> cases Nat.beq j 7 <;> cases Nat.beq j 8 <;> cases Nat.beq j 9 <;> cases Nat.beq j 12 <;> cases Nat.beq j 45 <;> cases Nat.beq j 46 <;> cases Nat.beq j 47 <;> simp
theorem m_script {h : HD} {len : Int} {bs : Int → Int} (hB : BfM (7, 0, 1) 2 h len bs) (hb : ∀ z, 0 ≤ z → z < len → 0 ≤ bs z ∧ bs z < 256) (l1 : len ≤ 400) : match scP len bs 401 ([], none) (tok len bs 0) with
    | .inl (c, p) => ∃ g, jX9_runScript h = RE g ∧ Fr sSM2 h g ∧ ErM g c p ∧ (c = 1 ∨ c = 2 ∨ c = 3 ∨ c = 5) ∧ gI g (7, 0, 0) 2 = iZ 0
    | .inr P => ∃ g, jX9_runScript h = RE g ∧ Fr sSM2 h g ∧ MZ g (P, none) ∧ gI g (7, 0, 0) 8 = iZ 0 ∧ gI g (7, 0, 0) 9 = iZ (-1) ∧ gI g (7, 0, 0) 2 = iZ 0 := by
  obtain ⟨g1, e1, f1, M1, n9, n2⟩ := m_begins hB hb l1
  obtain ⟨g2, e2⟩ : ∃ g2, g2 = sI (sI (sI g1 (7, 0, 0) 45 (iZ 0)) (7, 0, 0) 46 (iZ 0)) (7, 0, 0) 47 (iZ 0) := ⟨_, rfl⟩
  have F2 : Fr (fun r j => decide (r = (7, 0, 0)) && (Nat.beq j 45 || Nat.beq j 46 || Nat.beq j 47)) g1 g2 := by rw [e2]; exact ((Fr.rf.sI rfl _).sI rfl _).sI rfl _
  have S2 : Fr sSM2 h g2 := (sBT_M2 f1).tr (by rw [e2]; exact ((Fr.rf.sI rfl _).sI rfl _).sI rfl _)
  have M2 : MT g2 len bs (tok len bs 0) := M1.fr F2 (fun _ => rfl) rfl rfl rfl rfl rfl rfl rfl
  have Z2 : MZ g2 ([], none) := ⟨by rw [e2, gI_nk _ _ _ (by decide), gI_nk _ _ _ (by decide), gI_self]; rfl, by rw [e2, gI_nk _ _ _ (by decide), gI_self]; rfl, by rw [e2, gI_self]; rfl, by decide, trivial⟩
  have T2 : TG len (tok len bs 0) := ((tg0 hB.1).nx (bs := bs)).1
  have rd := m_readL (len := len) (bs := bs) 401 999598 0 g2 ([], none) (tok len bs 0) M2 T2 Z2 (by have := T2.2.1; omega)
  have er : jX9_runScript h = ((jX9_closes_L0 (0 + (dpZ ([], none)).toNat + 1) g2).bind fun q => jX9_runScript_L19 RK (999598 + 401 + 1) q) := by
    rw [runScript_eq, e1, Option.bind_some, lt_eq, lt_eq, lt_eq, i0, ← e2, jX9_closes_L0, Z2.2.2.1, if_pos (show iZ (dpZ ([], none)) ≤ 0 by decide), Option.bind_some, show (999598 + 401 + 1 : Nat) = FU from rfl]
  rw [← er] at rd
  have a2 : gI g2 (7, 0, 0) 2 = iZ 0 := (F2.1 _ _ rfl).trans n2
  have a9 : gI g2 (7, 0, 0) 9 = iZ (-1) := (F2.1 _ _ rfl).trans n9
  cases hs : scP len bs 401 ([], none) (tok len bs 0) with
  | inl x =>
    rw [hs] at rd
    obtain ⟨c, p⟩ := x
    obtain ⟨g, e, f, k, kc⟩ := rd
    exact ⟨g, e, S2.tr (sSm_M2 f), k, kc, (f.1 _ _ rfl).trans a2⟩
  | inr P =>
    rw [hs] at rd
    obtain ⟨g, e, f, k, k8, k9⟩ := rd
    exact ⟨g, e, S2.tr (sSm_M2 f), k, k8, k9.trans a9, (f.1 _ _ rfl).trans a2⟩
