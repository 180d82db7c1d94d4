/-! a script is read: the class -/
theorem dp0 {z : Zp} (h : dpZ z = 0) : z = (z.1, none) := by
  rcases Zp_cases z with ⟨a, rfl⟩ | ⟨a, n, b, rfl⟩ | ⟨a, n, b, m, c, rfl⟩
  · rfl
  · exact absurd (show (1 : Int) = 0 from h) (by decide)
  · exact absurd (show (2 : Int) = 0 from h) (by decide)
section
variable {h : HD} {len : Int} {bs : Int → Int} {t : Tok} {z : Zp}
theorem c_isMark (hC : CT h len bs t) (hT : TG len t) {c : Int} (c0 : 0 ≤ c) (c1 : c ≤ 1000) : jX6_isMark (iZ c) h = decide (t.1 = 3 ∧ t.2.2.2.2 = c) := by
  have h4 := hT.1.2.2.2
  unfold jX6_isMark
  rw [hC.2.2.1.1, i3]
  by_cases q : t.1 = 3
  · have hv := hT.1.2.2.1 q
    rw [if_pos (by rw [q]), hC.2.2.1.2.2.2.2.2 q]
    by_cases r : t.2.2.2.2 = c
    · rw [if_pos (by rw [r]), decide_eq_true ⟨q, r⟩]
    · rw [if_neg (eq_n (by omega) (by omega) (by omega) (by omega) (by omega)), decide_eq_false (fun d => r d.2)]
  · rw [if_neg (eq_n (b := 3) (by omega) (by omega) (by omega) (by omega) (by omega)), decide_eq_false (fun d => q d.1)]
theorem c_close (hZ : CZ h z) (hd : 0 < dpZ z) : ∃ g, jX5_closeRepeat h = some g ∧ Fr (fun r _ => Nat.beq r.1 3) h g ∧ CZ g (clsZ z) := by
  obtain ⟨z1, z2, z3, z4, z5, z6⟩ := hZ
  obtain ⟨nn, d0, d2, dop⟩ := szZ_nn (e := 1) (z := z) (by decide)
  obtain ⟨o0, o1⟩ := dop hd
  obtain ⟨s1', s2'⟩ := clsZ_sz (e := 1) hd
  have op : gI h (3, 0, 5) (dpZ z - 1).toNat = iZ (opZ 1 z) := by
    by_cases q : dpZ z = 2
    · rw [q]; exact z6 q
    · have e1 : dpZ z = 1 := by omega
      have := z5 (by omega)
      rw [e1]
      rcases Zp_cases z with ⟨a, rfl⟩ | ⟨a, n, b, rfl⟩ | ⟨a, n, b, m, c, rfl⟩
      · exact absurd (show (0 : Int) = 1 from e1) (by decide)
      · exact this
      · exact absurd (show (2 : Int) = 1 from e1) (by decide)
  obtain ⟨h1, e1⟩ : ∃ h1, h1 = sI h (3, 0, 0) 5 (iZ (dpZ z - 1)) := ⟨_, rfl⟩
  have F1 : Fr (fun r _ => decide (r = (3, 0, 0))) h h1 := by rw [e1]; exact Fr.rf.sI rfl _
  have c5 : gI h1 (3, 0, 0) 5 = iZ (dpZ z - 1) := by rw [e1, gI_self]
  have c6 : gI h1 (3, 0, 0) 6 = iZ (szZ 1 z) := by rw [e1, gI_nk _ _ _ (by decide)]; exact z1
  have co : gI h1 (3, 0, 5) (dpZ z - 1).toNat = iZ (opZ 1 z) := (F1.1 _ _ rfl).trans op
  have hh : jX5_has (iZ (opZ 1 z)) h1 = true := by
    unfold jX5_has
    rw [c6, i0, if_neg (lt_n (by omega) (by omega) (by omega)), if_neg (le_n (by omega) (by omega) (by omega)), show (30 : Int32) = iZ 30 from rfl, if_neg (le_n (by omega) (by omega) (by omega))]
  have F2 : Fr (fun r _ => decide (r = (3, 0, 0) ∨ r = (3, 0, 4))) h (sI h1 (3, 0, 4) (opZ 1 z).toNat (iZ (szZ 1 z))) := (F1.mono (fun r k q => decide_eq_false (fun e => of_decide_eq_false q (Or.inl e)))).sI rfl _
  refine ⟨sI h1 (3, 0, 4) (opZ 1 z).toNat (iZ (szZ 1 z)), ?_, F2.mono (fun r k q => decide_eq_false (fun e => by rcases e with e | e <;> · rw [e] at q; cases q)), ?_, ?_, by omega, ?_, fun c => ?_, fun c => ?_⟩
  · unfold jX5_closeRepeat
    rw [z2, i0, i2, if_neg (le_n (by omega) (by omega) (by omega)), if_neg (lt_n (by omega) (by omega) (by omega)), i1, iZ_sub, lt_eq, ← e1, c5, inB_t (by omega) (by omega) (by omega), if_pos rfl, iZ_nat (by omega) (by omega), co, hh, if_pos rfl, if_pos rfl, inB_t (by omega) (by omega) (by omega), if_pos rfl, lt_eq, iZ_nat (by omega) (by omega), c6]
  · rw [gI_ne _ (by decide), c6, s1', show szZ 1 z + (1 - 1) = szZ 1 z by omega]
  · rw [gI_ne _ (by decide), c5, s2']
  · refine AtZ_cls (P := CellC h) (by decide) hd (fun j c bh j0 j1 j2 hc => hc.keep (F2.oO _) (F2.2.1 _ _ rfl) (F2.1 _ _ rfl) ?_) (fun c bh hc => ⟨(F2.oO _).trans hc.1, (F2.2.1 _ _ rfl).trans hc.2.1, (F2.1 _ _ rfl).trans hc.2.2.1, ?_, hc.2.2.2.2⟩) (Or.inr (fun _ => trivial)) (fun _ _ _ _ => trivial) trivial z4
    · rw [gI_nk _ _ _ (by omega), e1, gI_ne _ (by decide)]
    · rw [gI_self, show szZ 1 z + (1 - 1) = szZ 1 z by omega]
  · rw [s2'] at c
    have e2 : dpZ z = 2 := by omega
    rw [F2.1 _ _ rfl, z5 (by omega)]
    rcases Zp_cases z with ⟨a, rfl⟩ | ⟨a, n, b, rfl⟩ | ⟨a, n, b, m, d, rfl⟩
    · exact absurd (show (0 : Int) = 2 from e2) (by decide)
    · exact absurd (show (1 : Int) = 2 from e2) (by decide)
    · rfl
  · rw [s2'] at c
    omega
theorem s3_Sc {h h2 : HD} (hF : Fr (fun r _ => Nat.beq r.1 3) h h2) : Fr sSc h h2 := hF.mono fun r k q => by
  unfold sSc at q
  exact (Bool.or_eq_false_iff.mp q).2
theorem c_readL (K : HD → Option (Bool × HD)) : ∀ (n : Nat) (f : Nat) (x : Int) (h : HD) (z : Zp) (t0 : Tok), CT h len bs t0 → TG len t0 → CZ h z → 0 ≤ x → x + n = 401 → x ≤ t0.2.2.1 → (match scP len bs n z (nx len bs t0) with
    | .inl (c, p) => ∃ g, jX5_read_L12 K (f + n) (iZ x) h = some (false, g) ∧ Fo sSc h g ∧ ErC g c p
    | .inr P => ∃ g, jX5_read_L12 K (f + n) (iZ x) h = some (true, g) ∧ Fo sSc h g ∧ CZ g (P, none) ∧ gI g (4, 0, 0) 7 = gI h (4, 0, 0) 7 ∧ gI g (4, 0, 0) 8 = gI h (4, 0, 0) 8) := by
  intro n
  induction n with
  | zero =>
    intro f x h z t0 hC hT hZ x0 hx ht
    exfalso
    have := hC.2.1
    have := hT.2.2.2.1
    omega
  | succ n ih =>
    intro f x h z t0 hC hT hZ x0 hx ht
    obtain ⟨g, e, f1, k, a7, a8⟩ := c_adv hC
    have T1 := hT.nx (bs := bs)
    obtain ⟨u, hu⟩ : ∃ u, nx len bs t0 = u := ⟨_, rfl⟩
    rw [hu] at k T1 ⊢
    obtain ⟨T1, le1⟩ := T1
    have Z1 := hZ.fr f1
    have h4 := T1.1.2.2.2
    obtain ⟨nn, d0, d2, -⟩ := szZ_nn (e := 1) (z := z) (by decide)
    have z5 : gI g (3, 0, 0) 5 = iZ (dpZ z) := Z1.2.1
    have t1 : gI g (4, 0, 0) 1 = iZ u.1 := k.2.2.1.1
    -- a command
    have cmd : (match (match cmP len bs z u with | .inl e => .inl e | .inr (z2, t2) => scP len bs n z2 t2 : Rd B2) with
        | .inl (c, p) => ∃ g2, ((jX5_readCommand g).bind fun q8 => (if q8.1 = true then jX5_read_L12 K (f + n) (iZ x + 1) q8.2 else some (false, q8.2))) = some (false, g2) ∧ Fo sSc h g2 ∧ ErC g2 c p
        | .inr P => ∃ g2, ((jX5_readCommand g).bind fun q8 => (if q8.1 = true then jX5_read_L12 K (f + n) (iZ x + 1) q8.2 else some (false, q8.2))) = some (true, g2) ∧ Fo sSc h g2 ∧ CZ g2 (P, none) ∧ gI g2 (4, 0, 0) 7 = gI h (4, 0, 0) 7 ∧ gI g2 (4, 0, 0) 8 = gI h (4, 0, 0) 8) := by
      have cc := c_cmd k T1 Z1
      cases hc : cmP len bs z u with
      | inl er =>
        rw [hc] at cc
        obtain ⟨c, p⟩ := er
        obtain ⟨g2, e2, f2, r2⟩ := cc
        exact ⟨g2, by rw [e2]; rfl, (Fo.of (sTE_Sc f1)).tr f2, r2⟩
      | inr zt =>
        rw [hc] at cc
        obtain ⟨z2, t2⟩ := zt
        obtain ⟨g2, t1', e2, f2, k2, T2, nt, le2, Z2, b7, b8⟩ := cc
        have := ih f (x + 1) g2 z2 t1' k2 T2 Z2 (by omega) (by omega) (by omega)
        rw [nt] at this
        have es : ((jX5_readCommand g).bind fun q8 => (if q8.1 = true then jX5_read_L12 K (f + n) (iZ x + 1) q8.2 else some (false, q8.2))) = jX5_read_L12 K (f + n) (iZ (x + 1)) g2 := by
          rw [e2, Option.bind_some, i1, iZ_add]
          exact if_pos rfl
        rw [es]
        show match scP len bs n z2 t2 with | .inl (c, p) => _ | .inr P => _
        cases hs : scP len bs n z2 t2 with
        | inl er =>
          rw [hs] at this
          obtain ⟨c, p⟩ := er
          obtain ⟨g3, e3, f3, r3⟩ := this
          exact ⟨g3, e3, ((Fo.of (sTE_Sc f1)).tr f2).tr f3, r3⟩
        | inr P =>
          rw [hs] at this
          obtain ⟨g3, e3, f3, Z3, c7, c8⟩ := this
          exact ⟨g3, e3, ((Fo.of (sTE_Sc f1)).tr f2).tr f3, Z3, c7.trans (b7.trans a7), c8.trans (b8.trans a8)⟩
    rw [show f + (n + 1) = f + n + 1 by omega, jX5_read_L12, show (400 : Int32) = iZ 400 from rfl, if_neg (lt_n (by omega) (by omega) (by omega)), e, Option.bind_some]
    unfold jX6_isEnd
    rw [z5, t1]
    unfold scP
    by_cases q0 : dpZ z = 0
    · rw [if_pos (show iZ (dpZ z) = 0 by rw [q0]; rfl)]
      by_cases qe : u.1 = 0
      · rw [if_pos ⟨q0, qe⟩, if_pos (show iZ u.1 = 0 by rw [qe]; rfl), if_pos rfl]
        exact ⟨g, rfl, Fo.of (sTE_Sc f1), by rw [← dp0 q0]; exact Z1, a7, a8⟩
      · rw [if_neg (fun c => qe c.2), if_neg (show ¬ iZ u.1 = 0 from eq_n (b := 0) (by omega) (by omega) (by omega) (by omega) (by omega)), if_neg Bool.false_ne_true, if_neg (fun c => by omega), if_pos (show iZ (dpZ z) ≤ 0 by rw [q0]; decide)]
        exact cmd
    · rw [if_neg (show ¬ iZ (dpZ z) = 0 from eq_n (b := 0) (by omega) (by omega) (by omega) (by omega) (by omega)), if_neg (fun c => q0 c.1), if_neg (show ¬ iZ (dpZ z) ≤ 0 from le_n (b := 0) (by omega) (by omega) (by omega)), show (41 : Int32) = iZ 41 from rfl, c_isMark k T1 (by decide) (by decide)]
      by_cases qm : isMk u 41
      · rw [decide_eq_true (show u.1 = 3 ∧ u.2.2.2.2 = 41 from qm), if_pos rfl, if_pos ⟨by omega, qm⟩]
        obtain ⟨g2, e2, f2, Z2⟩ := c_close Z1 (by omega)
        have k2 : CT g2 len bs u := k.fr f2 rfl (fun _ => rfl) (fun _ _ => rfl)
        have mk := c_mark k2 (c := 59) (by decide) (by decide)
        have F2 : Fo sSc h g2 := (Fo.of (sTE_Sc f1)).tr (Fo.of (s3_Sc f2))
        rw [e2, Option.bind_some]
        unfold mkP
        by_cases q4 : isMk (nx len bs u) 59
        · rw [if_pos q4]
          obtain ⟨g3, e3, f3, k3, b7, b8⟩ := mk.1 q4
          have T2 := T1.nx (bs := bs)
          have := T1.2.2.2.2 (by have := qm.1; omega)
          have := T2.1.2.2.1
          have ihx := ih f (x + 1) g3 (clsZ z) (nx len bs u) k3 T2.1 (Z2.fr f3) (by omega) (by omega) (by omega)
          have es : ((jX6_readMark (59 : Int32) g2).bind fun q7 => (if q7.1 = true then jX5_read_L12 K (f + n) (iZ x + 1) q7.2 else some (false, q7.2))) = jX5_read_L12 K (f + n) (iZ (x + 1)) g3 := by
            rw [show (59 : Int32) = iZ 59 from rfl, e3, Option.bind_some, i1, iZ_add]
            exact if_pos rfl
          rw [es]
          have y7 : gI g3 (4, 0, 0) 7 = gI h (4, 0, 0) 7 := b7.trans ((f2.1 _ _ rfl).trans a7)
          have y8 : gI g3 (4, 0, 0) 8 = gI h (4, 0, 0) 8 := b8.trans ((f2.1 _ _ rfl).trans a8)
          show match scP len bs n (clsZ z) (nx len bs (nx len bs u)) with | .inl (c, p) => _ | .inr P => _
          cases hs : scP len bs n (clsZ z) (nx len bs (nx len bs u)) with
          | inl er =>
            rw [hs] at ihx
            obtain ⟨c, p⟩ := er
            obtain ⟨g4, e4, f4, r4⟩ := ihx
            exact ⟨g4, e4, (F2.tr (Fo.of (sTE_Sc f3))).tr f4, r4⟩
          | inr P =>
            rw [hs] at ihx
            obtain ⟨g4, e4, f4, Z4, c7, c8⟩ := ihx
            exact ⟨g4, e4, (F2.tr (Fo.of (sTE_Sc f3))).tr f4, Z4, c7.trans y7, c8.trans y8⟩
        · rw [if_neg q4]
          obtain ⟨g3, e3, f3, r3⟩ := mk.2 q4
          refine ⟨g3, ?_, F2.tr (Fo.of (sTE_Sc f3)), r3⟩
          rw [show (59 : Int32) = iZ 59 from rfl, e3, Option.bind_some]
          exact if_neg Bool.false_ne_true
      · rw [decide_eq_false (show ¬ (u.1 = 3 ∧ u.2.2.2.2 = 41) from qm), if_neg Bool.false_ne_true, if_neg (fun c => qm c.2)]
        exact cmd
end
def sRS : Rf → Nat → Bool := fun r k => Nat.beq r.1 4 || Nat.beq r.1 3 || (Nat.beq r.1 6 && Nat.beq r.2.2 0 && (Nat.beq k 17 || Nat.beq k 18)) || (Nat.beq r.1 0 && Nat.beq r.2.1 0 && Nat.beq r.2.2 0 && Nat.beq k 1)
theorem sSc_RS {h h2 : HD} (hF : Fo sSc h h2) : Fo sRS h h2 := hF.mono fun r k q => by
  unfold sRS at q
  unfold sSc
  revert q
  cases Nat.beq r.1 4 <;> cases Nat.beq r.1 3 <;> simp
theorem sEN_RS {h h2 : HD} (hF : Fr sEN h h2) : Fr sRS h h2 := hF.mono fun r k q => by
  unfold sRS at q
  unfold sEN
  revert q
  cases Nat.beq r.1 6 <;> cases Nat.beq r.2.2 0 <;> cases Nat.beq k 17 <;> cases Nat.beq k 18 <;> cases Nat.beq r.1 0 <;> cases Nat.beq r.2.1 0 <;> cases Nat.beq k 1 <;> simp
theorem tg0 {len : Int} (l0 : 0 ≤ len) : TG len (tok0 0) := ⟨⟨fun c => absurd (show (0 : Int) = 1 from c) (by decide), fun c => absurd (show (0 : Int) = 2 from c) (by decide), fun c => absurd (show (0 : Int) = 3 from c) (by decide), by show (0 : Int) ≤ 0 ∧ (0 : Int) ≤ 4; decide⟩, Int.le_refl 0, Int.le_refl 0, l0, fun c => absurd rfl c⟩
theorem c_script {h : HD} {len : Int} {bs : Int → Int} (hB : BfC 0 h len bs) (l1 : len ≤ 400) : match scP len bs 401 ([], none) (tok len bs 0) with
    | .inl (c, p) => ∃ q1 g g2, jX6_begin h = some q1 ∧ jX5_read q1 = some (false, g) ∧ jX8_endReading g = some g2 ∧ Fo sRS h g2 ∧ gI g2 (0, 0, 0) 1 = iZ 0 ∧ gI g2 (6, 0, 0) 17 = iZ c ∧ gI g2 (6, 0, 0) 18 = iZ p
    | .inr P => ∃ q1 g g2, jX6_begin h = some q1 ∧ jX5_read q1 = some (true, g) ∧ jX8_endReading g = some g2 ∧ Fo sRS h g2 ∧ gI g2 (0, 0, 0) 1 = iZ 0 ∧ gI g2 (6, 0, 0) 17 = iZ 0 ∧ gI g2 (6, 0, 0) 18 = iZ (-1) ∧ CZ g2 (P, none) := by
  have l0 := hB.1
  obtain ⟨h1, e1⟩ : ∃ h1, h1 = sI (sI (sI (sI (sI h (4, 0, 0) 1 (iZ 0)) (4, 0, 0) 2 (iZ 0)) (4, 0, 0) 3 (iZ 0)) (4, 0, 0) 7 (iZ 0)) (4, 0, 0) 8 (iZ (-1)) := ⟨_, rfl⟩
  have f1 : Fr sTE h h1 := by rw [e1]; exact ((((Fr.rf.sI rfl _).sI rfl _).sI rfl _).sI rfl _).sI rfl _
  have eb : jX6_begin h = some h1 := by
    unfold jX6_begin
    rw [lt_eq, lt_eq, lt_eq, lt_eq, lt_eq, im1, i0, ← e1]
  have T1 : TkC h1 (tok0 0) := by
    rw [e1]
    refine ⟨?_, ?_, ?_, fun c => absurd (show (0 : Int) = 1 from c) (by decide), fun c => absurd (show (0 : Int) = 2 from c) (by decide), fun c => absurd (show (0 : Int) = 3 from c) (by decide)⟩
    · rw [gI_nk _ _ _ (by decide), gI_nk _ _ _ (by decide), gI_nk _ _ _ (by decide), gI_nk _ _ _ (by decide), gI_self]; rfl
    · rw [gI_nk _ _ _ (by decide), gI_nk _ _ _ (by decide), gI_nk _ _ _ (by decide), gI_self]; rfl
    · rw [gI_nk _ _ _ (by decide), gI_nk _ _ _ (by decide), gI_self]; rfl
  have E7 : gI h1 (4, 0, 0) 7 = iZ 0 := by rw [e1, gI_nk _ _ _ (by decide), gI_self]
  have E8 : gI h1 (4, 0, 0) 8 = iZ (-1) := by rw [e1, gI_self]
  have B1 := hB.fr f1 rfl (fun _ => rfl)
  have C1 : CT h1 len bs (tok0 0) := ⟨B1, l1, T1, Int.le_refl 0, l0⟩
  obtain ⟨h2, e2⟩ : ∃ h2, h2 = sI (sI h1 (3, 0, 0) 6 (iZ 0)) (3, 0, 0) 5 (iZ 0) := ⟨_, rfl⟩
  have f2 : Fr (fun r _ => Nat.beq r.1 3) h1 h2 := by rw [e2]; exact (Fr.rf.sI rfl _).sI rfl _
  have C2 : CT h2 len bs (tok0 0) := C1.fr f2 rfl (fun _ => rfl) (fun _ _ => rfl)
  have Z2 : CZ h2 ([], none) := ⟨by rw [e2, gI_nk _ _ _ (by decide), gI_self]; rfl, by rw [e2, gI_self]; rfl, by decide, trivial, fun c => absurd c (by decide), fun c => absurd c (by decide)⟩
  obtain ⟨K, hK⟩ : ∃ K : HD → Option (Bool × HD), K = fun h12 => (jX6_fail (1 : Int32) h12).bind fun q13 => some (q13.1, q13.2) := ⟨_, rfl⟩
  have er : jX5_read h1 = jX5_read_L12 K (999599 + 401) (iZ 0) h2 := by
    unfold jX5_read
    rw [lt_eq, lt_eq, i0, ← e2, ← hK]
    rfl
  have rd := c_readL (len := len) (bs := bs) K 401 999599 0 h2 ([], none) (tok0 0) C2 (tg0 l0) Z2 (Int.le_refl 0) (by decide) (Int.le_refl 0)
  rw [← er] at rd
  replace rd : match scP len bs 401 ([], none) (tok len bs 0) with
    | .inl (c, p) => ∃ g, jX5_read h1 = some (false, g) ∧ Fo sSc h2 g ∧ ErC g c p
    | .inr P => ∃ g, jX5_read h1 = some (true, g) ∧ Fo sSc h2 g ∧ CZ g (P, none) ∧ gI g (4, 0, 0) 7 = gI h2 (4, 0, 0) 7 ∧ gI g (4, 0, 0) 8 = gI h2 (4, 0, 0) 8 := rd
  have F2 : Fo sSc h h2 := Fo.of ((sTE_Sc f1).tr (s3_Sc f2))
  cases hs : scP len bs 401 ([], none) (tok len bs 0) with
  | inl x =>
    rw [hs] at rd
    obtain ⟨c, p⟩ := x
    obtain ⟨g, e3, f3, r3⟩ := rd
    have lg : gI g (0, 0, 0) 1 = iZ len := ((F2.tr f3).1 _ _ rfl).trans hB.2.1
    obtain ⟨g2, e4, f4, w1, w2, w3⟩ := x8_endR l0 l1 lg r3
    exact ⟨h1, g, g2, eb, e3, e4, (sSc_RS (F2.tr f3)).tr (Fo.of (sEN_RS f4)), w1, w2, w3⟩
  | inr P =>
    rw [hs] at rd
    obtain ⟨g, e3, f3, Z3, b7, b8⟩ := rd
    have lg : gI g (0, 0, 0) 1 = iZ len := ((F2.tr f3).1 _ _ rfl).trans hB.2.1
    have r3 : ErC g 0 (-1) := ⟨b7.trans ((f2.1 _ _ rfl).trans E7), b8.trans ((f2.1 _ _ rfl).trans E8)⟩
    obtain ⟨g2, e4, f4, w1, w2, w3⟩ := x8_endR l0 l1 lg r3
    refine ⟨h1, g, g2, eb, e3, e4, (sSc_RS (F2.tr f3)).tr (Fo.of (sEN_RS f4)), w1, w2, w3, ?_⟩
    obtain ⟨y1, y2, y3, y4, y5, y6⟩ := Z3
    exact ⟨(f4.1 _ _ rfl).trans y1, (f4.1 _ _ rfl).trans y2, y3, AtZ_mono (by decide) (fun j c bh j0 j1 hc => hc.keep (f4.oO _) (f4.2.1 _ _ rfl) (f4.1 _ _ rfl) (f4.1 _ _ rfl)) (Or.inr (fun _ => trivial)) (fun _ _ _ _ => trivial) y4, fun c => absurd (show (1 : Int) ≤ 0 from c) (by decide), fun c => absurd (show (0 : Int) = 2 from c) (by decide)⟩
