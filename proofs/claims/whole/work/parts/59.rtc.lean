/-! readText: the class's side -/
def sRE : Rf → Nat → Bool := fun r k => Nat.beq r.1 4 || (Nat.beq r.1 1 && (Nat.beq r.2.1 1 || Nat.beq r.2.1 0)) || (Nat.beq r.1 6 && Nat.beq r.2.2 0 && (Nat.beq k 13 || Nat.beq k 17 || Nat.beq k 18)) || (Nat.beq r.1 0 && Nat.beq r.2.1 0 && Nat.beq r.2.2 0 && Nat.beq k 1)
theorem sRC_RE {h h2 : HD} (hF : Fr sRC h h2) : Fr sRE h h2 := hF.mono fun r k q => by
  unfold sRE at q
  unfold sRC
  revert q
  cases Nat.beq r.1 4 <;> cases Nat.beq r.1 1 <;> cases Nat.beq r.2.1 1 <;> simp
theorem s10_RE {h h2 : HD} (hF : Fr (s1 0) h h2) : Fr sRE h h2 := hF.mono fun r k q => by
  unfold sRE at q
  unfold s1
  revert q
  cases Nat.beq r.1 4 <;> cases Nat.beq r.1 1 <;> cases Nat.beq r.2.1 0 <;> simp
def sEN : Rf → Nat → Bool := fun r k => (Nat.beq r.1 6 && Nat.beq r.2.2 0 && (Nat.beq k 17 || Nat.beq k 18)) || (Nat.beq r.1 0 && Nat.beq r.2.1 0 && Nat.beq r.2.2 0 && Nat.beq k 1)
theorem sEN_RE {h h2 : HD} (hF : Fr sEN h h2) : Fr sRE h h2 := hF.mono fun r k q => by
  unfold sRE at q
  unfold sEN
  revert q
  cases Nat.beq r.1 6 <;> cases Nat.beq r.2.2 0 <;> cases Nat.beq k 17 <;> cases Nat.beq k 18 <;> cases Nat.beq r.1 0 <;> cases Nat.beq r.2.1 0 <;> cases Nat.beq k 1 <;> simp
theorem x1_short0 {h : HD} {len : Int} (l0 : 0 ≤ len) (l1 : len ≤ 400) (hl : gI h (0, 0, 0) 1 = iZ len) : ∃ g, jX1_shorten 0 0 h = some g ∧ Fr sEN h g ∧ gI g (0, 0, 0) 1 = iZ 0 ∧ (∀ r k, ¬ (r = ((0, 0, 0) : Rf)) → gI g r k = gI h r k) ∧ ∀ r k, gJ g r k = gJ h r k := by
  by_cases q : len = 0
  · refine ⟨h, ?_, Fr.rf, by rw [hl, q], fun _ _ _ => rfl, fun _ _ => rfl⟩
    unfold jX1_shorten
    rw [if_neg (by decide), hl, i0, if_pos (le_y (by omega) (by omega) (by omega))]
  · refine ⟨sI h (0, 0, 0) 1 (iZ 0), ?_, Fr.rf.sI rfl _, gI_self _ _ _ _, fun r k e => gI_ne _ e _ _ _, fun _ _ => rfl⟩
    unfold jX1_shorten
    rw [if_neg (by decide), hl, i0, if_neg (le_n (by omega) (by omega) (by omega))]
    rfl
theorem x8_endR {h : HD} {len c p : Int} (l0 : 0 ≤ len) (l1 : len ≤ 400) (hl : gI h (0, 0, 0) 1 = iZ len) (hE : ErC h c p) : ∃ g, jX8_endReading h = some g ∧ Fr sEN h g ∧ gI g (0, 0, 0) 1 = iZ 0 ∧ gI g (6, 0, 0) 17 = iZ c ∧ gI g (6, 0, 0) 18 = iZ p := by
  obtain ⟨h1, e1⟩ : ∃ h1, h1 = sI (sI h (6, 0, 0) 17 (iZ c)) (6, 0, 0) 18 (iZ p) := ⟨_, rfl⟩
  have f1 : Fr sEN h h1 := by rw [e1]; exact (Fr.rf.sI rfl _).sI rfl _
  have l2 : gI h1 (0, 0, 0) 1 = iZ len := by rw [e1, gI_ne _ (by decide), gI_ne _ (by decide)]; exact hl
  obtain ⟨g, e, f, z, o1, o2⟩ := x1_short0 l0 l1 l2
  refine ⟨g, ?_, f1.tr f, z, ?_, ?_⟩
  · unfold jX8_endReading jX6_wrongCode jX6_wrongPosition
    rw [hE.1, lt_eq, gI_ne _ (by decide), hE.2, lt_eq, ← e1, e]
    rfl
  · rw [o1 _ _ (by decide), e1, gI_nk _ _ _ (by decide), gI_self]
  · rw [o1 _ _ (by decide), e1, gI_self]
theorem c_readText {h : HD} {len : Int} {bs : Int → Int} (hB : BfC 0 h len bs) (l1 : len ≤ 400) : match sysP len bs with
    | .inl (c, p) => ∃ g, jX8_readText h = some (.inl 1, g) ∧ Fr sRE h g ∧ gI g (0, 0, 0) 1 = iZ 0 ∧ gI g (6, 0, 0) 17 = iZ c ∧ gI g (6, 0, 0) 18 = iZ p ∧ (∀ j k, gI g (1, 0, j) k = gI h (1, 0, j) k) ∧ (∀ j k, gJ g (1, 0, j) k = gJ h (1, 0, j) k) ∧ gI g (6, 0, 0) 13 = gI h (6, 0, 0) 13
    | .inr R => ∃ g, jX8_readText h = some (.inr (iZ R.1), g) ∧ Fr sRE h g ∧ gI g (0, 0, 0) 1 = iZ 0 ∧ gI g (6, 0, 0) 17 = iZ 0 ∧ gI g (6, 0, 0) 18 = iZ (-1) ∧ RwC g 0 R ∧ RwOk R ∧ gI g (6, 0, 0) 13 = iZ 0 := by
  have l0 := hB.1
  obtain ⟨h1, e1⟩ : ∃ h1, h1 = sI (sI (sI (sI (sI h (4, 0, 0) 1 (iZ 0)) (4, 0, 0) 2 (iZ 0)) (4, 0, 0) 3 (iZ 0)) (4, 0, 0) 7 (iZ 0)) (4, 0, 0) 8 (iZ (-1)) := ⟨_, rfl⟩
  have f1 : Fr sTE h h1 := by rw [e1]; exact ((((Fr.rf.sI rfl _).sI rfl _).sI rfl _).sI rfl _).sI rfl _
  have eb : jX6_begin h = some h1 := by
    unfold jX6_begin
    rw [lt_eq, lt_eq, lt_eq, lt_eq, lt_eq, im1, i0, ← e1]
  have T1 : TkC h1 (tok0 0) := by
    rw [e1]
    refine ⟨?_, ?_, ?_, fun c => absurd (show (0 : Int) = 1 from c) (by decide), fun c => absurd (show (0 : Int) = 2 from c) (by decide), fun c => absurd (show (0 : Int) = 3 from c) (by decide)⟩
    · rw [gI_nk _ _ _ (by decide), gI_nk _ _ _ (by decide), gI_nk _ _ _ (by decide), gI_nk _ _ _ (by decide), gI_self]; rfl
    · rw [gI_nk _ _ _ (by decide), gI_nk _ _ _ (by decide), gI_nk _ _ _ (by decide), gI_self]; rfl
    · rw [gI_nk _ _ _ (by decide), gI_nk _ _ _ (by decide), gI_self]; rfl
  have E7 : gI h1 (4, 0, 0) 7 = iZ 0 := by rw [e1, gI_nk _ _ _ (by decide), gI_self]
  have E8 : gI h1 (4, 0, 0) 8 = iZ (-1) := by rw [e1, gI_self]
  have B1 := hB.fr f1 rfl (fun _ => rfl)
  have cs := c_system B1 l1 T1
  have F1 : Fr sRE h h1 := sRC_RE (sTE_RC f1)
  cases hs : sysP len bs with
  | inl er =>
    rw [hs] at cs
    obtain ⟨c, p⟩ := er
    obtain ⟨g, e2, f2, r2⟩ := cs
    have lg : gI g (0, 0, 0) 1 = iZ len := (f2.1 _ _ rfl).trans B1.2.1
    obtain ⟨g2, e3, f3, z1, z2, z3⟩ := x8_endR l0 l1 lg r2
    obtain ⟨g0, hg0⟩ : ∃ g0, g0 = sI (sI g (6, 0, 0) 17 (iZ c)) (6, 0, 0) 18 (iZ p) := ⟨_, rfl⟩
    have l2 : gI g0 (0, 0, 0) 1 = iZ len := by rw [hg0, gI_ne _ (by decide), gI_ne _ (by decide)]; exact lg
    obtain ⟨g3, e4, -, -, o1, o2⟩ := x1_short0 l0 l1 l2
    have eg : g3 = g2 := by
      have : jX8_endReading g = some g3 := by
        unfold jX8_endReading jX6_wrongCode jX6_wrongPosition
        rw [r2.1, lt_eq, gI_ne _ (by decide), r2.2, lt_eq, ← hg0, e4]
        rfl
      exact Option.some.inj (this.symm.trans e3)
    subst eg
    have oi : ∀ r k, r ≠ ((0, 0, 0) : Rf) → r ≠ ((6, 0, 0) : Rf) → gI g3 r k = gI g r k := fun r k n1 n2 => by
      rw [o1 r k n1, hg0, gI_ne _ n2, gI_ne _ n2]
    refine ⟨g3, ?_, (F1.tr (sRC_RE f2)).tr (sEN_RE f3), z1, z2, z3, fun j k => ?_, fun j k => ?_, ?_⟩
    · unfold jX8_readText
      rw [eb, Option.bind_some, e2, Option.bind_some]
      show (jX8_endReading g).bind _ = _
      rw [e3]
      rfl
    · rw [oi _ _ (by intro e; cases e) (by intro e; cases e), f2.1 _ _ rfl, f1.1 _ _ rfl]
    · rw [o2, hg0]
      show gJ g _ _ = _
      rw [f2.2.1 _ _ rfl, f1.2.1 _ _ rfl]
    · rw [o1 _ _ (by decide), hg0, gI_nk _ _ _ (by decide), gI_nk _ _ _ (by decide), f2.1 _ _ rfl, f1.1 _ _ rfl]
  | inr R =>
    rw [hs] at cs
    obtain ⟨g, e2, f2, rc, rw_, x7, x8⟩ := cs
    have lg : gI g (0, 0, 0) 1 = iZ len := (f2.1 _ _ rfl).trans B1.2.1
    obtain ⟨g2, e3, f3, z1, z2, z3⟩ := x8_endR (c := 0) (p := -1) l0 l1 lg ⟨x7.trans E7, x8.trans E8⟩
    have okR : RwOk R := ⟨sysP_ok hs, rw_.2⟩
    obtain ⟨g3, e4, f4, c4⟩ := x2_copy (o := 0) (r := 1) (by decide) (rc.fr f3 (fun _ _ => rfl)) okR.1.2.1
    have cc : RwC (sI g3 (6, 0, 0) 13 (iZ 0)) 0 R := c4.fr (S := fun (q : Rf) (_ : Nat) => decide (q = (6, 0, 0))) (Fr.rf.sI rfl _) (fun j k => decide_eq_false (fun e => by cases e))
    refine ⟨sI g3 (6, 0, 0) 13 (iZ 0), ?_, ((((F1.tr (sRC_RE f2)).tr (sEN_RE f3)).tr (s10_RE f4)).sI rfl _), ?_, ?_, ?_, cc, okR, gI_self _ _ _ _⟩
    · unfold jX8_readText
      rw [eb, Option.bind_some, e2, Option.bind_some]
      show (jX8_endReading g).bind _ = _
      rw [e3, Option.bind_some, if_pos rfl, e4, Option.bind_some, i0, lt_eq]
      unfold jX2_count
      rw [cc.1.1]
    · rw [gI_ne _ (by decide), f4.1 _ _ rfl]; exact z1
    · rw [gI_nk _ _ _ (by decide), f4.1 _ _ rfl]; exact z2
    · rw [gI_nk _ _ _ (by decide), f4.1 _ _ rfl]; exact z3
