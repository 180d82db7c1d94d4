/-! bodies and the whole script: the reference -/
section
variable {ρ : Type} {ex : ρ → St3 → Bool × St3} {sz N : ρ → Int} {at' : HD → Int → ρ → Prop} {sc j : Int}
/-- a repeat: its first turn, then its laps -/
theorem m_rep (hsc : 0 ≤ sc ∧ sc ≤ 60) (hj : 0 ≤ j ∧ j < 2) (hsz : ∀ b, 0 ≤ sz b) (hN : ∀ b, 0 ≤ N b) (h40 : ∀ b x, x.2 = 40 → (ex b x).2 = x) (hm : ∀ h g, Fr sX9 h g → ∀ k x, at' h k x → at' g k x) (hrun : ∀ (b : ρ) (i : Int) (h : HD) (x : St3), at' h i b → 0 ≤ i → i + sz b ≤ sc → gI h (7, 0, 0) 45 = iZ sc → PoM h h x (j + 1) → RnM h x (j + 1) i (j + 1) (i + sz b) (N b) (ex b x) (j + 1)) (b : ρ) (n i bh : Int) (h : HD) (x : St3) (hc : CellM h i (8, [], n) bh) (n1 : 1 ≤ n) (n2 : n ≤ 20) (hb : at' h (i + 1) b) (hl : LapM h (i + 1 + sz b)) (hi : 0 ≤ i) (hi2 : i + 2 + sz b ≤ sc) (h45 : gI h (7, 0, 0) 45 = iZ sc) (hx : x.2 < 40) (hP : PoM h h x j) : RnM h x j i j (i + 2 + sz b) (22 + 20 * N b) (repN (ex b) n.toNat x) j := by
  have hs := hsz b
  have hNb := hN b
  obtain ⟨m, hmn⟩ : ∃ m : Nat, n = (m : Int) + 1 := ⟨(n - 1).toNat, by omega⟩
  have ek : (iZ i).toNatClampNeg = i.toNat := iZ_nat (by omega) (by omega)
  have ej : (iZ j).toNatClampNeg = j.toNat := iZ_nat (by omega) (by omega)
  have ib : inB (iZ i) 60 = true := inB_t (by omega) (by omega) (by omega)
  have jb : inB (iZ j) 2 = true := inB_t (by omega) (by omega) (by omega)
  have c25 : gI h (7, 0, 25) i.toNat = iZ 8 := hc.1
  have c26 : gI h (7, 0, 26) i.toNat = iZ n := hc.2.2.1 rfl
  have F : Fr sX9 h (sI (sI h (7, 0, 27) j.toNat (iZ i)) (7, 0, 28) j.toNat (iZ n)) := (Fr.rf.sI rfl _).sI rfl _
  have p : PoM h (sI (sI h (7, 0, 27) j.toNat (iZ i)) (7, 0, 28) j.toNat (iZ n)) x j := ⟨F, hP.2.1.fr (S := fun r _ => decide (r = (7, 0, 27) ∨ r = (7, 0, 28))) ((Fr.rf.sI rfl _).sI rfl _) (fun _ => rfl) (fun _ => rfl) (fun _ => rfl) rfl, hP.2.2.1, hP.2.2.2.1, hP.2.2.2.2.1, fun k hk => ⟨(gI_ne _ (by decide) _ _ _).trans (gI_nk _ _ _ (by omega) _), (gI_nk _ _ _ (by omega) _).trans (gI_ne _ (by decide) _ _ _)⟩⟩
  have hb1 : ((m : Int) + 1) * (N b + 1) ≤ 20 * (N b + 1) := Int.mul_le_mul_of_nonneg_right (by omega) (by omega)
  refine RnM.wk (RnM.cons (j1 := j + 1) (k1 := i + 1) (N := ((m : Int) + 1) * (N b + 1)) p (fun ans => ⟨ans, fun f => ?_⟩) ?_) (by omega)
  · rw [jX9_doesAll_L12, if_neg (show ¬ iZ 1 = 0 by decide), h45, if_neg (le_n (by omega) (by omega) (by omega)), show (40 : Int32) = iZ 40 from rfl, if_neg (le_n (by omega) (by have := hP.2.2.2.1; omega) (by omega)), ib, if_pos rfl, ek, c25, if_pos (show iZ 8 = 8 from rfl), jb, if_pos rfl, lt_eq, if_pos rfl, if_pos rfl, lt_eq, ej, gI_ne _ (by decide), c26, i1, iZ_add, iZ_add]
  · have := m_laps hsc hj hsz hN h40 hm hrun b i hi hi2 m _ x (by omega) (hm _ _ F _ _ hb) (hl.x9 F) ((F.1 _ _ rfl).trans h45) ((gI_ne _ (by decide) _ _ _).trans (gI_self _ _ _ _)) (by rw [gI_self, hmn]) hx p.me
    rw [show n.toNat = m + 1 by omega]
    exact this
theorem m_body (hsc : 0 ≤ sc ∧ sc ≤ 60) (hj : 0 ≤ j ∧ j ≤ 2) (hsz : ∀ b, 0 ≤ sz b) (hN : ∀ b, 0 ≤ N b) (h40 : ∀ b x, x.2 = 40 → (ex b x).2 = x) (hm : ∀ h g, Fr sX9 h g → ∀ k x, at' h k x → at' g k x) (hrep : ∀ (b : ρ) (n i bh : Int) (h : HD) (x : St3), CellM h i (8, [], n) bh → 1 ≤ n → n ≤ 20 → at' h (i + 1) b → LapM h (i + 1 + sz b) → 0 ≤ i → i + 2 + sz b ≤ sc → gI h (7, 0, 0) 45 = iZ sc → x.2 < 40 → PoM h h x j → RnM h x j i j (i + 2 + sz b) (22 + 20 * N b) (repN (ex b) n.toNat x) j) : ∀ (b : Bd ρ) (i : Int) (h : HD) (x : St3), AtL (CellM h) (LapM h) 2 sz (at' h) i b → 0 ≤ i → i + szB 2 sz b ≤ sc → gI h (7, 0, 0) 45 = iZ sc → PoM h h x j → RnM h x j i j (i + szB 2 sz b) (NtB N b) (exL ex b x) j := by
  have am : ∀ (h g : HD) (b : Bd ρ) (i : Int), Fr sX9 h g → AtL (CellM h) (LapM h) 2 sz (at' h) i b → AtL (CellM g) (LapM g) 2 sz (at' g) i b := fun h g b i hF hA => AtL_mono (by decide) hsz b i (fun j c bh _ _ hc => hc.x9 hF) (Or.inl (by decide)) (fun j _ _ hl => hl.x9 hF) (fun j x _ _ => hm h g hF j x) hA
  intro b
  induction b with
  | nil =>
    intro i h x hA hi hi2 h45 hP
    show RnM h x j i j (i + 0) 0 (true, x) j
    rw [Int.add_zero]
    replace hi2 : i + 0 ≤ sc := hi2
    by_cases h4 : x.2 = 40
    · exact m_forty h45 hsc.1 hsc.2 hi (by omega) h4 rfl hP (Int.le_refl 0)
    · intro ans
      have := hP.2.2.2.2.1
      exact ⟨0, h, hP, fun _ => ⟨Int.le_refl 0, ans, fun f => rfl⟩, fun c => absurd (⟨rfl, by show x.2 < 40; omega⟩ : true = true ∧ x.2 < 40) c⟩
  | cons w r ih =>
    intro i h x hA hi hi2 h45 hP
    have hr := szB_nn (e := 2) (by decide) hsz r
    have hNr := NtB_nn hN r
    by_cases h4 : x.2 = 40
    · exact m_forty h45 hsc.1 hsc.2 hi (by have := szB_nn (e := 2) (by decide) hsz (w :: r); omega) h4 (exL_40 h40 (w :: r) x h4) hP (NtB_nn hN (w :: r))
    have hle := hP.2.2.2.2.1
    have d0 := hP.2.2.2.1
    rcases w with c | ⟨n, q⟩
    · replace hi2 : i + (1 + szB 2 sz r) ≤ sc := hi2
      obtain ⟨⟨hc, h8⟩, hA2⟩ : (CellM h i c (i + 1) ∧ c.1 < 8) ∧ AtL (CellM h) (LapM h) 2 sz (at' h) (i + 1) r := hA
      have ek : (iZ i).toNatClampNeg = i.toNat := iZ_nat (by omega) (by omega)
      have ib : inB (iZ i) 60 = true := inB_t (by omega) (by omega) (by omega)
      have ok2 := doC_ok (c := c) (s := x.1) hc.2.2.2 hP.2.2.1
      show RnM h x j i j (i + (1 + szB 2 sz r)) (1 + NtB N r) (if 40 ≤ x.2 then (false, x) else if (doC c x.1).1 = true then exL ex r ((doC c x.1).2, x.2 + 1) else (false, ((doC c x.1).2, x.2))) j
      rw [if_neg (by omega)]
      have st : ∀ (f : Nat) (ans : Int32), jX9_doesAll_L12 (f + 1) (iZ x.2) (iZ j) (iZ i) (iZ 1) ans h = ((jX9_may (iZ i) h).bind fun q3 => (if q3.1 = true then (jX9_does (iZ i) q3.2).bind fun q4 => jX9_doesAll_L12 f (iZ x.2 + (jX9_truth q3.1 q4.2)) (iZ j) (iZ i + 1) (b2i q3.1) (ans + q4.1) q4.2 else jX9_doesAll_L12 f (iZ x.2 + (jX9_truth q3.1 q3.2)) (iZ j) (iZ i + 1) (b2i q3.1) ans q3.2)) := fun f ans => by
        rw [jX9_doesAll_L12, if_neg (show ¬ iZ 1 = 0 by decide), h45, if_neg (le_n (by omega) (by omega) (by omega)), show (40 : Int32) = iZ 40 from rfl, if_neg (le_n (by omega) (by omega) (by omega)), ib, if_pos rfl, ek, hc.1, if_neg (show ¬ iZ (c.1 : Int) = 8 from eq_n (b := 8) (by omega) (by omega) (by omega) (by omega) (by omega)), if_pos rfl, if_neg (show ¬ iZ (c.1 : Int) = 9 from eq_n (b := 9) (by omega) (by omega) (by omega) (by omega) (by omega))]
      rcases m_do hc h8 hi (by omega) hP.2.1 hP.2.2.1 with ⟨t1, v, g, e1, e2, f2, s2⟩ | ⟨t1, g, e1, f2, s2⟩
      · rw [if_pos t1]
        have pg : PoM h g ((doC c x.1).2, x.2 + 1) j := ⟨sA9_X9 f2, s2, ok2, by show 0 ≤ x.2 + 1; omega, by show x.2 + 1 ≤ 40; omega, fun k hk => ⟨f2.1 _ _ rfl, f2.1 _ _ rfl⟩⟩
        refine RnM.cons (j1 := j) (k1 := i + 1) pg (fun ans => ⟨ans + v, fun f => ?_⟩) ?_
        · rw [st, e1, Option.bind_some, if_pos rfl]
          show (jX9_does (iZ i) h).bind _ = _
          rw [e2, Option.bind_some, x9_truth, i1, iZ_add, iZ_add]
          rfl
        · rw [show i + (1 + szB 2 sz r) = i + 1 + szB 2 sz r by omega]
          exact ih (i + 1) g _ (am h g r _ pg.1 hA2) (by omega) (by omega) ((pg.1.1 _ _ rfl).trans h45) pg.me
      · rw [if_neg (by rw [t1]; exact Bool.false_ne_true)]
        intro ans
        refine ⟨2, g, ⟨sA9_X9 f2, s2, ok2, d0, hle, fun k hk => ⟨f2.1 _ _ rfl, f2.1 _ _ rfl⟩⟩, fun c => absurd c.1 Bool.false_ne_true, fun _ => ⟨by show (2 : Int) ≤ 1 + NtB N r + 1; omega, fun f => ?_⟩⟩
        rw [show f + 2 = f + 1 + 1 from rfl, st, e1, Option.bind_some, if_neg Bool.false_ne_true, jX9_doesAll_L12, if_pos (show b2i false = 0 from rfl), x9_truth, iZ_add]
        show some (iZ (x.2 + 0), g) = some (iZ x.2, g)
        rw [Int.add_zero]
    · have hq := hsz q
      have hNq := hN q
      replace hi2 : i + (2 + sz q + szB 2 sz r) ≤ sc := hi2
      obtain ⟨⟨hc, n1, n2⟩, hb, hl, hA2⟩ : (CellM h i (8, [], n) (i + 2 + sz q) ∧ 1 ≤ n ∧ n ≤ 20) ∧ at' h (i + 1) q ∧ LapM h (i + 1 + sz q) ∧ AtL (CellM h) (LapM h) 2 sz (at' h) (i + 2 + sz q) r := hA
      have a := hrep q n i _ h x hc n1 n2 hb hl hi (by omega) h45 (by omega) hP
      have hle2 : (repN (ex q) n.toNat x).2.2 ≤ 40 := by
        obtain ⟨n, g, p, -, -⟩ := a 0
        exact p.2.2.2.2.1
      show RnM h x j i j (i + (2 + sz q + szB 2 sz r)) (22 + 20 * N q + NtB N r) (if (repN (ex q) n.toNat x).1 = true then exL ex r (repN (ex q) n.toNat x).2 else (false, (repN (ex q) n.toNat x).2)) j
      rw [show i + (2 + sz q + szB 2 sz r) = i + 2 + sz q + szB 2 sz r by omega]
      by_cases hg : (repN (ex q) n.toNat x).1 = true ∧ (repN (ex q) n.toNat x).2.2 < 40
      · rw [if_pos hg.1]
        exact RnM.seq a hg (Int.le_refl j) (fun g p => ih (i + 2 + sz q) g _ (am h g r _ p.1 hA2) (by omega) (by omega) ((p.1.1 _ _ rfl).trans h45) p.me)
      · by_cases q1 : (repN (ex q) n.toNat x).1 = true
        · have h2 : ¬ (repN (ex q) n.toNat x).2.2 < 40 := fun c => hg ⟨q1, c⟩
          have e2 := exL_40 h40 r (repN (ex q) n.toNat x).2 (by omega)
          rw [if_pos q1]
          exact RnM.out a hg (fun c => h2 (by rw [e2] at c; exact c.2)) e2 (by omega) (Int.le_refl j)
        · rw [if_neg q1]
          exact RnM.out a hg (fun c => absurd c.1 Bool.false_ne_true) rfl (by omega) (Int.le_refl j)
end
def aM0 (h : HD) : Int → B0 → Prop := At0 (CellM h) (LapM h) 2
def aM1 (h : HD) : Int → B1 → Prop := At1 (CellM h) (LapM h) 2
theorem aM0_x9 (h g : HD) (hF : Fr sX9 h g) (j : Int) (x : B0) (hA : aM0 h j x) : aM0 g j x := At0_mono (by decide) x j (fun _ _ _ _ _ hc => hc.x9 hF) (Or.inl (by decide)) (fun _ _ _ hl => hl.x9 hF) hA
theorem aM1_x9 (h g : HD) (hF : Fr sX9 h g) (j : Int) (x : B1) (hA : aM1 h j x) : aM1 g j x := At1_mono (by decide) x j (fun _ _ _ _ _ hc => hc.x9 hF) (Or.inl (by decide)) (fun _ _ _ hl => hl.x9 hF) hA
def Nt0 : B0 → Int := NtB (fun (_ : Empty) => 0)
def Nt1 : B1 → Int := NtB Nt0
def Nt2 : B2 → Int := NtB Nt1
theorem Nt0_nn (b : B0) : 0 ≤ Nt0 b := NtB_nn (fun _ => Int.le_refl 0) b
theorem Nt1_nn (b : B1) : 0 ≤ Nt1 b := NtB_nn Nt0_nn b
theorem Nt0_le (b : B0) : Nt0 b ≤ sz0 2 b := by
  induction b with
  | nil => exact Int.le_refl 0
  | cons x r ih =>
    rcases x with c | ⟨n, q⟩
    · show 1 + Nt0 r ≤ 1 + sz0 2 r; omega
    · exact nomatch q
theorem Nt1_le (b : B1) : Nt1 b ≤ 22 * sz1 2 b := by
  induction b with
  | nil => exact Int.le_refl 0
  | cons x r ih =>
    rcases x with c | ⟨n, q⟩
    · show 1 + Nt1 r ≤ 22 * (1 + sz1 2 r); omega
    · have := Nt0_le q
      show 22 + 20 * Nt0 q + Nt1 r ≤ 22 * (2 + sz0 2 q + sz1 2 r)
      have := sz0_nn (e := 2) (by decide) q
      omega
theorem Nt2_le (b : B2) : Nt2 b ≤ 442 * sz2 2 b := by
  induction b with
  | nil => exact Int.le_refl 0
  | cons x r ih =>
    rcases x with c | ⟨n, q⟩
    · show 1 + Nt2 r ≤ 442 * (1 + sz2 2 r); omega
    · have := Nt1_le q
      show 22 + 20 * Nt1 q + Nt2 r ≤ 442 * (2 + sz1 2 q + sz2 2 r)
      have := sz1_nn (e := 2) (by decide) q
      omega
theorem ex0_40 (b : B0) (x : St3) (hx : x.2 = 40) : (ex0 b x).2 = x := exL_40 (fun b => nomatch b) b x hx
theorem ex1_40 (b : B1) (x : St3) (hx : x.2 = 40) : (ex1 b x).2 = x := exL_40 ex0_40 b x hx
section
variable {sc : Int}
theorem m_run0 (hsc : 0 ≤ sc ∧ sc ≤ 60) (b : B0) (i : Int) (h : HD) (x : St3) (hA : aM0 h i b) (hi : 0 ≤ i) (hi2 : i + sz0 2 b ≤ sc) (h45 : gI h (7, 0, 0) 45 = iZ sc) (hP : PoM h h x (1 + 1)) : RnM h x (1 + 1) i (1 + 1) (i + sz0 2 b) (Nt0 b) (ex0 b x) (1 + 1) :=
  m_body (ρ := Empty) (ex := fun (x : Empty) s => nomatch x) (sz := sE0) (N := fun _ => 0) (at' := fun _ _ _ => True) (j := 1 + 1) hsc ⟨by decide, by decide⟩ (fun _ => Int.le_refl 0) (fun _ => Int.le_refl 0) (fun b => nomatch b) (fun _ _ _ _ _ _ => trivial) (fun b => nomatch b) b i h x hA hi hi2 h45 hP
theorem m_run1 (hsc : 0 ≤ sc ∧ sc ≤ 60) (b : B1) (i : Int) (h : HD) (x : St3) (hA : aM1 h i b) (hi : 0 ≤ i) (hi2 : i + sz1 2 b ≤ sc) (h45 : gI h (7, 0, 0) 45 = iZ sc) (hP : PoM h h x (0 + 1)) : RnM h x (0 + 1) i (0 + 1) (i + sz1 2 b) (Nt1 b) (ex1 b x) (0 + 1) := by
  rw [show (0 : Int) + 1 = 1 from rfl] at hP ⊢
  exact m_body (ex := ex0) (sz := sz0 2) (N := Nt0) (at' := aM0) (j := 1) hsc ⟨by decide, by decide⟩ (sz0_nn (by decide)) Nt0_nn ex0_40 aM0_x9 (fun b n i bh h x hc n1 n2 hb hl hi hi2 h45 hx hP => m_rep (j := 1) hsc ⟨by decide, by decide⟩ (sz0_nn (e := 2) (by decide)) Nt0_nn ex0_40 aM0_x9 (m_run0 hsc) b n i bh h x hc n1 n2 hb hl hi hi2 h45 hx hP) b i h x hA hi hi2 h45 hP
end
theorem m_all {P : B2} {h : HD} {x : St3} (hZ : MZ h (P, none)) (hx : x.2 = 0) (hP : PoM h h x 0) : ∃ g, jX9_doesAll h = some (iZ (ex2 P x).2.2, g) ∧ PoM h g (ex2 P x).2 0 := by
  obtain ⟨z1, z2, z3, z4, z5⟩ := hZ
  replace z1 : gI h (7, 0, 0) 45 = iZ (sz2 2 P) := z1
  replace z4 : sz2 1 P ≤ 30 := z4
  replace z5 : At2 (CellM h) (LapM h) 2 0 P := z5
  have h2 := sz2_two P
  have h0 := sz2_nn (e := 2) (by decide) P
  have hsc : 0 ≤ sz2 2 P ∧ sz2 2 P ≤ 60 := ⟨h0, by omega⟩
  have hl := Nt2_le P
  have r := m_body (ex := ex1) (sz := sz1 2) (N := Nt1) (at' := aM1) (sc := sz2 2 P) (j := 0) hsc ⟨by decide, by decide⟩ (sz1_nn (by decide)) Nt1_nn ex1_40 aM1_x9 (fun b n i bh h x hc n1 n2 hb hl hi hi2 h45 hx hP => m_rep (j := 0) hsc ⟨by decide, by decide⟩ (sz1_nn (e := 2) (by decide)) Nt1_nn ex1_40 aM1_x9 (m_run1 hsc) b n i bh h x hc n1 n2 hb hl hi hi2 h45 hx hP) P 0 h x z5 (Int.le_refl 0) (by show 0 + sz2 2 P ≤ sz2 2 P; omega) z1 hP
  obtain ⟨n, g, p, a1, a2⟩ := r 0
  have eN : NtB Nt1 P = Nt2 P := rfl
  have eS : (0 : Int) + szB 2 (sz1 2) P = sz2 2 P := by show 0 + sz2 2 P = sz2 2 P; omega
  rw [eN, eS] at a1
  rw [eN] at a2
  refine ⟨g, ?_, p⟩
  show jX9_doesAll_L12 FU (iZ 0) (iZ 0) (iZ 0) (iZ 1) 0 h = some (iZ (exL ex1 P x).2.2, g)
  by_cases c : (exL ex1 P x).1 = true ∧ (exL ex1 P x).2.2 < 40
  · obtain ⟨l, ans2, e⟩ := a1 c
    have := e (999999 - n + 1)
    rw [show 999999 - n + 1 + n = FU by unfold FU; omega, hx] at this
    have g45 : gI g (7, 0, 0) 45 = iZ (sz2 2 P) := (p.1.1 _ _ rfl).trans z1
    rw [this, jX9_doesAll_L12, if_neg (show ¬ iZ 1 = 0 by decide), g45, if_pos (le_y (by omega) (by omega) (by omega))]
  · obtain ⟨l, e⟩ := a2 c
    have := e (1000000 - n)
    rw [show 1000000 - n + n = FU by unfold FU; omega, hx] at this
    exact this
