/-! the whole script: the class -/
theorem len_szB {ρ : Type} {s : ρ → Int} (hs : ∀ x, 0 ≤ s x) (b : Bd ρ) : (b.length : Int) ≤ szB 1 s b := by
  induction b with
  | nil => exact Int.le_refl 0
  | cons x r ih =>
    rcases x with c | ⟨n, q⟩
    · show ((r.length + 1 : Nat) : Int) ≤ 1 + szB 1 s r; omega
    · have := hs q
      show ((r.length + 1 : Nat) : Int) ≤ 1 + s q + szB 1 s r; omega
def aC0 (h : HD) : Int → B0 → Prop := At0 (CellC h) AlwT 1
def aC1 (h : HD) : Int → B1 → Prop := At1 (CellC h) AlwT 1
theorem aC0_x8 (h g : HD) (hF : Fr sX8 h g) (j : Int) (x : B0) (hA : aC0 h j x) : aC0 g j x := At0_mono (by decide) x j (fun _ _ _ _ _ hc => hc.x8 hF) (Or.inr (fun _ => trivial)) (fun _ _ _ _ => trivial) hA
theorem aC1_x8 (h g : HD) (hF : Fr sX8 h g) (j : Int) (x : B1) (hA : aC1 h j x) : aC1 g j x := At1_mono (by decide) x j (fun _ _ _ _ _ hc => hc.x8 hF) (Or.inr (fun _ => trivial)) (fun _ _ _ _ => trivial) hA
theorem c_dc1 (b : B0) (i : Int) (h : HD) (x : St3) (hA : aC0 h i b) (hi : 0 ≤ i) (h30 : i + sz0 1 b ≤ 30) (hN : HN h (i + sz0 1 b)) (hP : PoC h h x) : ∃ g, jX8_doCommands_l1 (iZ i) (iZ (i + sz0 1 b)) (iZ (1 + 1)) h = some ((ex0 b x).1, g) ∧ PoC h g (ex0 b x).2 := by
  have hl := len_szB (s := sE0) (fun _ => Int.le_refl 0) b
  have hb0 := sz0_nn (e := 1) (by decide) b
  replace hl : (b.length : Int) ≤ sz0 1 b := hl
  obtain ⟨g, e, p⟩ := c_body (ρ := Empty) (ex := fun (x : Empty) s => nomatch x) (sz := sE0) (at' := fun _ _ _ => True) (rep := rep1) (dep := 1 + 1) (fun _ => Int.le_refl 0) (fun _ _ _ _ _ _ => trivial) (fun b => nomatch b) b i 0 h x (999999 - b.length) (i + sz0 1 b) hA hi rfl h30 hN (Int.le_refl 0) (by show 0 + sz0 1 b ≤ 30; omega) hP
  refine ⟨g, ?_, p⟩
  unfold jX8_doCommands_l1
  rw [l1_eq, i0]
  rw [show 999999 - b.length + b.length + 1 = FU by unfold FU; omega] at e
  exact e
theorem c_dc2 (b : B1) (i : Int) (h : HD) (x : St3) (hA : aC1 h i b) (hi : 0 ≤ i) (h30 : i + sz1 1 b ≤ 30) (hN : HN h (i + sz1 1 b)) (hP : PoC h h x) : ∃ g, jX8_doCommands_l2 (iZ i) (iZ (i + sz1 1 b)) (iZ (0 + 1)) h = some ((ex1 b x).1, g) ∧ PoC h g (ex1 b x).2 := by
  have hl := len_szB (sz0_nn (e := 1) (by decide)) b
  have hb0 := sz1_nn (e := 1) (by decide) b
  replace hl : (b.length : Int) ≤ sz1 1 b := hl
  obtain ⟨g, e, p⟩ := c_body (ex := ex0) (sz := sz0 1) (at' := aC0) (rep := jX8_doRepeat_l2) (dep := 0 + 1) (sz0_nn (by decide)) aC0_x8 (fun b n i h x hc n1 n2 hb hi h30 hN hP => by
    obtain ⟨g, e, p⟩ := c_rep (dc := jX8_doCommands_l1) (dep := 1) ⟨by decide, by decide⟩ (sz0_nn (e := 1) (by decide)) aC0_x8 c_dc1 b n i h x hc n1 n2 hb hi h30 hN hP
    refine ⟨g, ?_, p⟩
    unfold jX8_doRepeat_l2
    rw [r2_eq]
    exact e) b i 0 h x (999999 - b.length) (i + sz1 1 b) hA hi rfl h30 hN (Int.le_refl 0) (by show 0 + sz1 1 b ≤ 30; omega) hP
  refine ⟨g, ?_, p⟩
  unfold jX8_doCommands_l2
  rw [l2_eq, i0]
  rw [show 999999 - b.length + b.length + 1 = FU by unfold FU; omega] at e
  exact e
theorem c_all {P : B2} {h : HD} {x : St3} (hZ : CZ h (P, none)) (hP : PoC h h x) : ∃ g, jX8_doCommands_l3 (0 : Int32) (jX5_count h) (0 : Int32) h = some ((ex2 P x).1, g) ∧ PoC h g (ex2 P x).2 := by
  obtain ⟨z1, z2, z3, z4, -, -⟩ := hZ
  replace z1 : gI h (3, 0, 0) 6 = iZ (sz2 1 P) := z1
  replace z3 : sz2 1 P ≤ 30 := z3
  replace z4 : At2 (CellC h) AlwT 1 0 P := z4
  have hl := len_szB (sz1_nn (e := 1) (by decide)) P
  replace hl : (P.length : Int) ≤ sz2 1 P := hl
  obtain ⟨g, e, p⟩ := c_body (ex := ex1) (sz := sz1 1) (at' := aC1) (rep := jX8_doRepeat_l3) (dep := 0) (sz1_nn (by decide)) aC1_x8 (fun b n i h x hc n1 n2 hb hi h30 hN hP => by
    obtain ⟨g, e, p⟩ := c_rep (dc := jX8_doCommands_l2) (dep := 0) ⟨by decide, by decide⟩ (sz1_nn (e := 1) (by decide)) aC1_x8 c_dc2 b n i h x hc n1 n2 hb hi h30 hN hP
    refine ⟨g, ?_, p⟩
    unfold jX8_doRepeat_l3
    rw [r3_eq]
    exact e) P 0 0 h x (999999 - P.length) (sz2 1 P) z4 (Int.le_refl 0) (by show sz2 1 P = 0 + sz2 1 P; omega) z3 ⟨sz2 1 P, z1, Int.le_refl _, z3⟩ (Int.le_refl 0) (by show 0 + sz2 1 P ≤ 30; omega) hP
  refine ⟨g, ?_, p⟩
  unfold jX8_doCommands_l3 jX5_count
  rw [l3_eq, z1, i0]
  rw [show 999999 - P.length + P.length + 1 = FU by unfold FU; omega] at e
  exact e
