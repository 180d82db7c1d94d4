/-! SCRIPTS: how one stands in rows; what it does -/
abbrev Cm : Type := Nat × List Nat × Int
abbrev Bd (ρ : Type) : Type := List (Cm ⊕ (Int × ρ))
abbrev B0 : Type := Bd Empty
abbrev B1 : Type := Bd B0
abbrev B2 : Type := Bd B1
/-- what is read so far: the script, the outer repeat that goes on, the inner one -/
abbrev Zp : Type := B2 × Option (Int × B1 × Option (Int × B0))
def szB {ρ : Type} (e : Int) (s : ρ → Int) : Bd ρ → Int
  | [] => 0
  | .inl _ :: r => 1 + szB e s r
  | .inr (_, b) :: r => e + s b + szB e s r
/-- a body stands at a place: its commands by P, behind a repeat E -/
def AtL {ρ : Type} (P : Int → Cm → Int → Prop) (E : Int → Prop) (e : Int) (s : ρ → Int) (g : Int → ρ → Prop) : Int → Bd ρ → Prop
  | _, [] => True
  | i, .inl c :: r => (P i c (i + 1) ∧ c.1 < 8) ∧ AtL P E e s g (i + 1) r
  | i, .inr (n, b) :: r => (P i (8, [], n) (i + e + s b) ∧ 1 ≤ n ∧ n ≤ 20) ∧ g (i + 1) b ∧ E (i + 1 + s b) ∧ AtL P E e s g (i + e + s b) r
section
variable {ρ : Type} {e : Int} {s : ρ → Int}
theorem szB_app (a b : Bd ρ) : szB e s (a ++ b) = szB e s a + szB e s b := by
  induction a with
  | nil => show szB e s b = 0 + szB e s b; omega
  | cons x r ih =>
    rcases x with c | ⟨n, q⟩
    · show 1 + szB e s (r ++ b) = 1 + szB e s r + szB e s b
      rw [ih]; omega
    · show e + s q + szB e s (r ++ b) = e + s q + szB e s r + szB e s b
      rw [ih]; omega
theorem szB_nn (he : 0 ≤ e) (hs : ∀ x, 0 ≤ s x) (b : Bd ρ) : 0 ≤ szB e s b := by
  induction b with
  | nil => exact Int.le_refl 0
  | cons x r ih =>
    rcases x with c | ⟨n, q⟩
    · show 0 ≤ 1 + szB e s r; omega
    · have := hs q
      show 0 ≤ e + s q + szB e s r; omega
theorem szB_two {t : ρ → Int} (hs : ∀ x, t x ≤ 2 * s x) (b : Bd ρ) : szB 2 t b ≤ 2 * szB 1 s b := by
  induction b with
  | nil => exact Int.le_refl 0
  | cons x r ih =>
    rcases x with c | ⟨n, q⟩
    · show 1 + szB 2 t r ≤ 2 * (1 + szB 1 s r); omega
    · have := hs q
      show 2 + t q + szB 2 t r ≤ 2 * (1 + s q + szB 1 s r); omega
variable {P P2 : Int → Cm → Int → Prop} {E E2 : Int → Prop} {g g2 : Int → ρ → Prop}
theorem AtL_app (a b : Bd ρ) : ∀ i, AtL P E e s g i (a ++ b) ↔ AtL P E e s g i a ∧ AtL P E e s g (i + szB e s a) b := by
  induction a with
  | nil =>
    intro i
    show AtL P E e s g i b ↔ True ∧ AtL P E e s g (i + 0) b
    rw [Int.add_zero]
    exact ⟨fun h => ⟨trivial, h⟩, fun h => h.2⟩
  | cons x r ih =>
    intro i
    rcases x with c | ⟨n, q⟩
    · show _ ∧ AtL P E e s g (i + 1) (r ++ b) ↔ (_ ∧ AtL P E e s g (i + 1) r) ∧ AtL P E e s g (i + (1 + szB e s r)) b
      rw [ih (i + 1), show i + 1 + szB e s r = i + (1 + szB e s r) by omega]
      exact ⟨fun h => ⟨⟨h.1, h.2.1⟩, h.2.2⟩, fun h => ⟨h.1.1, h.1.2, h.2⟩⟩
    · show _ ∧ _ ∧ _ ∧ AtL P E e s g (i + e + s q) (r ++ b) ↔ (_ ∧ _ ∧ _ ∧ AtL P E e s g (i + e + s q) r) ∧ AtL P E e s g (i + (e + s q + szB e s r)) b
      rw [ih (i + e + s q), show i + e + s q + szB e s r = i + (e + s q + szB e s r) by omega]
      exact ⟨fun h => ⟨⟨h.1, h.2.1, h.2.2.1, h.2.2.2.1⟩, h.2.2.2.2⟩, fun h => ⟨h.1.1, h.1.2.1, h.1.2.2.1, h.1.2.2.2, h.2⟩⟩
theorem AtL_mono (he : 1 ≤ e) (hs : ∀ x, 0 ≤ s x) (b : Bd ρ) : ∀ i, (∀ j c bh, i ≤ j → j < i + szB e s b → P j c bh → P2 j c bh) → (2 ≤ e ∨ ∀ j, E2 j) → (∀ j, i ≤ j → j < i + szB e s b → E j → E2 j) → (∀ j x, i ≤ j → j + s x ≤ i + szB e s b → g j x → g2 j x) → AtL P E e s g i b → AtL P2 E2 e s g2 i b := by
  induction b with
  | nil => intro i _ _ _ _ _; trivial
  | cons x r ih =>
    intro i hP h2 hE hg h
    have hr := szB_nn (e := e) (by omega) hs r
    rcases x with c | ⟨n, q⟩
    · replace hP : ∀ j c bh, i ≤ j → j < i + (1 + szB e s r) → P j c bh → P2 j c bh := hP
      replace hE : ∀ j, i ≤ j → j < i + (1 + szB e s r) → E j → E2 j := hE
      replace hg : ∀ j x, i ≤ j → j + s x ≤ i + (1 + szB e s r) → g j x → g2 j x := hg
      obtain ⟨⟨h1, h1'⟩, h3⟩ := h
      exact ⟨⟨hP i c _ (Int.le_refl i) (by omega) h1, h1'⟩, ih (i + 1) (fun j c bh j0 j1 => hP j c bh (by omega) (by omega)) h2 (fun j j0 j1 => hE j (by omega) (by omega)) (fun j x j0 j1 => hg j x (by omega) (by omega)) h3⟩
    · have hq := hs q
      replace hP : ∀ j c bh, i ≤ j → j < i + (e + s q + szB e s r) → P j c bh → P2 j c bh := hP
      replace hE : ∀ j, i ≤ j → j < i + (e + s q + szB e s r) → E j → E2 j := hE
      replace hg : ∀ j x, i ≤ j → j + s x ≤ i + (e + s q + szB e s r) → g j x → g2 j x := hg
      obtain ⟨⟨h1, h1'⟩, hb, h4, h3⟩ := h
      refine ⟨⟨hP i _ _ (Int.le_refl i) (by omega) h1, h1'⟩, hg (i + 1) q (by omega) (by omega) hb, ?_, ih (i + e + s q) (fun j c bh j0 j1 => hP j c bh (by omega) (by omega)) h2 (fun j j0 j1 => hE j (by omega) (by omega)) (fun j x j0 j1 => hg j x (by omega) (by omega)) h3⟩
      rcases h2 with h2 | h2
      · exact hE _ (by omega) (by omega) h4
      · exact h2 _
end
def sE0 : Empty → Int := fun _ => 0
def sz0 (e : Int) : B0 → Int := szB e sE0
def sz1 (e : Int) : B1 → Int := szB e (sz0 e)
def sz2 (e : Int) : B2 → Int := szB e (sz1 e)
theorem sz0_nn {e : Int} (he : 0 ≤ e) (b : B0) : 0 ≤ sz0 e b := szB_nn he (fun _ => Int.le_refl 0) b
theorem sz1_nn {e : Int} (he : 0 ≤ e) (b : B1) : 0 ≤ sz1 e b := szB_nn he (sz0_nn he) b
theorem sz2_nn {e : Int} (he : 0 ≤ e) (b : B2) : 0 ≤ sz2 e b := szB_nn he (sz1_nn he) b
theorem sz0_two (b : B0) : sz0 2 b ≤ 2 * sz0 1 b := szB_two (fun x => nomatch x) b
theorem sz1_two (b : B1) : sz1 2 b ≤ 2 * sz1 1 b := szB_two sz0_two b
theorem sz2_two (b : B2) : sz2 2 b ≤ 2 * sz2 1 b := szB_two sz1_two b
section
variable (P : Int → Cm → Int → Prop) (E : Int → Prop) (e : Int)
def At0 : Int → B0 → Prop := AtL P E e sE0 (fun _ _ => True)
def At1 : Int → B1 → Prop := AtL P E e (sz0 e) (At0 P E e)
def At2 : Int → B2 → Prop := AtL P E e (sz1 e) (At1 P E e)
/-- a repeat that goes on -/
def OpL (i n : Int) : Prop := (∃ bh, P i (8, [], n) bh) ∧ 1 ≤ n ∧ n ≤ 20
def AtZ : Zp → Prop
  | (a, none) => At2 P E e 0 a
  | (a, some (n, b, none)) => At2 P E e 0 a ∧ OpL P (sz2 e a) n ∧ At1 P E e (sz2 e a + 1) b
  | (a, some (n, b, some (m, c))) => At2 P E e 0 a ∧ (OpL P (sz2 e a) n ∧ At1 P E e (sz2 e a + 1) b) ∧ OpL P (sz2 e a + 1 + sz1 e b) m ∧ At0 P E e (sz2 e a + 1 + sz1 e b + 1) c
end
def szZ (e : Int) : Zp → Int
  | (a, none) => sz2 e a
  | (a, some (_, b, none)) => sz2 e a + 1 + sz1 e b
  | (a, some (_, b, some (_, c))) => sz2 e a + 1 + sz1 e b + 1 + sz0 e c
def dpZ : Zp → Int
  | (_, none) => 0
  | (_, some (_, _, none)) => 1
  | (_, some (_, _, some _)) => 2
/-- where the innermost of them stands -/
def opZ (e : Int) : Zp → Int
  | (a, none) => sz2 e a
  | (a, some (_, _, none)) => sz2 e a
  | (a, some (_, b, some _)) => sz2 e a + 1 + sz1 e b
def addZ (c : Cm) : Zp → Zp
  | (a, none) => (a ++ [.inl c], none)
  | (a, some (n, b, none)) => (a, some (n, b ++ [.inl c], none))
  | (a, some (n, b, some (m, d))) => (a, some (n, b, some (m, d ++ [.inl c])))
def opnZ (n : Int) : Zp → Zp
  | (a, none) => (a, some (n, [], none))
  | (a, some (m, b, none)) => (a, some (m, b, some (n, [])))
  | z => z
def clsZ : Zp → Zp
  | (a, some (n, b, none)) => (a ++ [.inr (n, b)], none)
  | (a, some (n, b, some (m, d))) => (a, some (n, b ++ [.inr (m, d)], none))
  | z => z
theorem Zp_cases (z : Zp) : (∃ a, z = (a, none)) ∨ (∃ a n b, z = (a, some (n, b, none))) ∨ ∃ a n b m c, z = (a, some (n, b, some (m, c))) := by
  obtain ⟨a, o⟩ := z
  cases o with
  | none => exact Or.inl ⟨a, rfl⟩
  | some o =>
    obtain ⟨n, b, o⟩ := o
    cases o with
    | none => exact Or.inr (Or.inl ⟨a, n, b, rfl⟩)
    | some o =>
      obtain ⟨m, c⟩ := o
      exact Or.inr (Or.inr ⟨a, n, b, m, c, rfl⟩)
section
variable {e : Int} {z : Zp}
theorem szZ_nn (he : 0 ≤ e) : 0 ≤ szZ e z ∧ 0 ≤ dpZ z ∧ dpZ z ≤ 2 ∧ (0 < dpZ z → 0 ≤ opZ e z ∧ opZ e z < szZ e z) := by
  rcases Zp_cases z with ⟨a, rfl⟩ | ⟨a, n, b, rfl⟩ | ⟨a, n, b, m, c, rfl⟩
  · have := sz2_nn he a
    exact ⟨this, Int.le_refl 0, (by decide : (0 : Int) ≤ 2), fun h => absurd (show (0 : Int) < 0 from h) (by decide)⟩
  · have := sz2_nn he a
    have := sz1_nn he b
    refine ⟨?_, (by decide : (0 : Int) ≤ 1), (by decide : (1 : Int) ≤ 2), fun _ => ⟨?_, ?_⟩⟩
    · show 0 ≤ sz2 e a + 1 + sz1 e b; omega
    · show 0 ≤ sz2 e a; omega
    · show sz2 e a < sz2 e a + 1 + sz1 e b; omega
  · have := sz2_nn he a
    have := sz1_nn he b
    have := sz0_nn he c
    refine ⟨?_, (by decide : (0 : Int) ≤ 2), (by decide : (2 : Int) ≤ 2), fun _ => ⟨?_, ?_⟩⟩
    · show 0 ≤ sz2 e a + 1 + sz1 e b + 1 + sz0 e c; omega
    · show 0 ≤ sz2 e a + 1 + sz1 e b; omega
    · show sz2 e a + 1 + sz1 e b < sz2 e a + 1 + sz1 e b + 1 + sz0 e c; omega
theorem szZ_two : szZ 2 z + dpZ z ≤ 2 * szZ 1 z := by
  rcases Zp_cases z with ⟨a, rfl⟩ | ⟨a, n, b, rfl⟩ | ⟨a, n, b, m, c, rfl⟩
  · have := sz2_two a
    show sz2 2 a + 0 ≤ 2 * sz2 1 a; omega
  · have := sz2_two a
    have := sz1_two b
    show sz2 2 a + 1 + sz1 2 b + 1 ≤ 2 * (sz2 1 a + 1 + sz1 1 b); omega
  · have := sz2_two a
    have := sz1_two b
    have := sz0_two c
    show sz2 2 a + 1 + sz1 2 b + 1 + sz0 2 c + 2 ≤ 2 * (sz2 1 a + 1 + sz1 1 b + 1 + sz0 1 c); omega
theorem addZ_sz (c : Cm) : szZ e (addZ c z) = szZ e z + 1 ∧ dpZ (addZ c z) = dpZ z ∧ opZ e (addZ c z) = (if dpZ z = 0 then opZ e z + 1 else opZ e z) := by
  rcases Zp_cases z with ⟨a, rfl⟩ | ⟨a, n, b, rfl⟩ | ⟨a, n, b, m, d, rfl⟩
  · have : sz2 e (a ++ [.inl c]) = sz2 e a + 1 := by
      unfold sz2
      rw [szB_app]; rfl
    exact ⟨this, rfl, this⟩
  · have : sz1 e (b ++ [.inl c]) = sz1 e b + 1 := by
      unfold sz1
      rw [szB_app]; rfl
    refine ⟨?_, rfl, rfl⟩
    show sz2 e a + 1 + sz1 e (b ++ [.inl c]) = sz2 e a + 1 + sz1 e b + 1
    omega
  · have : sz0 e (d ++ [.inl c]) = sz0 e d + 1 := by
      unfold sz0
      rw [szB_app]; rfl
    refine ⟨?_, rfl, rfl⟩
    show sz2 e a + 1 + sz1 e b + 1 + sz0 e (d ++ [.inl c]) = sz2 e a + 1 + sz1 e b + 1 + sz0 e d + 1
    omega
theorem opnZ_sz (n : Int) (hd : dpZ z < 2) : szZ e (opnZ n z) = szZ e z + 1 ∧ dpZ (opnZ n z) = dpZ z + 1 ∧ opZ e (opnZ n z) = szZ e z := by
  rcases Zp_cases z with ⟨a, rfl⟩ | ⟨a, m, b, rfl⟩ | ⟨a, m, b, m2, d, rfl⟩
  · refine ⟨?_, rfl, rfl⟩
    show sz2 e a + 1 + 0 = sz2 e a + 1; omega
  · refine ⟨?_, rfl, rfl⟩
    show sz2 e a + 1 + sz1 e b + 1 + 0 = sz2 e a + 1 + sz1 e b + 1; omega
  · exact absurd (show (2 : Int) < 2 from hd) (by decide)
theorem clsZ_sz (hd : 0 < dpZ z) : szZ e (clsZ z) = szZ e z + (e - 1) ∧ dpZ (clsZ z) = dpZ z - 1 := by
  rcases Zp_cases z with ⟨a, rfl⟩ | ⟨a, m, b, rfl⟩ | ⟨a, m, b, m2, d, rfl⟩
  · exact absurd (show (0 : Int) < 0 from hd) (by decide)
  · refine ⟨?_, rfl⟩
    show sz2 e (a ++ [.inr (m, b)]) = sz2 e a + 1 + sz1 e b + (e - 1)
    unfold sz2
    rw [szB_app]
    show szB e (sz1 e) a + (e + sz1 e b + 0) = _
    omega
  · refine ⟨?_, rfl⟩
    show sz2 e a + 1 + sz1 e (b ++ [.inr (m2, d)]) = sz2 e a + 1 + sz1 e b + 1 + sz0 e d + (e - 1)
    have : sz1 e (b ++ [.inr (m2, d)]) = sz1 e b + (e + sz0 e d + 0) := by
      unfold sz1
      rw [szB_app]; rfl
    omega
variable {P P2 : Int → Cm → Int → Prop} {E E2 : Int → Prop}
theorem At0_mono (he : 1 ≤ e) (b : B0) (i : Int) (hP : ∀ j c bh, i ≤ j → j < i + sz0 e b → P j c bh → P2 j c bh) (h2 : 2 ≤ e ∨ ∀ j, E2 j) (hE : ∀ j, i ≤ j → j < i + sz0 e b → E j → E2 j) (h : At0 P E e i b) : At0 P2 E2 e i b := AtL_mono he (fun _ => Int.le_refl 0) b i hP h2 hE (fun _ _ _ _ _ => trivial) h
theorem At1_mono (he : 1 ≤ e) (b : B1) (i : Int) (hP : ∀ j c bh, i ≤ j → j < i + sz1 e b → P j c bh → P2 j c bh) (h2 : 2 ≤ e ∨ ∀ j, E2 j) (hE : ∀ j, i ≤ j → j < i + sz1 e b → E j → E2 j) (h : At1 P E e i b) : At1 P2 E2 e i b := AtL_mono he (sz0_nn (by omega)) b i hP h2 hE (fun j x j0 j1 => At0_mono he x j (fun k c bh k0 k1 => hP k c bh (by omega) (by unfold sz1; omega)) h2 (fun k k0 k1 => hE k (by omega) (by unfold sz1; omega))) h
theorem At2_mono (he : 1 ≤ e) (b : B2) (i : Int) (hP : ∀ j c bh, i ≤ j → j < i + sz2 e b → P j c bh → P2 j c bh) (h2 : 2 ≤ e ∨ ∀ j, E2 j) (hE : ∀ j, i ≤ j → j < i + sz2 e b → E j → E2 j) (h : At2 P E e i b) : At2 P2 E2 e i b := AtL_mono he (sz1_nn (by omega)) b i hP h2 hE (fun j x j0 j1 => At1_mono he x j (fun k c bh k0 k1 => hP k c bh (by omega) (by unfold sz2; omega)) h2 (fun k k0 k1 => hE k (by omega) (by unfold sz2; omega))) h
/-- what stood before stands when the cells that are held are kept; that of a repeat may get another end -/
theorem AtZ_mono (he : 1 ≤ e) (hP : ∀ j c bh, 0 ≤ j → j < szZ e z → P j c bh → P2 j c bh) (h2 : 2 ≤ e ∨ ∀ j, E2 j) (hE : ∀ j, 0 ≤ j → j < szZ e z → E j → E2 j) (h : AtZ P E e z) : AtZ P2 E2 e z := by
  have he0 : 0 ≤ e := by omega
  rcases Zp_cases z with ⟨a, rfl⟩ | ⟨a, n, b, rfl⟩ | ⟨a, n, b, m, c, rfl⟩
  · replace h : At2 P E e 0 a := h
    exact At2_mono he a 0 (fun j c bh j0 j1 => hP j c bh j0 (by show j < sz2 e a; omega)) h2 (fun j j0 j1 => hE j j0 (by show j < sz2 e a; omega)) h
  · have ha := sz2_nn he0 a
    have hb := sz1_nn he0 b
    replace hP : ∀ j c bh, 0 ≤ j → j < sz2 e a + 1 + sz1 e b → P j c bh → P2 j c bh := hP
    replace hE : ∀ j, 0 ≤ j → j < sz2 e a + 1 + sz1 e b → E j → E2 j := hE
    obtain ⟨x1, ⟨⟨bh, x2⟩, x3⟩, x4⟩ : At2 P E e 0 a ∧ OpL P (sz2 e a) n ∧ At1 P E e (sz2 e a + 1) b := h
    exact ⟨At2_mono he a 0 (fun j c bh j0 j1 => hP j c bh j0 (by omega)) h2 (fun j j0 j1 => hE j j0 (by omega)) x1, ⟨⟨bh, hP _ _ _ (by omega) (by omega) x2⟩, x3⟩, At1_mono he b _ (fun j c bh j0 j1 => hP j c bh (by omega) (by omega)) h2 (fun j j0 j1 => hE j (by omega) (by omega)) x4⟩
  · have ha := sz2_nn he0 a
    have hb := sz1_nn he0 b
    have hc := sz0_nn he0 c
    replace hP : ∀ j d bh, 0 ≤ j → j < sz2 e a + 1 + sz1 e b + 1 + sz0 e c → P j d bh → P2 j d bh := hP
    replace hE : ∀ j, 0 ≤ j → j < sz2 e a + 1 + sz1 e b + 1 + sz0 e c → E j → E2 j := hE
    obtain ⟨x1, ⟨⟨⟨bh, x2⟩, x3⟩, x4⟩, ⟨⟨bh2, x5⟩, x6⟩, x7⟩ : At2 P E e 0 a ∧ (OpL P (sz2 e a) n ∧ At1 P E e (sz2 e a + 1) b) ∧ OpL P (sz2 e a + 1 + sz1 e b) m ∧ At0 P E e (sz2 e a + 1 + sz1 e b + 1) c := h
    exact ⟨At2_mono he a 0 (fun j c bh j0 j1 => hP j c bh j0 (by omega)) h2 (fun j j0 j1 => hE j j0 (by omega)) x1, ⟨⟨⟨bh, hP _ _ _ (by omega) (by omega) x2⟩, x3⟩, At1_mono he b _ (fun j c bh j0 j1 => hP j c bh (by omega) (by omega)) h2 (fun j j0 j1 => hE j (by omega) (by omega)) x4⟩, ⟨⟨bh2, hP _ _ _ (by omega) (by omega) x5⟩, x6⟩, At0_mono he c _ (fun j c bh j0 j1 => hP j c bh (by omega) (by omega)) h2 (fun j j0 j1 => hE j (by omega) (by omega)) x7⟩
theorem AtZ_add {c : Cm} (h : AtZ P E e z) (hc : P (szZ e z) c (szZ e z + 1)) (h8 : c.1 < 8) : AtZ P E e (addZ c z) := by
  rcases Zp_cases z with ⟨a, rfl⟩ | ⟨a, n, b, rfl⟩ | ⟨a, n, b, m, d, rfl⟩
  · replace hc : P (sz2 e a) c (sz2 e a + 1) := hc
    refine (AtL_app a [.inl c] 0).mpr ⟨h, ⟨?_, h8⟩, trivial⟩
    rw [Int.zero_add]; exact hc
  · obtain ⟨x1, x2, x4⟩ : At2 P E e 0 a ∧ OpL P (sz2 e a) n ∧ At1 P E e (sz2 e a + 1) b := h
    exact ⟨x1, x2, (AtL_app b [.inl c] _).mpr ⟨x4, ⟨hc, h8⟩, trivial⟩⟩
  · obtain ⟨x1, x2, x3, x4⟩ : At2 P E e 0 a ∧ (OpL P (sz2 e a) n ∧ At1 P E e (sz2 e a + 1) b) ∧ OpL P (sz2 e a + 1 + sz1 e b) m ∧ At0 P E e (sz2 e a + 1 + sz1 e b + 1) d := h
    exact ⟨x1, x2, x3, (AtL_app d [.inl c] _).mpr ⟨x4, ⟨hc, h8⟩, trivial⟩⟩
theorem AtZ_opn {n : Int} (hd : dpZ z < 2) (h : AtZ P E e z) (hc : OpL P (szZ e z) n) : AtZ P E e (opnZ n z) := by
  rcases Zp_cases z with ⟨a, rfl⟩ | ⟨a, m, b, rfl⟩ | ⟨a, m, b, m2, d, rfl⟩
  · exact ⟨h, hc, trivial⟩
  · obtain ⟨x1, x2, x4⟩ : At2 P E e 0 a ∧ OpL P (sz2 e a) m ∧ At1 P E e (sz2 e a + 1) b := h
    exact ⟨x1, ⟨x2, x4⟩, hc, trivial⟩
  · exact absurd (show (2 : Int) < 2 from hd) (by decide)
theorem AtZ_cls (he : 1 ≤ e) (hd : 0 < dpZ z) (hP : ∀ j c bh, 0 ≤ j → j < szZ e z → ¬ j = opZ e z → P j c bh → P2 j c bh) (hO : ∀ c bh, P (opZ e z) c bh → P2 (opZ e z) c (szZ e z + (e - 1))) (h2 : 2 ≤ e ∨ ∀ j, E2 j) (hE : ∀ j, 0 ≤ j → j < szZ e z → E j → E2 j) (hE2 : E2 (szZ e z)) (h : AtZ P E e z) : AtZ P2 E2 e (clsZ z) := by
  have he0 : 0 ≤ e := by omega
  rcases Zp_cases z with ⟨a, rfl⟩ | ⟨a, n, b, rfl⟩ | ⟨a, n, b, m, c, rfl⟩
  · exact absurd (show (0 : Int) < 0 from hd) (by decide)
  · have ha := sz2_nn he0 a
    have hb := sz1_nn he0 b
    replace hP : ∀ j c bh, 0 ≤ j → j < sz2 e a + 1 + sz1 e b → ¬ j = sz2 e a → P j c bh → P2 j c bh := hP
    replace hE : ∀ j, 0 ≤ j → j < sz2 e a + 1 + sz1 e b → E j → E2 j := hE
    replace hO : ∀ c bh, P (sz2 e a) c bh → P2 (sz2 e a) c (sz2 e a + 1 + sz1 e b + (e - 1)) := hO
    replace hE2 : E2 (sz2 e a + 1 + sz1 e b) := hE2
    obtain ⟨x1, ⟨⟨bh, x2⟩, x3⟩, x4⟩ : At2 P E e 0 a ∧ OpL P (sz2 e a) n ∧ At1 P E e (sz2 e a + 1) b := h
    have y1 : At2 P2 E2 e 0 a := At2_mono he a 0 (fun j c bh j0 j1 => hP j c bh j0 (by omega) (by omega)) h2 (fun j j0 j1 => hE j j0 (by omega)) x1
    have y4 : At1 P2 E2 e (sz2 e a + 1) b := At1_mono he b _ (fun j c bh j0 j1 => hP j c bh (by omega) (by omega) (by omega)) h2 (fun j j0 j1 => hE j (by omega) (by omega)) x4
    have y2 := hO _ _ x2
    refine (AtL_app a [.inr (n, b)] 0).mpr ⟨y1, ⟨?_, x3⟩, ?_, ?_, trivial⟩
    · show P2 (0 + sz2 e a) (8, [], n) (0 + sz2 e a + e + sz1 e b)
      rw [Int.zero_add, show sz2 e a + e + sz1 e b = sz2 e a + 1 + sz1 e b + (e - 1) by omega]
      exact y2
    · show At1 P2 E2 e (0 + sz2 e a + 1) b
      rw [Int.zero_add]; exact y4
    · show E2 (0 + sz2 e a + 1 + sz1 e b)
      rw [Int.zero_add]; exact hE2
  · have ha := sz2_nn he0 a
    have hb := sz1_nn he0 b
    have hc := sz0_nn he0 c
    replace hP : ∀ j d bh, 0 ≤ j → j < sz2 e a + 1 + sz1 e b + 1 + sz0 e c → ¬ j = sz2 e a + 1 + sz1 e b → P j d bh → P2 j d bh := hP
    replace hE : ∀ j, 0 ≤ j → j < sz2 e a + 1 + sz1 e b + 1 + sz0 e c → E j → E2 j := hE
    replace hO : ∀ d bh, P (sz2 e a + 1 + sz1 e b) d bh → P2 (sz2 e a + 1 + sz1 e b) d (sz2 e a + 1 + sz1 e b + 1 + sz0 e c + (e - 1)) := hO
    replace hE2 : E2 (sz2 e a + 1 + sz1 e b + 1 + sz0 e c) := hE2
    obtain ⟨x1, ⟨⟨⟨bh, x2⟩, x3⟩, x4⟩, ⟨⟨bh2, x5⟩, x6⟩, x7⟩ : At2 P E e 0 a ∧ (OpL P (sz2 e a) n ∧ At1 P E e (sz2 e a + 1) b) ∧ OpL P (sz2 e a + 1 + sz1 e b) m ∧ At0 P E e (sz2 e a + 1 + sz1 e b + 1) c := h
    have y1 : At2 P2 E2 e 0 a := At2_mono he a 0 (fun j c bh j0 j1 => hP j c bh j0 (by omega) (by omega)) h2 (fun j j0 j1 => hE j j0 (by omega)) x1
    have y4 : At1 P2 E2 e (sz2 e a + 1) b := At1_mono he b _ (fun j c bh j0 j1 => hP j c bh (by omega) (by omega) (by omega)) h2 (fun j j0 j1 => hE j (by omega) (by omega)) x4
    have y7 : At0 P2 E2 e (sz2 e a + 1 + sz1 e b + 1) c := At0_mono he c _ (fun j c bh j0 j1 => hP j c bh (by omega) (by omega) (by omega)) h2 (fun j j0 j1 => hE j (by omega) (by omega)) x7
    refine ⟨y1, ⟨⟨bh, hP _ _ _ (by omega) (by omega) (by omega) x2⟩, x3⟩, (AtL_app b [.inr (m, c)] _).mpr ⟨y4, ⟨?_, x6⟩, y7, hE2, trivial⟩⟩
    show P2 (sz2 e a + 1 + sz1 e b) (8, [], m) (sz2 e a + 1 + sz1 e b + e + sz0 e c)
    rw [show sz2 e a + 1 + sz1 e b + e + sz0 e c = sz2 e a + 1 + sz1 e b + 1 + sz0 e c + (e - 1) by omega]
    exact hO _ _ x5
end
/-! what a command does -/
abbrev St3 : Type := S3 × Int
noncomputable def doC (c : Cm) (s : S3) : Bool × S3 :=
  if c.1 = 0 then (if cnN s.1 c.2.1 = -1 then (false, s) else if 0 ≤ c.2.2 ∧ c.2.2 ≤ s.1.1 then (true, ((s.1.1, s.1.2.1, updP s.1.2.2.1 (cnN s.1 c.2.1) c.2.2, s.1.2.2.2), bmp 0 s.2.1, s.2.2)) else (false, s))
  else if c.1 = 1 then (if 0 ≤ c.2.2 ∧ c.2.2 ≤ s.1.1 + 1 then (decide (s.1.1 < 11 ∧ c.2.1 ≠ [] ∧ cnN s.1 c.2.1 = -1), (if s.1.1 < 11 then (if c.2.1 ≠ [] ∧ cnN s.1 c.2.1 = -1 then (comR s.1 c.2.1 c.2.2, bmp 2 (bmp 0 s.2.1), s.2.2) else (s.1, bmp 1 s.2.1, 2)) else (s.1, bmp 1 s.2.1, 1))) else (false, s))
  else if c.1 = 2 then (if cnN s.1 c.2.1 = -1 then (false, s) else (decide (cnN s.1 c.2.1 + 1 < s.1.1), (if cnN s.1 c.2.1 + 1 < s.1.1 then (swR s.1 (cnN s.1 c.2.1) (cnN s.1 c.2.1 + 1), bmp 0 s.2.1, s.2.2) else (s.1, bmp 1 s.2.1, 3))))
  else if c.1 = 3 then (if cnN s.1 c.2.1 = -1 then (false, s) else @ite _ (gB s.1.1 s.1.2.2.1 (cnN s.1 c.2.1)) (Classical.propDecidable _) (false, (s.1, bmp 1 s.2.1, 4)) (true, (goR s.1 (cnN s.1 c.2.1), bmp 3 (bmp 0 s.2.1), s.2.2)))
  else if c.1 = 4 then (if 0 ≤ c.2.2 ∧ c.2.2 ≤ 99 then (true, ((s.1.1, s.1.2.1, tuF s.1.1 c.2.2 s.1.2.2.1 s.1.1, s.1.2.2.2), bmp 0 s.2.1, s.2.2)) else (false, s))
  else if c.1 = 5 then (if 0 ≤ c.2.2 ∧ c.2.2 ≤ 5 then (true, ((s.1.1, c.2.2, s.1.2.2.1, s.1.2.2.2), bmp 0 s.2.1, s.2.2)) else (false, s))
  else if c.1 = 6 then (true, (srR s.1 s.1.1, bmp 0 s.2.1, s.2.2))
  else (true, (rvR s.1 (s.1.1 / 2), bmp 0 s.2.1, s.2.2))
/-- a command that can be read -/
def CmOk (c : Cm) : Prop := c.1 ≤ 8 ∧ NmZ c.2.1 ∧ (c.1 ≤ 3 → NmOk c.2.1) ∧ 0 ≤ c.2.2 ∧ c.2.2 ≤ 999
theorem doC_ok {c : Cm} {s : S3} (hc : CmOk c) (hok : RwOk s.1) : RwOk (doC c s).2.1 := by
  obtain ⟨R, a, rf⟩ := s
  replace hok : RwOk R := hok
  have ho := hok.1
  have hn := cnN_in (R := R) (k := c.2.1) ho.1
  unfold doC
  show RwOk (if c.1 = 0 then (if cnN R c.2.1 = -1 then (false, (R, a, rf)) else if 0 ≤ c.2.2 ∧ c.2.2 ≤ R.1 then (true, ((R.1, R.2.1, updP R.2.2.1 (cnN R c.2.1) c.2.2, R.2.2.2), bmp 0 a, rf)) else (false, (R, a, rf))) else _ : Bool × S3).2.1
  split
  · split
    · exact hok
    · split
      · rename_i _ _ q
        exact ⟨upd_ok ho q.1 q.2, hok.2⟩
      · exact hok
  split
  · rename_i q1
    split
    · rename_i q
      show RwOk (if R.1 < 11 then (if c.2.1 ≠ [] ∧ cnN R c.2.1 = -1 then (comR R c.2.1 c.2.2, bmp 2 (bmp 0 a), rf) else (R, bmp 1 a, 2)) else (R, bmp 1 a, 1) : S3).1
      split
      · rename_i q2
        split
        · exact comR_ok hok q2 (hc.2.2.1 (by omega)) q.1 q.2
        · exact hok
      · exact hok
    · exact hok
  split
  · split
    · exact hok
    · rename_i q2
      show RwOk (if cnN R c.2.1 + 1 < R.1 then (swR R (cnN R c.2.1) (cnN R c.2.1 + 1), bmp 0 a, rf) else (R, bmp 1 a, 3) : S3).1
      split
      · rename_i q3
        replace q2 : ¬ cnN R c.2.1 = -1 := q2
        exact swf_ok hok (by omega) (by omega) (by omega) q3
      · exact hok
  split
  · split
    · exact hok
    · rename_i q2
      replace q2 : ¬ cnN R c.2.1 = -1 := q2
      show RwOk (@ite _ (gB R.1 R.2.2.1 (cnN R c.2.1)) (Classical.propDecidable _) (false, (R, bmp 1 a, 4)) (true, (goR R (cnN R c.2.1), bmp 3 (bmp 0 a), rf)) : Bool × S3).2.1
      by_cases q3 : gB R.1 R.2.2.1 (cnN R c.2.1)
      · rw [if_pos q3]; exact hok
      · rw [if_neg q3]; exact goR_ok hok (by omega) (by omega) q3
  split
  · split
    · exact ⟨tuF_ok ho, hok.2⟩
    · exact hok
  split
  · split
    · rename_i q
      exact ⟨⟨ho.1, ho.2.1, q.1, q.2, ho.2.2.2.2⟩, hok.2⟩
    · exact hok
  split
  · exact srR_ok hok ho.1 (Int.le_refl _)
  · exact (rvR_ok hok (by have := ho.1; show 0 ≤ R.1 / 2; omega) (by show 2 * (R.1 / 2) ≤ R.1; omega)).1
/-! what a body does -/
def repN {σ : Type} (g : σ → Bool × σ) : Nat → σ → Bool × σ
  | 0, s => (true, s)
  | k + 1, s => if (g s).1 = true then repN g k (g s).2 else (false, (g s).2)
noncomputable def exL {ρ : Type} (g : ρ → St3 → Bool × St3) : Bd ρ → St3 → Bool × St3
  | [], s => (true, s)
  | .inl c :: r, s => if 40 ≤ s.2 then (false, s) else if (doC c s.1).1 = true then exL g r ((doC c s.1).2, s.2 + 1) else (false, ((doC c s.1).2, s.2))
  | .inr (n, b) :: r, s => if (repN (g b) n.toNat s).1 = true then exL g r (repN (g b) n.toNat s).2 else (false, (repN (g b) n.toNat s).2)
noncomputable def ex0 : B0 → St3 → Bool × St3 := exL (fun (x : Empty) s => nomatch x)
noncomputable def ex1 : B1 → St3 → Bool × St3 := exL ex0
noncomputable def ex2 : B2 → St3 → Bool × St3 := exL ex1
