/-! NAMES -/
theorem eM_nil : eM [] = 0 := rfl
theorem eM_snoc (ls : List Nat) (l : Nat) : eM (ls ++ [l]) = eM ls * 32 + l := by
  unfold eM
  rw [List.foldl_append]
  rfl
theorem list_snoc (ls : List Nat) : ls = [] ∨ ∃ (a : List Nat) (l : Nat), ls = a ++ [l] := by
  rcases List.eq_nil_or_concat ls with h | ⟨a, l, h⟩
  · exact Or.inl h
  · exact Or.inr ⟨a, l, by rw [h, List.concat_eq_append]⟩
/-- letters alone -/
def Lt (ls : List Nat) : Prop := ∀ l ∈ ls, 1 ≤ l ∧ l ≤ 26
theorem Lt.l {a : List Nat} {l : Nat} (h : Lt (a ++ [l])) : Lt a ∧ 1 ≤ l ∧ l ≤ 26 := ⟨fun x hx => h x (List.mem_append_left _ hx), h l (List.mem_append_right _ (List.mem_singleton.mpr rfl))⟩
theorem eM_b : ∀ (k : Nat) (ls : List Nat), ls.length = k → Lt ls → 0 ≤ eM ls ∧ eM ls < 32 ^ k ∧ (0 < k → 1 ≤ eM ls) := by
  intro k
  induction k with
  | zero =>
    intro ls hl _
    rw [List.length_eq_zero_iff.mp hl]
    exact ⟨by decide, by decide, fun h => absurd h (by decide)⟩
  | succ k ih =>
    intro ls hl hL
    rcases list_snoc ls with rfl | ⟨a, l, rfl⟩
    · cases hl
    · obtain ⟨hA, l1, l2⟩ := hL.l
      rw [List.length_append] at hl
      obtain ⟨b1, b2, -⟩ := ih a (by simpa using hl) hA
      rw [eM_snoc, Int.pow_succ]
      refine ⟨by omega, by omega, fun _ => by omega⟩
theorem eM_inj : ∀ (a b : List Nat), Lt a → Lt b → eM a = eM b → a = b := by
  have key : ∀ (k : Nat) (a b : List Nat), a.length = k → Lt a → Lt b → eM a = eM b → a = b := by
    intro k
    induction k with
    | zero =>
      intro a b hk ha hb he
      rw [List.length_eq_zero_iff.mp hk] at he ⊢
      rcases Nat.eq_zero_or_pos b.length with h | h
      · exact (List.length_eq_zero_iff.mp h).symm
      · have := (eM_b _ b rfl hb).2.2 h
        rw [eM_nil] at he
        omega
    | succ k ih =>
      intro a b hk ha hb he
      rcases list_snoc a with rfl | ⟨a, l, rfl⟩
      · cases hk
      · rcases list_snoc b with rfl | ⟨b, m, rfl⟩
        · have := (eM_b _ _ rfl ha).2.2 (by rw [List.length_append]; simp)
          rw [eM_nil] at he
          omega
        · obtain ⟨hA, l1, l2⟩ := ha.l
          obtain ⟨hB, m1, m2⟩ := hb.l
          rw [eM_snoc, eM_snoc] at he
          have e1 : (l : Int) = m := by omega
          have e2 : eM a = eM b := by omega
          rw [List.length_append] at hk
          rw [ih a b (by simpa using hk) hA hB e2, show l = m by omega]
  exact fun a b => key _ a b rfl
theorem NmOk.lt {ls : List Nat} (h : NmOk ls) : Lt ls := h.2.2
theorem p32_pos (k : Nat) : (0 : Int) < 32 ^ k := Int.pow_pos (by decide)
theorem eM_le {ls : List Nat} (h : NmOk ls) : 1 ≤ eM ls ∧ eM ls < 1099511627776 := by
  obtain ⟨h1, h2, h3⟩ := eM_b _ ls rfl h.lt
  have : ls.length = 1 ∨ ls.length = 2 ∨ ls.length = 3 ∨ ls.length = 4 ∨ ls.length = 5 ∨ ls.length = 6 ∨ ls.length = 7 ∨ ls.length = 8 := by have := h.1; have := h.2.1; omega
  have := h.1
  refine ⟨h3 (by omega), ?_⟩
  rcases ‹ls.length = 1 ∨ _› with e | e | e | e | e | e | e | e <;> rw [e] at h2 <;> omega
theorem eC_le {ls : List Nat} (h : NmOk ls) : 1 ≤ eC ls ∧ eC ls < 1099511627776 := by
  obtain ⟨h1, h2, h3⟩ := eM_b _ ls rfl h.lt
  have h4 := h3 (by have := h.1; omega)
  have : ls.length = 1 ∨ ls.length = 2 ∨ ls.length = 3 ∨ ls.length = 4 ∨ ls.length = 5 ∨ ls.length = 6 ∨ ls.length = 7 ∨ ls.length = 8 := by have := h.1; have := h.2.1; omega
  unfold eC
  rcases this with e | e | e | e | e | e | e | e <;> rw [e] at h2 ⊢ <;> omega
/-- the last letter is none of the places -/
theorem eM_mod {ls : List Nat} (h : NmOk ls) : eM ls % 32 ≠ 0 := by
  rcases list_snoc ls with rfl | ⟨a, l, rfl⟩
  · exact absurd h.1 (by decide)
  · obtain ⟨hA, l1, l2⟩ := h.lt.l
    rw [eM_snoc]
    omega
theorem eC_inj {a b : List Nat} (ha : NmOk a) (hb : NmOk b) (he : eC a = eC b) : a = b := by
  have la := ha.1
  have la8 := ha.2.1
  have lb := hb.1
  have lb8 := hb.2.1
  have key : ∀ (x y : List Nat), NmOk x → NmOk y → eC x = eC y → ¬ x.length < y.length := by
    intro x y hx hy he hl
    have hy8 := hy.2.1
    unfold eC at he
    obtain ⟨d, hd⟩ : ∃ d, y.length = x.length + 1 + d := ⟨y.length - x.length - 1, by omega⟩
    have e1 : 8 - x.length = (8 - y.length) + 1 + d := by omega
    rw [e1, Int.pow_add, Int.pow_succ] at he
    have hp := p32_pos (8 - y.length)
    have e2 : eM x * (32 ^ (8 - y.length) * 32 * 32 ^ d) = (eM x * 32 ^ d * 32) * 32 ^ (8 - y.length) := by
      rw [Int.mul_assoc (32 ^ (8 - y.length)), Int.mul_comm (32 ^ (8 - y.length)), ← Int.mul_assoc, Int.mul_comm 32 (32 ^ d), ← Int.mul_assoc]
    rw [e2] at he
    have e3 := Int.eq_of_mul_eq_mul_right (by omega : (32 : Int) ^ (8 - y.length) ≠ 0) he
    have := eM_mod hy
    omega
  have hl : a.length = b.length := by
    have h1 := key a b ha hb he
    have h2 := key b a hb ha he.symm
    omega
  unfold eC at he
  rw [hl] at he
  exact eM_inj a b ha.lt hb.lt (Int.eq_of_mul_eq_mul_right (by have := p32_pos (8 - b.length); omega) he)
/-- a name of a command or of a text: letters, or none -/
def NmZ (ls : List Nat) : Prop := ls = [] ∨ NmOk ls
theorem eC_eq {a b : List Nat} (ha : NmOk a) (hb : NmZ b) : eC a = eC b ↔ a = b := by
  constructor
  · intro e
    rcases hb with rfl | hb
    · have := eC_le ha
      rw [e] at this
      exact absurd this.1 (by decide)
    · exact eC_inj ha hb e
  · intro e; rw [e]
theorem eM_eq {a b : List Nat} (ha : NmOk a) (hb : NmZ b) : eM a = eM b ↔ a = b := by
  constructor
  · intro e
    rcases hb with rfl | hb
    · have := eM_le ha
      rw [e] at this
      exact absurd this.1 (by decide)
    · exact eM_inj a b ha.lt hb.lt e
  · intro e; rw [e]
theorem eC_z {b : List Nat} (hb : NmZ b) : 0 ≤ eC b ∧ eC b < 1099511627776 ∧ (eC b = 0 ↔ b = []) := by
  rcases hb with rfl | hb
  · exact ⟨by decide, by decide, fun _ => rfl, fun _ => rfl⟩
  · have := eC_le hb
    exact ⟨by omega, by omega, fun e => by omega, fun e => by rw [e] at hb; exact absurd hb.1 (by decide)⟩
theorem eM_z {b : List Nat} (hb : NmZ b) : 0 ≤ eM b ∧ eM b < 1099511627776 ∧ (eM b = 0 ↔ b = []) := by
  rcases hb with rfl | hb
  · exact ⟨by decide, by decide, fun _ => rfl, fun _ => rfl⟩
  · have := eM_le hb
    exact ⟨by omega, by omega, fun e => by omega, fun e => by rw [e] at hb; exact absurd hb.1 (by decide)⟩
/-- the car with a name; -1 if none has it -/
def cnN (R : Row) (k : List Nat) : Int := fcar (fun c => decide (R.2.2.2 c = k)) R.1
theorem cnN_in {R : Row} {k : List Nat} (hn : 0 ≤ R.1) : -1 ≤ cnN R k ∧ cnN R k < R.1 ∨ cnN R k = -1 := by
  have := fnd_ge (fun c => decide (R.2.2.2 c = k)) R.1.toNat 0
  unfold cnN fcar
  split
  · left; omega
  · right; rfl
theorem x2_nameOf {h : HD} {o : Nat} {R : Row} {z : Int} (hC : RwC h o R) (hn : 0 ≤ R.1 ∧ R.1 ≤ 11) (h1 : 0 ≤ z) (h2 : z < R.1) : jX2_nameOf o (iZ z) h = some (jZ (eC (R.2.2.2 z))) := by
  unfold jX2_nameOf
  rw [x2_hasCar hC.1.1 hn (by omega) (by omega), decide_eq_true ⟨h1, h2⟩, if_pos rfl, inB_t (by omega) (by omega) (by omega), if_pos rfl, iZ_nat (by omega) (by omega), hC.2 z h1 h2]
theorem x2_carNamed {h : HD} {o : Nat} {R : Row} {k : List Nat} (hC : RwC h o R) (hok : RwOk R) (hk : NmZ k) : jX2_carNamed o (jZ (eC k)) h = some (iZ (cnN R k)) := by
  have hn : 0 ≤ R.1 ∧ R.1 ≤ 11 := ⟨hok.1.1, hok.1.2.1⟩
  obtain ⟨g, hg⟩ : ∃ g, fnd (fun c => decide (R.2.2.2 c = k)) R.1.toNat 0 = g := ⟨_, rfl⟩
  have g1 := fnd_ge (fun c => decide (R.2.2.2 c = k)) R.1.toNat 0
  have g2 : ∀ z, 0 ≤ z → z < g → ¬ R.2.2.2 z = k := fun z q1 q2 => of_decide_eq_false (fnd_not (fun c => decide (R.2.2.2 c = k)) R.1.toNat 0 z q1 (by omega))
  have g3 : g < R.1 → R.2.2.2 g = k := fun q => by
    have := fnd_is (fun c => decide (R.2.2.2 c = k)) R.1.toNat 0 (by omega)
    rw [hg] at this
    exact of_decide_eq_true this
  have hcmp : ∀ z, 0 ≤ z → z < R.1 → (lg_cmp (jZ (eC (R.2.2.2 z))) (jZ (eC k)) = 0 ↔ R.2.2.2 z = k) := fun z q1 q2 => by
    have a1 := eC_le (hok.2 z q1 q2)
    have a2 := eC_z hk
    rw [lg_eq0, jZ_eq (by omega) (by omega) (by omega) (by omega)]
    exact eC_eq (hok.2 z q1 q2) hk
  unfold jX2_carNamed cnN fcar
  rw [hg, i0]
  refine loopN (fun f (x : Int32) => jX2_carNamed_L2 o (jZ (eC k)) h f x) iZ (a := 0) (b := g) (by omega) (fun f z q1 q2 => ?_) (fun f => ?_) FU (FU_gt (by omega))
  · show jX2_carNamed_L2 o (jZ (eC k)) h (f + 1) (iZ z) = _
    rw [jX2_carNamed_L2, hC.1.1, if_neg (le_n (by omega) (by omega) (by omega)), x2_nameOf hC hn q1 (by omega), Option.bind_some, if_neg (fun e => g2 z q1 q2 ((hcmp z q1 (by omega)).mp e)), i1, iZ_add]
  · show jX2_carNamed_L2 o (jZ (eC k)) h (f + 1) (iZ g) = _
    rw [jX2_carNamed_L2, hC.1.1]
    by_cases q : g < R.1
    · rw [if_neg (le_n (by omega) (by omega) (by omega)), x2_nameOf hC hn (by omega) q, Option.bind_some, if_pos ((hcmp g (by omega) q).mpr (g3 q)), if_pos q]
    · rw [if_pos (le_y (by omega) (by omega) (by omega)), if_neg q, im1]
theorem x9_carNamed {h : HD} {R : Row} {k : List Nat} (hM : RwM h (7, 0, 2) (7, 0, 7) 0 0 R) (hok : RwOk R) (hk : NmZ k) : jX9_carNamed (jZ (eM k)) h = some (iZ (cnN R k)) := by
  have hn : 0 ≤ R.1 ∧ R.1 ≤ 11 := ⟨hok.1.1, hok.1.2.1⟩
  obtain ⟨g, hg⟩ : ∃ g, fnd (fun c => decide (R.2.2.2 c = k)) R.1.toNat 0 = g := ⟨_, rfl⟩
  have g1 := fnd_ge (fun c => decide (R.2.2.2 c = k)) R.1.toNat 0
  have g2 : ∀ z, 0 ≤ z → z < g → ¬ R.2.2.2 z = k := fun z q1 q2 => of_decide_eq_false (fnd_not (fun c => decide (R.2.2.2 c = k)) R.1.toNat 0 z q1 (by omega))
  have g3 : g < R.1 → R.2.2.2 g = k := fun q => by
    have := fnd_is (fun c => decide (R.2.2.2 c = k)) R.1.toNat 0 (by omega)
    rw [hg] at this
    exact of_decide_eq_true this
  have n4 : ∀ z : Int, 0 ≤ z → z < R.1 → gJ h (7, 0, 7) z.toNat = jZ (eM (R.2.2.2 z)) := fun z q1 q2 => by
    have := hM.2.2.2 z q1 q2
    rwa [Int.zero_add] at this
  have hcmp : ∀ z, 0 ≤ z → z < R.1 → (lg_cmp (jZ (eM (R.2.2.2 z))) (jZ (eM k)) = 0 ↔ R.2.2.2 z = k) := fun z q1 q2 => by
    have a1 := eM_le (hok.2 z q1 q2)
    have a2 := eM_z hk
    rw [lg_eq0, jZ_eq (by omega) (by omega) (by omega) (by omega)]
    exact eM_eq (hok.2 z q1 q2) hk
  have h0 : gI h (7, 0, 2) 0 = iZ R.1 := hM.pr.1
  unfold jX9_carNamed cnN fcar
  rw [hg, i0]
  refine loopN (fun f (x : Int32) => jX9_carNamed_L2 (jZ (eM k)) h f x) iZ (a := 0) (b := g) (by omega) (fun f z q1 q2 => ?_) (fun f => ?_) FU (FU_gt (by omega))
  · show jX9_carNamed_L2 (jZ (eM k)) h (f + 1) (iZ z) = _
    rw [jX9_carNamed_L2, h0, if_neg (le_n (by omega) (by omega) (by omega)), inB_t (by omega) (by omega) (by omega), if_pos rfl, iZ_nat (by omega) (by omega), n4 z q1 (by omega), if_neg (fun e => g2 z q1 q2 ((hcmp z q1 (by omega)).mp e)), i1, iZ_add]
  · show jX9_carNamed_L2 (jZ (eM k)) h (f + 1) (iZ g) = _
    rw [jX9_carNamed_L2, h0]
    by_cases q : g < R.1
    · rw [if_neg (le_n (by omega) (by omega) (by omega)), inB_t (by omega) (by omega) (by omega), if_pos rfl, iZ_nat (by omega) (by omega), n4 g (by omega) q, if_pos ((hcmp g (by omega) q).mpr (g3 q)), if_pos q]
    · rw [if_pos (le_y (by omega) (by omega) (by omega)), if_neg q, im1]
