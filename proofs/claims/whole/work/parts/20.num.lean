/-! NUMBERS: whole numbers as ints and longs; folds; loops; cells and frames -/
def iZ (z : Int) : Int32 := Int32.ofInt z
def jZ (z : Int) : Int64 := Int64.ofInt z
theorem iZ_toInt {z : Int} (h1 : -2147483648 ≤ z) (h2 : z < 2147483648) : (iZ z).toInt = z := Int32.toInt_ofInt_of_le (by omega) (by omega)
theorem jZ_toInt {z : Int} (h1 : -9223372036854775808 ≤ z) (h2 : z < 9223372036854775808) : (jZ z).toInt = z := Int64.toInt_ofInt_of_le (by omega) (by omega)
theorem iZ_self (x : Int32) : iZ x.toInt = x := Int32.ofInt_toInt x
theorem jZ_self (x : Int64) : jZ x.toInt = x := Int64.ofInt_toInt x
theorem iZ_ex (x : Int32) : ∃ z : Int, -2147483648 ≤ z ∧ z < 2147483648 ∧ x = iZ z := ⟨x.toInt, by have := Int32.le_toInt x; omega, by have := Int32.toInt_lt x; omega, (iZ_self x).symm⟩
theorem iZ_add (a b : Int) : iZ a + iZ b = iZ (a + b) := (Int32.ofInt_add a b).symm
theorem iZ_sub (a b : Int) : iZ a - iZ b = iZ (a - b) := (Int32.ofInt_sub a b).symm
theorem iZ_mul (a b : Int) : iZ a * iZ b = iZ (a * b) := (Int32.ofInt_mul a b).symm
theorem iZ_neg (a : Int) : -iZ a = iZ (-a) := (Int32.ofInt_neg a).symm
theorem jZ_add (a b : Int) : jZ a + jZ b = jZ (a + b) := (Int64.ofInt_add a b).symm
theorem jZ_sub (a b : Int) : jZ a - jZ b = jZ (a - b) := (Int64.ofInt_sub a b).symm
theorem jZ_mul (a b : Int) : jZ a * jZ b = jZ (a * b) := (Int64.ofInt_mul a b).symm
theorem iZ_lt {a b : Int} (h1 : -2147483648 ≤ a) (h2 : a < 2147483648) (h3 : -2147483648 ≤ b) (h4 : b < 2147483648) : (iZ a < iZ b) = (a < b) := by
  rw [Int32.lt_iff_toInt_lt, iZ_toInt h1 h2, iZ_toInt h3 h4]
theorem iZ_le {a b : Int} (h1 : -2147483648 ≤ a) (h2 : a < 2147483648) (h3 : -2147483648 ≤ b) (h4 : b < 2147483648) : (iZ a ≤ iZ b) = (a ≤ b) := by
  rw [Int32.le_iff_toInt_le, iZ_toInt h1 h2, iZ_toInt h3 h4]
theorem iZ_eq {a b : Int} (h1 : -2147483648 ≤ a) (h2 : a < 2147483648) (h3 : -2147483648 ≤ b) (h4 : b < 2147483648) : (iZ a = iZ b) = (a = b) := by
  rw [← Int32.toInt_inj, iZ_toInt h1 h2, iZ_toInt h3 h4]
theorem iZ_lt_t {a b : Int} (h0 : a < b) (h1 : -2147483648 ≤ a) (h4 : b < 2147483648) : (iZ a < iZ b) = True := by
  rw [iZ_lt h1 (by omega) (by omega) h4]; exact eq_true h0
theorem iZ_lt_f {a b : Int} (h0 : b ≤ a) (h3 : -2147483648 ≤ b) (h2 : a < 2147483648) : (iZ a < iZ b) = False := by
  rw [iZ_lt (by omega) h2 h3 (by omega)]; exact eq_false (by omega)
theorem iZ_le_t {a b : Int} (h0 : a ≤ b) (h1 : -2147483648 ≤ a) (h4 : b < 2147483648) : (iZ a ≤ iZ b) = True := by
  rw [iZ_le h1 (by omega) (by omega) h4]; exact eq_true h0
theorem iZ_le_f {a b : Int} (h0 : b < a) (h3 : -2147483648 ≤ b) (h2 : a < 2147483648) : (iZ a ≤ iZ b) = False := by
  rw [iZ_le (by omega) h2 h3 (by omega)]; exact eq_false (by omega)
theorem iZ_eq_t {a b : Int} (h0 : a = b) : (iZ a = iZ b) = True := by rw [h0]; exact eq_true rfl
theorem iZ_eq_f {a b : Int} (h0 : a < b ∨ b < a) (h1 : -2147483648 ≤ a) (h2 : a < 2147483648) (h3 : -2147483648 ≤ b) (h4 : b < 2147483648) : (iZ a = iZ b) = False := by
  rw [iZ_eq h1 h2 h3 h4]; exact eq_false (by omega)
theorem le_y {a b : Int} (h0 : a ≤ b) (h1 : -2147483648 ≤ a) (h4 : b < 2147483648) : iZ a ≤ iZ b := of_eq_true (iZ_le_t h0 h1 h4)
theorem le_n {a b : Int} (h0 : b < a) (h1 : -2147483648 ≤ b) (h4 : a < 2147483648) : ¬ iZ a ≤ iZ b := of_eq_false (iZ_le_f h0 h1 h4)
theorem lt_y {a b : Int} (h0 : a < b) (h1 : -2147483648 ≤ a) (h4 : b < 2147483648) : iZ a < iZ b := of_eq_true (iZ_lt_t h0 h1 h4)
theorem lt_n {a b : Int} (h0 : b ≤ a) (h1 : -2147483648 ≤ b) (h4 : a < 2147483648) : ¬ iZ a < iZ b := of_eq_false (iZ_lt_f h0 h1 h4)
theorem eq_n {a b : Int} (h0 : a < b ∨ b < a) (h1 : -2147483648 ≤ a) (h2 : a < 2147483648) (h3 : -2147483648 ≤ b) (h4 : b < 2147483648) : ¬ iZ a = iZ b := of_eq_false (iZ_eq_f h0 h1 h2 h3 h4)
theorem jZ_lt {a b : Int} (h1 : -9223372036854775808 ≤ a) (h2 : a < 9223372036854775808) (h3 : -9223372036854775808 ≤ b) (h4 : b < 9223372036854775808) : (jZ a < jZ b) = (a < b) := by
  rw [Int64.lt_iff_toInt_lt, jZ_toInt h1 h2, jZ_toInt h3 h4]
theorem jZ_le {a b : Int} (h1 : -9223372036854775808 ≤ a) (h2 : a < 9223372036854775808) (h3 : -9223372036854775808 ≤ b) (h4 : b < 9223372036854775808) : (jZ a ≤ jZ b) = (a ≤ b) := by
  rw [Int64.le_iff_toInt_le, jZ_toInt h1 h2, jZ_toInt h3 h4]
theorem jZ_eq {a b : Int} (h1 : -9223372036854775808 ≤ a) (h2 : a < 9223372036854775808) (h3 : -9223372036854775808 ≤ b) (h4 : b < 9223372036854775808) : (jZ a = jZ b) = (a = b) := by
  rw [← Int64.toInt_inj, jZ_toInt h1 h2, jZ_toInt h3 h4]
theorem iZ_nat {z : Int} (h1 : 0 ≤ z) (h2 : z < 2147483648) : (iZ z).toNatClampNeg = z.toNat := by
  show (iZ z).toInt.toNat = _
  rw [iZ_toInt (by omega) h2]
theorem iZ_inB {z : Int} {n : Nat} (h1 : -2147483648 ≤ z) (h2 : z < 2147483648) : inB (iZ z) n = decide (0 ≤ z ∧ z < n) := by
  have e : (iZ z).toNatClampNeg = z.toNat := by
    show (iZ z).toInt.toNat = _
    rw [iZ_toInt h1 h2]
  unfold inB
  have e0 : decide (iZ z < 0) = decide (z < 0) := by simp only [show (iZ z < 0) = (z < 0) from iZ_lt (b := 0) h1 h2 (by decide) (by decide)]
  rw [e, e0]
  by_cases h : 0 ≤ z ∧ z < n
  · rw [decide_eq_true h, decide_eq_false (by omega), decide_eq_true (by omega)]; rfl
  · rw [decide_eq_false h]
    by_cases h3 : z < 0
    · rw [decide_eq_true h3]; rfl
    · rw [decide_eq_false h3, decide_eq_false (by omega)]; rfl
theorem inB_t {z : Int} {n : Nat} (h1 : 0 ≤ z) (h2 : z < n) (h3 : z < 2147483648) : inB (iZ z) n = true := by
  rw [iZ_inB (by omega) h3]; exact decide_eq_true ⟨h1, h2⟩
theorem iZ_j {z : Int} (h1 : -2147483648 ≤ z) (h2 : z < 2147483648) : (iZ z).toInt64 = jZ z := by
  apply Int64.toInt_inj.mp
  rw [Int32.toInt_toInt64, iZ_toInt h1 h2, jZ_toInt (by omega) (by omega)]
theorem iZ_ofNat (n : Nat) : Int32.ofNat n = iZ n := Int32.ofInt_eq_ofNat.symm
theorem iZ_div {a b : Int} (h1 : 0 ≤ a) (h2 : a < 2147483648) (h3 : 0 < b) (h4 : b < 2147483648) : iZ a / iZ b = iZ (a / b) := by
  apply Int32.toInt_inj.mp
  have h5 : 0 ≤ a / b := Int.ediv_nonneg h1 (by omega)
  have h6 : a / b ≤ a := Int.ediv_le_self b h1
  rw [Int32.toInt_div_of_ne_right _ _ (fun e => by
    have := congrArg Int32.toInt e
    rw [iZ_toInt (by omega) h4] at this
    rw [this] at h3
    exact absurd h3 (by decide)), iZ_toInt (by omega) h2, iZ_toInt (by omega) h4, iZ_toInt (by omega) (by omega), Int.tdiv_eq_ediv_of_nonneg h1]
/-- the machine's rest of a division -/
theorem iZ_irem {a b : Int} (h1 : -2147483648 ≤ a) (h2 : a < 2147483648) (h3 : 0 < b) (h4 : b < 2147483648) : iZ a - iZ a / iZ b * iZ b = iZ (a.tmod b) := by
  have hne : iZ b ≠ -1 := fun e => by
    have := congrArg Int32.toInt e
    rw [iZ_toInt (by omega) h4] at this
    rw [this] at h3
    exact absurd h3 (by decide)
  have e1 : iZ a / iZ b = iZ (a.tdiv b) := by
    rw [← iZ_self (iZ a / iZ b), Int32.toInt_div_of_ne_right _ _ hne, iZ_toInt h1 h2, iZ_toInt (by omega) h4]
  rw [e1, iZ_mul, iZ_sub, Int.tmod_def, Int.mul_comm b]
theorem tmod_cases {a b : Int} (hb : 0 < b) : a.tmod b = if 0 ≤ a then a % b else if a % b = 0 then 0 else a % b - b := by
  by_cases ha : 0 ≤ a
  · rw [if_pos ha, Int.tmod_eq_emod_of_nonneg ha]
  · rw [if_neg ha]
    have e : a.tmod b = -((-a) % b) := by
      rw [← Int.tmod_eq_emod_of_nonneg (a := -a) (by omega), Int.neg_tmod, Int.neg_neg]
    have h1 := Int.emod_nonneg (-a) (show b ≠ 0 by omega)
    have h2 := Int.emod_lt_of_pos (-a) hb
    have h3 := Int.emod_add_mul_ediv (-a) b
    generalize (-a) % b = r at *
    generalize (-a) / b = q at *
    have ea : a = -r + b * (-q) := by rw [Int.mul_neg]; omega
    have e2 : a % b = (-r) % b := by rw [ea, Int.add_mul_emod_self_left]
    by_cases hr : r = 0
    · have : a % b = 0 := by rw [e2, hr]; exact Int.zero_emod b
      rw [if_pos this, e, hr]; rfl
    · have : a % b = b - r := by
        rw [e2, ← Int.add_mul_emod_self_left (-r) b 1, Int.mul_one]
        rw [show -r + b = b - r by omega]
        exact Int.emod_eq_of_lt (by omega) (by omega)
      rw [if_neg (by omega), e, this]; omega
theorem iZ_xor {a b : Int} (h1 : -2147483648 ≤ a) (h2 : a < 2147483648) (h3 : 0 < b) (h4 : b < 2147483648) : (0 ≤ iZ a ^^^ iZ b) = (0 ≤ a) := by
  have k1 : (iZ a).toBitVec.msb = decide (a < 0) := by
    rw [BitVec.msb_eq_toInt]
    show decide ((iZ a).toInt < 0) = _
    rw [iZ_toInt h1 h2]
  have k2 : (iZ b).toBitVec.msb = false := by
    rw [BitVec.msb_eq_toInt]
    show decide ((iZ b).toInt < 0) = _
    rw [iZ_toInt (by omega) h4]
    exact decide_eq_false (by omega)
  have k3 : decide ((iZ a ^^^ iZ b).toInt < 0) = decide (a < 0) := by
    rw [← k1]
    show decide ((iZ a ^^^ iZ b).toBitVec.toInt < 0) = _
    rw [← BitVec.msb_eq_toInt]
    show ((iZ a).toBitVec ^^^ (iZ b).toBitVec).msb = _
    rw [BitVec.msb_xor, k2, Bool.xor_false]
  rw [Int32.le_iff_toInt_le]
  have k4 : ((iZ a ^^^ iZ b).toInt < 0) ↔ (a < 0) := by
    constructor
    · intro q; rw [decide_eq_true q] at k3; exact of_decide_eq_true k3.symm
    · intro q; rw [decide_eq_true q] at k3; exact of_decide_eq_true k3
  show ((0 : Int32).toInt ≤ _) = _
  rw [show (0 : Int32).toInt = 0 from rfl]
  apply propext
  constructor
  · intro q
    rcases Int.lt_or_le a 0 with z | z
    · have := k4.mpr z; omega
    · exact z
  · intro q
    rcases Int.lt_or_le (iZ a ^^^ iZ b).toInt 0 with z | z
    · have := k4.mp z; omega
    · exact z
theorem w_floorMod {a n : Int} (h : HD) (h1 : -2147483648 ≤ a) (h2 : a < 2147483648) (h3 : 0 < n) (h4 : n < 2147483648) : jJ9_floorMod_7cf53 (iZ a) (iZ n) h = some (iZ (a % n)) := by
  have h5 := Int.emod_nonneg a (show n ≠ 0 by omega)
  have h6 := Int.emod_lt_of_pos a h3
  have en : (iZ n = 0) = False := iZ_eq_f (b := 0) (Or.inr h3) (by omega) h4 (by decide) (by decide)
  unfold jJ9_floorMod_7cf53
  simp only [iZ_irem h1 h2 h3 h4, en, if_false, iZ_xor h1 h2 h3 h4, iZ_add]
  rw [tmod_cases h3]
  by_cases ha : 0 ≤ a
  · rw [if_pos ha, if_pos ha]
  · rw [if_neg ha, if_neg ha]
    by_cases hz : a % n = 0
    · rw [if_pos hz, hz]; rfl
    · rw [if_neg hz, if_neg (fun e => by
        rw [show (0 : Int32) = iZ 0 from rfl, iZ_eq (by omega) (by omega) (by omega) (by omega)] at e
        omega)]
      rw [show a % n - n + n = a % n by omega]
theorem w_wrapped {a n : Int} (h : HD) (h1 : -2147483648 ≤ a) (h2 : a < 2147483648) (h3 : 0 < n) (h4 : n < 2147483648) : jX8_wrapped (iZ a) (iZ n) h = some (iZ (a % n)) := by
  unfold jX8_wrapped
  rw [if_pos (show (1 : Int32) ≤ iZ n by rw [show (1 : Int32) = iZ 1 from rfl, iZ_le_t (by omega) (by omega) h4]; trivial), w_floorMod h h1 h2 h3 h4]
  rfl
/-! ### loops -/
/-- a loop that goes on from a to b, its state X at each number; its end has m turns more -/
theorem loopM {σ β : Type} (m : Nat) (F : Nat → σ → β) (X : Int → σ) {a b : Int} {res : β} (hab : a ≤ b) (hs : ∀ (f : Nat) (z : Int), a ≤ z → z < b → F (f + 1) (X z) = F f (X (z + 1))) (he : ∀ f : Nat, F (f + m + 1) (X b) = res) : ∀ f : Nat, b - a + m < (f : Int) → F f (X a) = res := by
  have key : ∀ (k : Nat) (f : Nat) (z : Int), a ≤ z → z ≤ b → b - z = (k : Int) → (k : Int) + m < (f : Int) → F f (X z) = res := by
    intro k
    induction k with
    | zero =>
      intro f z h1 h2 h3 h4
      obtain ⟨g, rfl⟩ : ∃ g, f = g + m + 1 := ⟨f - m - 1, by omega⟩
      have : z = b := by omega
      subst this
      exact he g
    | succ k ih =>
      intro f z h1 h2 h3 h4
      obtain ⟨g, rfl⟩ : ∃ g, f = g + 1 := ⟨f - 1, by omega⟩
      rw [hs g z h1 (by omega)]
      exact ih g (z + 1) (by omega) (by omega) (by omega) (by omega)
  intro f hf
  exact key (b - a).toNat f a (Int.le_refl a) hab (by omega) (by omega)
theorem loopN {σ β : Type} (F : Nat → σ → β) (X : Int → σ) {a b : Int} {res : β} (hab : a ≤ b) (hs : ∀ (f : Nat) (z : Int), a ≤ z → z < b → F (f + 1) (X z) = F f (X (z + 1))) (he : ∀ f : Nat, F (f + 1) (X b) = res) : ∀ f : Nat, b - a < (f : Int) → F f (X a) = res := fun f hf => loopM 0 F X hab hs he f (by omega)
/-- a loop with an invariant -/
theorem loopI {σ β : Type} (F : Nat → σ → β) (I : Int → σ → Prop) {a b : Int} (Q : β → Prop) (hab : a ≤ b) (hs : ∀ (f : Nat) (z : Int) (x : σ), a ≤ z → z < b → I z x → ∃ y, F (f + 1) x = F f y ∧ I (z + 1) y) (he : ∀ (f : Nat) (x : σ), I b x → Q (F (f + 1) x)) : ∀ (f : Nat) (x : σ), b - a < (f : Int) → I a x → Q (F f x) := by
  have key : ∀ (k : Nat) (f : Nat) (z : Int) (x : σ), a ≤ z → z ≤ b → b - z = (k : Int) → (k : Int) < (f : Int) → I z x → Q (F f x) := by
    intro k
    induction k with
    | zero =>
      intro f z x h1 h2 h3 h4 hI
      obtain ⟨g, rfl⟩ : ∃ g, f = g + 1 := ⟨f - 1, by omega⟩
      have : z = b := by omega
      subst this
      exact he g x hI
    | succ k ih =>
      intro f z x h1 h2 h3 h4 hI
      obtain ⟨g, rfl⟩ : ∃ g, f = g + 1 := ⟨f - 1, by omega⟩
      obtain ⟨y, e, hI2⟩ := hs g z x h1 (by omega) hI
      rw [e]
      exact ih g (z + 1) y (by omega) (by omega) (by omega) (by omega) hI2
  intro f x hf hI
  exact key (b - a).toNat f a x (Int.le_refl a) hab (by omega) (by omega) hI
theorem FU_gt {z : Int} (h : z ≤ 100000) : z < ((FU : Nat) : Int) := by
  have : ((FU : Nat) : Int) = 1000000 := rfl
  omega
/-! ### folds -/
def itN {α : Type} (g : Int → α → α) (x : α) : Nat → α
  | 0 => x
  | n + 1 => g (n : Int) (itN g x n)
/-- what comes of x when 0, 1 .. z - 1 have done g -/
def itr {α : Type} (g : Int → α → α) (x : α) (z : Int) : α := itN g x z.toNat
theorem itr_0 {α : Type} (g : Int → α → α) (x : α) : itr g x 0 = x := rfl
theorem itr_s {α : Type} (g : Int → α → α) (x : α) {z : Int} (h : 0 ≤ z) : itr g x (z + 1) = g z (itr g x z) := by
  unfold itr
  rw [show (z + 1).toNat = z.toNat + 1 by omega]
  show g ((z.toNat : Nat) : Int) _ = _
  rw [show ((z.toNat : Nat) : Int) = z by omega]
theorem itr_congr {α : Type} {g g2 : Int → α → α} {x : α} {z : Int} (h : ∀ c y, 0 ≤ c → c < z → g c y = g2 c y) : itr g x z = itr g2 x z := by
  have key : ∀ n : Nat, (n : Int) ≤ z → itN g x n = itN g2 x n := by
    intro n
    induction n with
    | zero => intro _; rfl
    | succ n ih =>
      intro hn
      show g _ _ = g2 _ _
      rw [ih (by omega), h _ _ (by omega) (by omega)]
  rcases Int.lt_or_le z 0 with hz | hz
  · unfold itr
    rw [show z.toNat = 0 by omega]; rfl
  · exact key z.toNat (by omega)
/-- a sum -/
def sm_ (f : Int → Int) (z : Int) : Int := itr (fun c s => s + f c) 0 z
theorem sm_0 (f : Int → Int) : sm_ f 0 = 0 := rfl
theorem sm_s (f : Int → Int) {z : Int} (h : 0 ≤ z) : sm_ f (z + 1) = sm_ f z + f z := itr_s _ _ h
theorem sm_congr {f g : Int → Int} {z : Int} (h : ∀ c, 0 ≤ c → c < z → f c = g c) : sm_ f z = sm_ g z := itr_congr (fun c y h1 h2 => by rw [h c h1 h2])
theorem ind_Z {P : Int → Prop} {n : Int} (h0 : P 0) (hs : ∀ z, 0 ≤ z → z < n → P z → P (z + 1)) (hn : 0 ≤ n) : P n := by
  have key : ∀ k : Nat, (k : Int) ≤ n → P (k : Int) := by
    intro k
    induction k with
    | zero => intro _; exact h0
    | succ k ih => intro hk; exact hs _ (by omega) (by omega) (ih (by omega))
  have := key n.toNat (by omega)
  rwa [show ((n.toNat : Nat) : Int) = n by omega] at this
theorem sm_bound {f : Int → Int} {m : Int} {z : Int} (hz : 0 ≤ z) (h : ∀ c, 0 ≤ c → c < z → 0 ≤ f c ∧ f c ≤ m) : 0 ≤ sm_ f z ∧ sm_ f z ≤ z * m := by
  refine ind_Z (P := fun y => 0 ≤ sm_ f y ∧ sm_ f y ≤ y * m) (by rw [sm_0]; omega) (fun y h1 h2 ih => ?_) hz
  rw [sm_s f h1, Int.add_mul]
  have := h y h1 h2
  omega
theorem sm_bound2 {f : Int → Int} {m : Int} {z : Int} (hz : 0 ≤ z) (h : ∀ c, 0 ≤ c → c < z → -m ≤ f c ∧ f c ≤ m) : -(z * m) ≤ sm_ f z ∧ sm_ f z ≤ z * m := by
  refine ind_Z (P := fun y => -(y * m) ≤ sm_ f y ∧ sm_ f y ≤ y * m) (by rw [sm_0]; omega) (fun y h1 h2 ih => ?_) hz
  rw [sm_s f h1, Int.add_mul]
  have := h y h1 h2
  omega
/-- 1 or 0 -/
def b1 (b : Bool) : Int := bif b then 1 else 0
/-! ### the first number from a on, of at most k, of which P holds; a + k if of none -/
def fnd (P : Int → Bool) : Nat → Int → Int
  | 0, a => a
  | k + 1, a => bif P a then a else fnd P k (a + 1)
theorem fnd_ge (P : Int → Bool) : ∀ (k : Nat) (a : Int), a ≤ fnd P k a ∧ fnd P k a ≤ a + k := by
  intro k
  induction k with
  | zero => intro a; unfold fnd; omega
  | succ k ih =>
    intro a
    unfold fnd
    cases P a with
    | true => simp only [cond_true]; omega
    | false => simp only [cond_false]; have := ih (a + 1); omega
theorem fnd_not (P : Int → Bool) : ∀ (k : Nat) (a z : Int), a ≤ z → z < fnd P k a → P z = false := by
  intro k
  induction k with
  | zero => intro a z h1 h2; unfold fnd at h2; omega
  | succ k ih =>
    intro a z h1 h2
    unfold fnd at h2
    cases hP : P a with
    | true => rw [hP] at h2; simp only [cond_true] at h2; omega
    | false =>
      rw [hP] at h2
      simp only [cond_false] at h2
      by_cases e : z = a
      · rw [e]; exact hP
      · exact ih (a + 1) z (by omega) h2
theorem fnd_is (P : Int → Bool) : ∀ (k : Nat) (a : Int), fnd P k a < a + k → P (fnd P k a) = true := by
  intro k
  induction k with
  | zero => intro a h; unfold fnd at h; omega
  | succ k ih =>
    intro a h
    unfold fnd at h ⊢
    cases hP : P a with
    | true => simp only [cond_true]; exact hP
    | false => rw [hP] at h; simp only [cond_false] at h ⊢; exact ih (a + 1) (by omega)
theorem fnd_eq {P : Int → Bool} {k : Nat} {a r : Int} (h1 : a ≤ r) (h2 : r ≤ a + k) (h3 : ∀ z, a ≤ z → z < r → P z = false) (h4 : r < a + k → P r = true) : fnd P k a = r := by
  have g1 := fnd_ge P k a
  rcases Int.lt_or_le (fnd P k a) r with q | q
  · have := fnd_is P k a (by omega)
    rw [h3 _ (by omega) q] at this
    cases this
  · rcases Int.lt_or_le r (fnd P k a) with q2 | q2
    · have := fnd_not P k a r h1 q2
      rw [h4 (by omega)] at this
      cases this
    · omega
theorem fnd_congr {P P2 : Int → Bool} {k : Nat} {a : Int} (h : ∀ z, a ≤ z → z < a + k → P z = P2 z) : fnd P k a = fnd P2 k a :=
  fnd_eq (fnd_ge P2 k a).1 (fnd_ge P2 k a).2 (fun z h1 h2 => by rw [h z h1 (by have := (fnd_ge P2 k a).2; omega)]; exact fnd_not P2 k a z h1 h2) (fun h2 => by rw [h _ (fnd_ge P2 k a).1 h2]; exact fnd_is P2 k a h2)
/-! ### cells and frames -/
theorem gI_sI (h : HD) (r q : Rf) (k j : Nat) (v : Int32) : gI (sI h r k v) q j = if q = r ∧ j = k then v else gI h q j := rfl
theorem gI_self (h : HD) (r : Rf) (k : Nat) (v : Int32) : gI (sI h r k v) r k = v := by rw [gI_sI, if_pos ⟨rfl, rfl⟩]
theorem gI_ne (h : HD) {r q : Rf} (hq : q ≠ r) (k j : Nat) (v : Int32) : gI (sI h r k v) q j = gI h q j := by rw [gI_sI, if_neg (fun e => hq e.1)]
theorem gI_nk (h : HD) (r q : Rf) {k j : Nat} (hk : j ≠ k) (v : Int32) : gI (sI h r k v) q j = gI h q j := by rw [gI_sI, if_neg (fun e => hk e.2)]
theorem gJ_sI (h : HD) (r q : Rf) (k j : Nat) (v : Int32) : gJ (sI h r k v) q j = gJ h q j := rfl
theorem gK_sI (h : HD) (r : Rf) (k j : Nat) (v : Int32) : gK (sI h r k v) j = gK h j := rfl
theorem gO_sI (h : HD) (r : Rf) (k j : Nat) (v : Int32) : gO (sI h r k v) j = gO h j := rfl
theorem gI_sJ (h : HD) (r q : Rf) (k j : Nat) (v : Int64) : gI (sJ h r k v) q j = gI h q j := rfl
theorem gJ_sJ (h : HD) (r q : Rf) (k j : Nat) (v : Int64) : gJ (sJ h r k v) q j = if q = r ∧ j = k then v else gJ h q j := rfl
theorem gK_sJ (h : HD) (r : Rf) (k j : Nat) (v : Int64) : gK (sJ h r k v) j = gK h j := rfl
theorem gO_sJ (h : HD) (r : Rf) (k j : Nat) (v : Int64) : gO (sJ h r k v) j = gO h j := rfl
theorem gI_sK (h : HD) (q : Rf) (k j v : Nat) : gI (sK h k v) q j = gI h q j := rfl
theorem gJ_sK (h : HD) (q : Rf) (k j v : Nat) : gJ (sK h k v) q j = gJ h q j := rfl
theorem gK_sK (h : HD) (k j v : Nat) : gK (sK h k v) j = if j = k then v else gK h j := rfl
theorem gI_sO (h : HD) (q : Rf) (k j : Nat) (v : Option Nat) : gI (sO h k v) q j = gI h q j := rfl
theorem gJ_sO (h : HD) (q : Rf) (k j : Nat) (v : Option Nat) : gJ (sO h k v) q j = gJ h q j := rfl
theorem gK_sO (h : HD) (k j : Nat) (v : Option Nat) : gK (sO h k v) j = gK h j := rfl
theorem gO_sO (h : HD) (k j : Nat) (v : Option Nat) : gO (sO h k v) j = if j = k then v else gO h j := rfl
theorem gI_cpI (h : HD) (a b q : Rf) (sp dp n j : Nat) : gI (cpI h a b sp dp n) q j = if q = b ∧ dp ≤ j ∧ j < dp + n then gI h a (sp + (j - dp)) else gI h q j := rfl
theorem gJ_cpI (h : HD) (a b q : Rf) (sp dp n j : Nat) : gJ (cpI h a b sp dp n) q j = gJ h q j := rfl
theorem gK_cpI (h : HD) (a b : Rf) (sp dp n j : Nat) : gK (cpI h a b sp dp n) j = gK h j := rfl
theorem gO_cpI (h : HD) (a b : Rf) (sp dp n j : Nat) : gO (cpI h a b sp dp n) j = gO h j := rfl
theorem gI_cpJ (h : HD) (a b q : Rf) (sp dp n j : Nat) : gI (cpJ h a b sp dp n) q j = gI h q j := rfl
theorem gJ_cpJ (h : HD) (a b q : Rf) (sp dp n j : Nat) : gJ (cpJ h a b sp dp n) q j = if q = b ∧ dp ≤ j ∧ j < dp + n then gJ h a (sp + (j - dp)) else gJ h q j := rfl
theorem gK_cpJ (h : HD) (a b : Rf) (sp dp n j : Nat) : gK (cpJ h a b sp dp n) j = gK h j := rfl
theorem gO_cpJ (h : HD) (a b : Rf) (sp dp n j : Nat) : gO (cpJ h a b sp dp n) j = gO h j := rfl
/-- outside S nothing has changed, and neither the kept row nor the commands -/
def Fr (S : Rf → Nat → Bool) (h h2 : HD) : Prop := (∀ r k, S r k = false → gI h2 r k = gI h r k) ∧ (∀ r k, S r k = false → gJ h2 r k = gJ h r k) ∧ h2.2.2 = h.2.2
theorem Fr.rf {S : Rf → Nat → Bool} {h : HD} : Fr S h h := ⟨fun _ _ _ => rfl, fun _ _ _ => rfl, rfl⟩
theorem Fr.tr {S : Rf → Nat → Bool} {h h2 h3 : HD} (a : Fr S h h2) (b : Fr S h2 h3) : Fr S h h3 := ⟨fun r k q => (b.1 r k q).trans (a.1 r k q), fun r k q => (b.2.1 r k q).trans (a.2.1 r k q), b.2.2.trans a.2.2⟩
theorem Fr.mono {S T : Rf → Nat → Bool} {h h2 : HD} (a : Fr S h h2) (hs : ∀ r k, T r k = false → S r k = false) : Fr T h h2 := ⟨fun r k q => a.1 r k (hs r k q), fun r k q => a.2.1 r k (hs r k q), a.2.2⟩
theorem Fr.sI {S : Rf → Nat → Bool} {h h2 : HD} (a : Fr S h h2) {r : Rf} {k : Nat} (hs : S r k = true) (v : Int32) : Fr S h (sI h2 r k v) := ⟨fun q j hq => by
    rw [gI_sI, if_neg (fun e => by rw [e.1, e.2, hs] at hq; cases hq)]
    exact a.1 q j hq, fun q j hq => a.2.1 q j hq, a.2.2⟩
theorem Fr.sJ {S : Rf → Nat → Bool} {h h2 : HD} (a : Fr S h h2) {r : Rf} {k : Nat} (hs : S r k = true) (v : Int64) : Fr S h (sJ h2 r k v) := ⟨fun q j hq => a.1 q j hq, fun q j hq => by
    rw [gJ_sJ, if_neg (fun e => by rw [e.1, e.2, hs] at hq; cases hq)]
    exact a.2.1 q j hq, a.2.2⟩
theorem Fr.kK {S : Rf → Nat → Bool} {h h2 : HD} (a : Fr S h h2) (k : Nat) : gK h2 k = gK h k := by
  show h2.2.2.1 k = h.2.2.1 k
  rw [a.2.2]
theorem Fr.oO {S : Rf → Nat → Bool} {h h2 : HD} (a : Fr S h h2) (k : Nat) : gO h2 k = gO h k := by
  show h2.2.2.2 k = h.2.2.2 k
  rw [a.2.2]
/-- the first n ints of a row are f -/
def IsA (h : HD) (r : Rf) (n : Int) (f : Int → Int) : Prop := ∀ z : Int, 0 ≤ z → z < n → gI h r z.toNat = iZ (f z)
theorem IsA.put {h : HD} {r : Rf} {n : Int} {f : Int → Int} (hA : IsA h r n f) {z : Int} (hz : 0 ≤ z) (v : Int) : IsA (sI h r z.toNat (iZ v)) r n (fun i => if i = z then v else f i) := by
  intro i h1 h2
  show gI (sI h r z.toNat (iZ v)) r i.toNat = iZ (if i = z then v else f i)
  rw [gI_sI]
  by_cases e : i = z
  · rw [if_pos ⟨rfl, by rw [e]⟩, if_pos e]
  · rw [if_neg (fun q => e (by omega)), if_neg e]
    exact hA i h1 h2
theorem IsA.fr {S : Rf → Nat → Bool} {h h2 : HD} {r : Rf} {n : Int} {f : Int → Int} (hA : IsA h r n f) (a : Fr S h h2) (hs : ∀ k, S r k = false) : IsA h2 r n f := fun z h1 h3 => (a.1 r _ (hs _)).trans (hA z h1 h3)
theorem IsA.eq {h : HD} {r : Rf} {n : Int} {f g : Int → Int} (hA : IsA h r n f) (he : ∀ z, 0 ≤ z → z < n → f z = g z) : IsA h r n g := fun z h1 h3 => by rw [hA z h1 h3, he z h1 h3]
