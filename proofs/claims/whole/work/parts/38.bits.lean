/-! BITS: shifts by five, a byte of an int; LETTERS of names -/
theorem jb {z : Int} (h1 : 0 ≤ z) (h2 : z < 9223372036854775808) : (jZ z).toBitVec.toNat = z.toNat := by
  show (BitVec.ofInt 64 z).toNat = _
  rw [BitVec.toNat_ofInt, Int.emod_eq_of_lt h1 (by have : ((2 ^ 64 : Nat) : Int) = 18446744073709551616 := rfl; omega)]
theorem sh_k {m : Nat} (hm : m ≤ 12) : (jZ (5 * (m : Int)) &&& 63).toBitVec.smod 64 = BitVec.ofNat 64 (5 * m) := by
  have : m = 0 ∨ m = 1 ∨ m = 2 ∨ m = 3 ∨ m = 4 ∨ m = 5 ∨ m = 6 ∨ m = 7 ∨ m = 8 ∨ m = 9 ∨ m = 10 ∨ m = 11 ∨ m = 12 := by omega
  rcases this with e | e | e | e | e | e | e | e | e | e | e | e | e <;> subst e <;> decide
theorem pw32 (m : Nat) : (2 : Nat) ^ (5 * m) = 32 ^ m := by rw [Nat.pow_mul]
theorem sh_r {z : Int} {m : Nat} (h1 : 0 ≤ z) (h2 : z < 9223372036854775808) (hm : m ≤ 12) : jZ z >>> (jZ (5 * (m : Int)) &&& 63) = jZ (z / 32 ^ m) := by
  apply Int64.toInt_inj.mp
  have hd : 0 ≤ z / 32 ^ m ∧ z / 32 ^ m ≤ z := ⟨Int.ediv_nonneg h1 (Int.le_of_lt (Int.pow_pos (by decide))), Int.ediv_le_self _ h1⟩
  rw [jZ_toInt (by omega) (by omega)]
  show (jZ z >>> (jZ (5 * (m : Int)) &&& 63)).toBitVec.toInt = _
  rw [Int64.toBitVec_shiftRight, sh_k hm, BitVec.sshiftRight_eq', BitVec.toInt_sshiftRight, BitVec.toNat_ofNat, Nat.mod_eq_of_lt (by omega)]
  show (jZ z).toInt >>> (5 * m) = _
  rw [jZ_toInt (by omega) h2, Int.shiftRight_eq_div_pow, pw32]
  rfl
theorem sh_l {z : Int} {m : Nat} (h1 : 0 ≤ z) (h2 : z < 32) (hm : m ≤ 7) : jZ z <<< (jZ (5 * (m : Int)) &&& 63) = jZ (z * 32 ^ m) := by
  have : m = 0 ∨ m = 1 ∨ m = 2 ∨ m = 3 ∨ m = 4 ∨ m = 5 ∨ m = 6 ∨ m = 7 := by omega
  obtain ⟨k, rfl⟩ : ∃ k : Nat, z = k := ⟨z.toNat, by omega⟩
  have hk : k < 32 := by omega
  apply Int64.toBitVec_inj.mp
  rw [Int64.toBitVec_shiftLeft, sh_k (by omega)]
  apply BitVec.eq_of_toNat_eq
  have hp : (k : Int) * 32 ^ m = ((k * 32 ^ m : Nat) : Int) := by simp
  have hb : k * 32 ^ m < 1099511627776 := by
    rcases this with e | e | e | e | e | e | e | e <;> subst e <;> omega
  rw [BitVec.shiftLeft_eq', BitVec.toNat_shiftLeft, BitVec.toNat_ofNat, jb (by omega) (by omega), hp, jb (by omega) (by omega), Nat.mod_eq_of_lt (show 5 * m < 2 ^ 64 by omega), Nat.shiftLeft_eq, pw32]
  show (k : Int).toNat * 32 ^ m % 2 ^ 64 = _
  rw [Int.toNat_natCast, Int.toNat_natCast, Nat.mod_eq_of_lt (by omega)]
theorem or_add {A b : Int} {m : Nat} (h1 : 0 ≤ A) (h2 : A * 32 ^ m < 9223372036854775808) (h3 : 0 ≤ b) (h4 : b < 32 ^ m) (h5 : b < 9223372036854775808) (h6 : A * 32 ^ m + b < 9223372036854775808) : jZ (A * 32 ^ m) ||| jZ b = jZ (A * 32 ^ m + b) := by
  obtain ⟨k, rfl⟩ : ∃ k : Nat, A = k := ⟨A.toNat, by omega⟩
  obtain ⟨l, rfl⟩ : ∃ l : Nat, b = l := ⟨b.toNat, by omega⟩
  have hp : (k : Int) * 32 ^ m = ((k * 32 ^ m : Nat) : Int) := by simp
  rw [hp] at h2 h6 ⊢
  have hl : l < 2 ^ (5 * m) := by
    rw [pw32]
    have : ((32 ^ m : Nat) : Int) = 32 ^ m := Int.natCast_pow 32 m
    omega
  apply Int64.toBitVec_inj.mp
  rw [Int64.toBitVec_or]
  apply BitVec.eq_of_toNat_eq
  rw [BitVec.toNat_or, jb (by omega) (by omega), jb (by omega) (by omega), jb (by omega) (by omega)]
  have := Nat.shiftLeft_add_eq_or_of_lt hl k
  rw [Nat.shiftLeft_eq, pw32] at this
  show k * 32 ^ m ||| l = _
  rw [← this]
  omega
theorem and31 {z : Int} (h1 : 0 ≤ z) (h2 : z < 9223372036854775808) : jZ z &&& 31 = jZ (z % 32) := by
  apply Int64.toBitVec_inj.mp
  rw [Int64.toBitVec_and]
  apply BitVec.eq_of_toNat_eq
  rw [BitVec.toNat_and, jb h1 h2, jb (by omega) (by omega)]
  show z.toNat &&& (2 ^ 5 - 1) = _
  rw [Nat.and_two_pow_sub_one_eq_mod]
  omega
theorem jZ_i (z : Int) : (jZ z).toInt32 = iZ z := Int64.toInt32_ofInt
theorem ia31 {z : Int} (h1 : 0 ≤ z) (h2 : z < 9223372036854775808) : (jZ z).toInt32 &&& 31 = iZ (z % 32) := by
  have : (jZ z &&& 31).toInt32 = (jZ z).toInt32 &&& (31 : Int64).toInt32 := Int64.toInt32_and _ _
  rw [and31 h1 h2, jZ_i] at this
  exact this.symm
/-- a byte of an int -/
def byt (y : Int32) : Int := y.toInt % 256
theorem byt_in (y : Int32) : 0 ≤ byt y ∧ byt y < 256 := by unfold byt; omega
theorem byt_s (y : Int32) : y.toInt8.toInt32 = iZ (sby (byt y)) := by
  apply Int32.toInt_inj.mp
  rw [Int8.toInt_toInt32, Int32.toInt_toInt8]
  have := byt_in y
  have e : (iZ (sby (byt y))).toInt = sby (byt y) := Int32.toInt_ofInt_of_le (by unfold sby; split <;> omega) (by unfold sby; split <;> omega)
  rw [e]
  unfold sby byt
  rw [Int.bmod_def]
  rfl
theorem ib {z : Int} (h1 : 0 ≤ z) (h2 : z < 2147483648) : (iZ z).toBitVec.toNat = z.toNat := by
  show (BitVec.ofInt 32 z).toNat = _
  rw [BitVec.toNat_ofInt, Int.emod_eq_of_lt h1 (by have : ((2 ^ 32 : Nat) : Int) = 4294967296 := rfl; omega)]
theorem byt_u (y : Int32) : y &&& 255 = iZ (byt y) := by
  apply Int32.toBitVec_inj.mp
  rw [Int32.toBitVec_and]
  apply BitVec.eq_of_toNat_eq
  have := byt_in y
  rw [BitVec.toNat_and, ib (by omega) (by omega)]
  show y.toBitVec.toNat &&& (2 ^ 8 - 1) = _
  rw [Nat.and_two_pow_sub_one_eq_mod]
  unfold byt
  have e : y.toInt = (y.toBitVec.toNat : Int) ∨ y.toInt = (y.toBitVec.toNat : Int) - 4294967296 := by
    have : y.toInt = if 2 * y.toBitVec.toNat < 2 ^ 32 then (y.toBitVec.toNat : Int) else (y.toBitVec.toNat : Int) - ((2 ^ 32 : Nat) : Int) := BitVec.toInt_eq_toNat_cond _
    rw [this]
    split
    · exact Or.inl rfl
    · exact Or.inr rfl
  omega
/-! letters -/
theorem eM_app (a b : List Nat) : eM (a ++ b) = eM a * 32 ^ b.length + eM b := by
  have key : ∀ (k : Nat) (b : List Nat), b.length = k → eM (a ++ b) = eM a * 32 ^ k + eM b := by
    intro k
    induction k with
    | zero =>
      intro b hb
      rw [List.length_eq_zero_iff.mp hb, List.append_nil, eM_nil, Int.pow_zero]
      omega
    | succ k ih =>
      intro b hb
      rcases list_snoc b with rfl | ⟨b, l, rfl⟩
      · cases hb
      · rw [List.length_append] at hb
        rw [← List.append_assoc, eM_snoc, eM_snoc, ih b (by simpa using hb), Int.pow_succ, Int.add_mul, Int.mul_assoc]
        omega
  exact key _ b rfl
theorem getD_el {ks : List Nat} {c : Nat} (h : c < ks.length) : ks.getD c 0 = ks[c] := by simp [List.getD, h]
/-- the letter at place c: 0 behind the last -/
def ltr (ks : List Nat) (c : Int) : Int := if c < ks.length then ((ks.getD c.toNat 0 : Nat) : Int) else 0
theorem ltr_in {ks : List Nat} (hk : Lt ks) {c : Int} (h1 : 0 ≤ c) (h2 : c < ks.length) : 1 ≤ ltr ks c ∧ ltr ks c ≤ 26 := by
  unfold ltr
  rw [if_pos h2, getD_el (by omega)]
  have := hk _ (List.getElem_mem (by omega : c.toNat < ks.length))
  omega
theorem eM_dg {ks : List Nat} (hk : Lt ks) {c : Int} (h1 : 0 ≤ c) (h2 : c < ks.length) {d : Nat} (hd : (d : Int) = ks.length - 1 - c) : eM ks / 32 ^ d % 32 = ltr ks c := by
  have hc : c.toNat < ks.length := by omega
  have e : ks = (ks.take c.toNat ++ [ks[c.toNat]]) ++ ks.drop (c.toNat + 1) := by
    rw [List.append_assoc, List.singleton_append, List.getElem_cons_drop, List.take_append_drop]
  have hlen : (ks.drop (c.toNat + 1)).length = d := by rw [List.length_drop]; omega
  have hb := eM_b d (ks.drop (c.toNat + 1)) hlen (fun l hl => hk l (List.mem_of_mem_drop hl))
  have hl := hk _ (List.getElem_mem hc)
  have hp := p32_pos d
  have e2 : eM ks = eM (ks.take c.toNat ++ [ks[c.toNat]]) * 32 ^ d + eM (ks.drop (c.toNat + 1)) := by
    conv => lhs; rw [e, eM_app, hlen]
  rw [e2, Int.add_comm, Int.add_mul_ediv_right _ _ (by omega), Int.ediv_eq_zero_of_lt hb.1 hb.2.1, Int.zero_add, eM_snoc]
  unfold ltr
  rw [if_pos h2, getD_el hc]
  omega
theorem eC_dg {ks : List Nat} (hk : Lt ks) (h8 : ks.length ≤ 8) {c : Int} (h1 : 0 ≤ c) (h2 : c < 8) {d : Nat} (hd : (d : Int) = 7 - c) : eC ks / 32 ^ d % 32 = ltr ks c := by
  unfold eC
  by_cases q : c < ks.length
  · obtain ⟨e, he⟩ : ∃ e : Nat, (e : Int) = ks.length - 1 - c := ⟨(ks.length - 1 - c : Int).toNat, by omega⟩
    rw [show d = e + (8 - ks.length) by omega, Int.pow_add, Int.mul_ediv_mul_of_pos_left _ _ (p32_pos _)]
    exact eM_dg hk h1 q he
  · rw [show 8 - ks.length = (7 - ks.length - d) + 1 + d by omega, Int.pow_add, ← Int.mul_assoc, Int.mul_ediv_cancel _ (by have := p32_pos d; omega), Int.pow_succ, ← Int.mul_assoc, Int.mul_emod_left]
    unfold ltr
    rw [if_neg q]
theorem sh_5 {z : Int} {m : Int} (h1 : 0 ≤ z) (h2 : z < 9223372036854775808) (m0 : 0 ≤ m) (hm : m ≤ 12) : jZ z >>> ((iZ (5 * m)).toInt64 &&& 63) = jZ (z / 32 ^ m.toNat) := by
  rw [iZ_j (by omega) (by omega)]
  have := sh_r h1 h2 (m := m.toNat) (by omega)
  rwa [show 5 * ((m.toNat : Nat) : Int) = 5 * m by omega] at this
theorem dv_in {z : Int} (h1 : 0 ≤ z) (m : Nat) : 0 ≤ z / 32 ^ m ∧ z / 32 ^ m ≤ z := ⟨Int.ediv_nonneg h1 (Int.le_of_lt (p32_pos m)), Int.ediv_le_self _ h1⟩
theorem eC_in {ks : List Nat} (hk : NmZ ks) : 0 ≤ eC ks ∧ eC ks < 1099511627776 := by
  rcases hk with rfl | hk
  · decide
  · have := eC_le hk; omega
theorem eM_in {ks : List Nat} (hk : NmZ ks) : 0 ≤ eM ks ∧ eM ks < 1099511627776 := by
  rcases hk with rfl | hk
  · decide
  · have := eM_le hk; omega
theorem NmZ.lt {ks : List Nat} (hk : NmZ ks) : Lt ks ∧ ks.length ≤ 8 := by
  rcases hk with rfl | hk
  · exact ⟨fun l hl => (by cases hl), by decide⟩
  · exact ⟨hk.lt, hk.2.1⟩
theorem x8_letterOf (h : HD) {ks : List Nat} (hk : NmZ ks) {c : Int} (h1 : -2147483648 ≤ c) (h2 : c < 2147483648) : jX8_letterOf (jZ (eC ks)) (iZ c) h = iZ (if 0 ≤ c ∧ c < 8 then ltr ks c else 0) := by
  have he := eC_in hk
  unfold jX8_letterOf
  rw [i0, i8]
  by_cases q1 : c < 0
  · rw [if_pos (lt_y (by omega) (by omega) (by omega)), if_neg (by omega)]
  · rw [if_neg (lt_n (by omega) (by omega) (by omega))]
    by_cases q2 : c < 8
    · rw [if_pos (lt_y (by omega) (by omega) (by omega)), if_pos ⟨by omega, q2⟩, i5, i7, iZ_sub, iZ_mul, sh_5 he.1 (by omega) (by omega) (by omega)]
      have := dv_in he.1 (7 - c).toNat
      rw [ia31 (by omega) (by omega), eC_dg hk.lt.1 hk.lt.2 (by omega) q2 (by omega)]
    · rw [if_neg (lt_n (by omega) (by omega) (by omega)), if_neg (by omega)]
theorem x9_lettersOf (h : HD) {ks : List Nat} (hk : NmZ ks) : jX9_lettersOf (jZ (eM ks)) h = some (iZ ks.length) := by
  have he := eM_in hk
  have hl := hk.lt
  unfold jX9_lettersOf
  rw [i0]
  have hz : ∀ z : Int, 0 ≤ z → z < ks.length → 1 ≤ eM ks / 32 ^ z.toNat := fun z q1 q2 => by
    have e : ks = ks.take (ks.length - z.toNat) ++ ks.drop (ks.length - z.toNat) := (List.take_append_drop _ _).symm
    have hd : (ks.drop (ks.length - z.toNat)).length = z.toNat := by rw [List.length_drop]; omega
    have hb := eM_b _ _ hd (fun l hl2 => hl.1 l (List.mem_of_mem_drop hl2))
    have ht : (ks.take (ks.length - z.toNat)).length = ks.length - z.toNat := by rw [List.length_take]; omega
    have hb2 := eM_b _ _ ht (fun l hl2 => hl.1 l (List.mem_of_mem_take hl2))
    have hp := p32_pos z.toNat
    rw [e, eM_app, hd, Int.add_comm, Int.add_mul_ediv_right _ _ (by omega), Int.ediv_eq_zero_of_lt hb.1 hb.2.1]
    have := hb2.2.2 (by omega)
    omega
  have hE : eM ks / 32 ^ ks.length = 0 := Int.ediv_eq_zero_of_lt he.1 (eM_b _ ks rfl hl.1).2.1
  have e := loopN (res := some (iZ ks.length)) (fun f (x : Int32 × Int64) => jX9_lettersOf_L4 (jZ (eM ks)) h f x.1 x.2) (fun z => (iZ z, jZ (eM ks / 32 ^ z.toNat))) (a := 0) (b := ks.length) (by omega) (fun f z q1 q2 => ?_) (fun f => ?_) FU (FU_gt (by omega))
  · have e2 : jX9_lettersOf_L4 (jZ (eM ks)) h FU (iZ 0) (jZ (eM ks / 32 ^ (0 : Int).toNat)) = _ := e
    rw [show (0 : Int).toNat = 0 from rfl, Int.pow_zero, Int.ediv_one] at e2
    exact e2
  · show jX9_lettersOf_L4 (jZ (eM ks)) h (f + 1) (iZ z) (jZ (eM ks / 32 ^ z.toNat)) = jX9_lettersOf_L4 (jZ (eM ks)) h f (iZ (z + 1)) (jZ (eM ks / 32 ^ (z + 1).toNat))
    have h3 := hz z q1 q2
    have h4 := dv_in he.1 z.toNat
    have hc : ¬ lg_cmp (jZ (eM ks / 32 ^ z.toNat)) 0 ≤ 0 := fun c => by
      have : 0 < lg_cmp (jZ (eM ks / 32 ^ z.toNat)) (jZ 0) := (lg_gt0 _ _).mpr (by rw [jZ_lt (by omega) (by omega) (by omega) (by omega)]; omega)
      exact absurd c (Int32.not_le.mpr this)
    have h5 := sh_5 (z := eM ks / 32 ^ z.toNat) (m := 1) (by omega) (by omega) (by omega) (by omega)
    have e5 : (5 : Int32) = iZ (5 * 1) := rfl
    rw [jX9_lettersOf_L4, if_neg hc, e5, h5, i1, iZ_add]
    congr 1
    rw [Int.ediv_ediv_of_nonneg (Int.le_of_lt (p32_pos _)), show (z + 1).toNat = z.toNat + 1 by omega, Int.pow_succ]
    rfl
  · show jX9_lettersOf_L4 (jZ (eM ks)) h (f + 1) (iZ ks.length) (jZ (eM ks / 32 ^ ((ks.length : Nat) : Int).toNat)) = _
    rw [Int.toNat_natCast, hE, jX9_lettersOf_L4, if_pos (by decide)]
theorem x9_letterOf (h : HD) {ks : List Nat} (hk : NmZ ks) {c : Int} (h1 : 0 ≤ c) (h2 : c < ks.length) : jX9_letterOf (jZ (eM ks)) (iZ c) h = some (iZ (ltr ks c)) := by
  have he := eM_in hk
  have hl := hk.lt
  unfold jX9_letterOf
  rw [x9_lettersOf h hk, Option.bind_some, i1, iZ_sub, iZ_sub, i5, iZ_mul, sh_5 he.1 (by omega) (by omega) (by omega)]
  have := dv_in he.1 ((ks.length : Int) - 1 - c).toNat
  rw [and31 (by omega) (by omega), jZ_i, eM_dg hl.1 h1 h2 (by omega)]
theorem x8_with (h : HD) {ks : List Nat} {l : Nat} (hk : Lt ks) (h7 : ks.length ≤ 7) (hl : 1 ≤ l ∧ l ≤ 26) : jX8_withLetter (jZ (eC ks)) (iZ ks.length) (iZ l) h = jZ (eC (ks ++ [l])) := by
  have hb := eM_b _ ks rfl hk
  have hp := p32_pos (7 - ks.length)
  have he : eC ks = eM ks * 32 ^ (8 - ks.length) := rfl
  have hZ : NmZ ks := by
    by_cases q : ks = []
    · exact Or.inl q
    · exact Or.inr ⟨List.length_pos_iff.mpr q, by omega, hk⟩
  have hc := eC_in hZ
  have hn : NmOk (ks ++ [l]) := ⟨by rw [List.length_append]; simp, by rw [List.length_append]; simpa using h7, fun x hx => by
    rcases List.mem_append.mp hx with q | q
    · exact hk x q
    · rw [List.mem_singleton.mp q]; exact hl⟩
  have hc2 := eC_le hn
  have hs : eC (ks ++ [l]) = eM ks * 32 ^ (8 - ks.length) + (l : Int) * 32 ^ (7 - ks.length) := by
    unfold eC
    rw [eM_snoc, List.length_append, show 8 - (ks.length + [l].length) = 7 - ks.length by rw [List.length_singleton]; omega, show 8 - ks.length = (7 - ks.length) + 1 by omega, Int.pow_succ, Int.add_mul, Int.mul_assoc, Int.mul_comm 32]
  have hlb : (l : Int) * 32 ^ (7 - ks.length) < 32 ^ (8 - ks.length) := by
    rw [show 8 - ks.length = (7 - ks.length) + 1 by omega, Int.pow_succ, Int.mul_comm]
    exact Int.mul_lt_mul_of_pos_left (by omega) hp
  have hl0 : 0 ≤ (l : Int) * 32 ^ (7 - ks.length) := Int.mul_nonneg (by omega) (Int.le_of_lt hp)
  unfold jX8_withLetter
  rw [iZ_j (by omega) (by omega), i5, i7, iZ_sub, iZ_mul, iZ_j (by omega) (by omega)]
  have := sh_l (z := (l : Int)) (m := 7 - ks.length) (by omega) (by omega) (by omega)
  rw [show 5 * (((7 - ks.length : Nat)) : Int) = 5 * (7 - (ks.length : Int)) by omega] at this
  rw [this, hs, he]
  exact or_add hb.1 (by omega) hl0 hlb (by omega) (by omega)
