/-! THE CLASS PARKS -/
theorem i0 : (0 : Int32) = iZ 0 := rfl
theorem i1 : (1 : Int32) = iZ 1 := rfl
theorem i2 : (2 : Int32) = iZ 2 := rfl
theorem i3 : (3 : Int32) = iZ 3 := rfl
theorem i4 : (4 : Int32) = iZ 4 := rfl
theorem i5 : (5 : Int32) = iZ 5 := rfl
theorem i6 : (6 : Int32) = iZ 6 := rfl
theorem i7 : (7 : Int32) = iZ 7 := rfl
theorem i8 : (8 : Int32) = iZ 8 := rfl
theorem i9 : (9 : Int32) = iZ 9 := rfl
theorem i10 : (10 : Int32) = iZ 10 := rfl
theorem i11 : (11 : Int32) = iZ 11 := rfl
theorem i12 : (12 : Int32) = iZ 12 := rfl
theorem i13 : (13 : Int32) = iZ 13 := rfl
theorem i16 : (16 : Int32) = iZ 16 := rfl
theorem i20 : (20 : Int32) = iZ 20 := rfl
theorem i24 : (24 : Int32) = iZ 24 := rfl
theorem i30 : (30 : Int32) = iZ 30 := rfl
theorem i31 : (31 : Int32) = iZ 31 := rfl
theorem i32 : (32 : Int32) = iZ 32 := rfl
theorem i33 : (33 : Int32) = iZ 33 := rfl
theorem i40 : (40 : Int32) = iZ 40 := rfl
theorem i41 : (41 : Int32) = iZ 41 := rfl
theorem i46 : (46 : Int32) = iZ 46 := rfl
theorem i48 : (48 : Int32) = iZ 48 := rfl
theorem i57 : (57 : Int32) = iZ 57 := rfl
theorem i59 : (59 : Int32) = iZ 59 := rfl
theorem i60 : (60 : Int32) = iZ 60 := rfl
theorem i63 : (63 : Int32) = iZ 63 := rfl
theorem i66 : (66 : Int32) = iZ 66 := rfl
theorem i78 : (78 : Int32) = iZ 78 := rfl
theorem i96 : (96 : Int32) = iZ 96 := rfl
theorem i97 : (97 : Int32) = iZ 97 := rfl
theorem i99 : (99 : Int32) = iZ 99 := rfl
theorem i100 : (100 : Int32) = iZ 100 := rfl
theorem i122 : (122 : Int32) = iZ 122 := rfl
theorem i126 : (126 : Int32) = iZ 126 := rfl
theorem i128 : (128 : Int32) = iZ 128 := rfl
theorem i200 : (200 : Int32) = iZ 200 := rfl
theorem i255 : (255 : Int32) = iZ 255 := rfl
theorem i400 : (400 : Int32) = iZ 400 := rfl
theorem i999 : (999 : Int32) = iZ 999 := rfl
theorem im1 : (-1 : Int32) = iZ (-1) := rfl
theorem im8 : (-8 : Int32) = iZ (-8) := rfl
theorem lt_eq {α β : Type} (x : α) (f : α → β) : lt x f = f x := rfl
theorem b2i_t : b2i true = iZ 1 := rfl
theorem b2i_f : b2i false = iZ 0 := rfl
theorem IsA.snoc {h : HD} {r : Rf} {z : Int} {g : Int → Int} (hA : IsA h r z g) (hz : 0 ≤ z) {v : Int32} (hv : v = iZ (g z)) : IsA (sI h r z.toNat v) r (z + 1) g := by
  intro i h1 h2
  rw [gI_sI]
  by_cases e : i = z
  · rw [if_pos ⟨rfl, by rw [e]⟩, hv, e]
  · rw [if_neg (fun q => e (by omega))]
    exact hA i h1 (by omega)
theorem IsA.ne {h : HD} {r q : Rf} {n : Int} {f : Int → Int} (hA : IsA h r n f) (hq : r ≠ q) (k : Nat) (v : Int32) : IsA (sI h q k v) r n f := by
  intro i h1 h2
  rw [gI_sI, if_neg (fun e => hq e.1)]
  exact hA i h1 h2
theorem IsA.sJ {h : HD} {r q : Rf} {n : Int} {f : Int → Int} (hA : IsA h r n f) (k : Nat) (v : Int64) : IsA (sJ h q k v) r n f := hA
theorem j_fill (r : Rf) (v : Int) {n : Nat} (hn : (arrT r).2 = n) (h9 : n < 1000) (h : HD) : ∃ h2, jJ7_fill_53178 r (iZ v) h = some h2 ∧ Fr (fun q _ => decide (q = r)) h h2 ∧ IsA h2 r n (fun _ => v) := by
  unfold jJ7_fill_53178
  rw [hn, iZ_ofNat]
  refine loopI (fun f (x : Int32 × HD) => jJ7_fill_53178_L5 r (iZ v) (iZ n) f x.1 x.2) (fun z x => x.1 = iZ z ∧ Fr (fun q _ => decide (q = r)) h x.2 ∧ IsA x.2 r z (fun _ => v)) (a := 0) (b := n) (fun y => ∃ h2, y = some h2 ∧ Fr (fun q _ => decide (q = r)) h h2 ∧ IsA h2 r n (fun _ => v)) (by omega) ?_ ?_ FU (iZ 0, h) (FU_gt (by omega)) ⟨rfl, Fr.rf, fun z h1 h2 => by omega⟩
  · intro f z x h1 h2 hI
    obtain ⟨x1, h3⟩ := x
    obtain ⟨e, hF, hA⟩ := hI
    replace e : x1 = iZ z := e
    subst e
    refine ⟨(iZ (z + 1), sI h3 r z.toNat (iZ v)), ?_, rfl, hF.sI (decide_eq_true rfl) _, hA.snoc h1 rfl⟩
    show jJ7_fill_53178_L5 r (iZ v) (iZ n) (f + 1) (iZ z) h3 = _
    rw [jJ7_fill_53178_L5]
    rw [hn]
    simp (disch := omega) only [iZ_add, iZ_sub, iZ_neg, iZ_mul, i0, i1, i2, i3, i4, i5, i6, i7, i8, i9, i10, i11, i12, i13, i16, i20, i24, i30, i31, i32, i33, i40, i41, i46, i48, i57, i59, i60, i63, i66, i78, i96, i97, i99, i100, i122, i126, i128, i200, i255, i400, i999, im1, b2i_t, b2i_f, iZ_lt_t, iZ_lt_f, iZ_le_t, iZ_le_f, iZ_eq_t, iZ_eq_f, inB_t, iZ_nat, ↓reduceIte, Option.bind_some, Option.map_some, lt_eq]
  · intro f x hI
    obtain ⟨x1, h3⟩ := x
    obtain ⟨e, hF, hA⟩ := hI
    replace e : x1 = iZ n := e
    subst e
    refine ⟨h3, ?_, hF, hA⟩
    show jJ7_fill_53178_L5 r (iZ v) (iZ n) (f + 1) (iZ n) h3 = _
    rw [jJ7_fill_53178_L5]
    simp (disch := omega) only [iZ_add, iZ_sub, iZ_neg, iZ_mul, i0, i1, i2, i3, i4, i5, i6, i7, i8, i9, i10, i11, i12, i13, i16, i20, i24, i30, i31, i32, i33, i40, i41, i46, i48, i57, i59, i60, i63, i66, i78, i96, i97, i99, i100, i122, i126, i128, i200, i255, i400, i999, im1, b2i_t, b2i_f, iZ_lt_t, iZ_lt_f, iZ_le_t, iZ_le_f, iZ_eq_t, iZ_eq_f, inB_t, iZ_nat, ↓reduceIte, Option.bind_some, Option.map_some, lt_eq]
def TB (T : Int → Int) : Prop := ∀ s, -1 ≤ T s ∧ T s ≤ 11
def PkC (h : HD) (o : Nat) (N b rnd : Int) (pf T M P : Int → Int) (c : Int) : Prop := gI h (2, o, 0) 4 = iZ N ∧ gI h (2, o, 0) 5 = iZ b ∧ gI h (2, o, 0) 6 = iZ rnd ∧ gI h (2, o, 0) 7 = iZ c ∧ IsA h (2, o, 1) c pf ∧ IsA h (2, o, 3) c M ∧ IsA h (2, o, 2) c P ∧ IsA h (2, o, 4) N T
/-- the cells of a way to park -/
def sPk (o : Nat) : Rf → Nat → Bool := fun r _ => decide (r.1 = 2 ∧ r.2.1 = o)
theorem x4_isSpot {h : HD} {o : Nat} {N z : Int} (h4 : gI h (2, o, 0) 4 = iZ N) (hN : N ≤ 12) (hN0 : 0 ≤ N) (hz1 : -100000 ≤ z) (hz2 : z ≤ 100000) : jX4_isSpot o (iZ z) h = decide (0 ≤ z ∧ z < N) := by
  unfold jX4_isSpot
  rw [h4]
  by_cases h1 : z < 0
  · simp (disch := omega) only [iZ_add, iZ_sub, iZ_neg, iZ_mul, i0, i1, i2, i3, i4, i5, i6, i7, i8, i9, i10, i11, i12, i13, i16, i20, i24, i30, i31, i32, i33, i40, i41, i46, i48, i57, i59, i60, i63, i66, i78, i96, i97, i99, i100, i122, i126, i128, i200, i255, i400, i999, im1, b2i_t, b2i_f, iZ_lt_t, iZ_lt_f, iZ_le_t, iZ_le_f, iZ_eq_t, iZ_eq_f, inB_t, iZ_nat, ↓reduceIte, Option.bind_some, Option.map_some, lt_eq]
    exact (decide_eq_false (by omega)).symm
  · by_cases h2 : N ≤ z
    · simp (disch := omega) only [iZ_add, iZ_sub, iZ_neg, iZ_mul, i0, i1, i2, i3, i4, i5, i6, i7, i8, i9, i10, i11, i12, i13, i16, i20, i24, i30, i31, i32, i33, i40, i41, i46, i48, i57, i59, i60, i63, i66, i78, i96, i97, i99, i100, i122, i126, i128, i200, i255, i400, i999, im1, b2i_t, b2i_f, iZ_lt_t, iZ_lt_f, iZ_le_t, iZ_le_f, iZ_eq_t, iZ_eq_f, inB_t, iZ_nat, ↓reduceIte, Option.bind_some, Option.map_some, lt_eq]
      exact (decide_eq_false (by omega)).symm
    · simp (disch := omega) only [iZ_add, iZ_sub, iZ_neg, iZ_mul, i0, i1, i2, i3, i4, i5, i6, i7, i8, i9, i10, i11, i12, i13, i16, i20, i24, i30, i31, i32, i33, i40, i41, i46, i48, i57, i59, i60, i63, i66, i78, i96, i97, i99, i100, i122, i126, i128, i200, i255, i400, i999, im1, b2i_t, b2i_f, iZ_lt_t, iZ_lt_f, iZ_le_t, iZ_le_f, iZ_eq_t, iZ_eq_f, inB_t, iZ_nat, ↓reduceIte, Option.bind_some, Option.map_some, lt_eq]
      exact (decide_eq_true (by omega)).symm
theorem x4_isFree {h : HD} {o : Nat} {N z : Int} {T : Int → Int} (h4 : gI h (2, o, 0) 4 = iZ N) (hN : N ≤ 12) (hN0 : 0 ≤ N) (hT : IsA h (2, o, 4) N T) (hB : TB T) (hz1 : -100000 ≤ z) (hz2 : z ≤ 100000) : jX4_isFree o (iZ z) h = some (decide (0 ≤ z ∧ z < N ∧ T z = -1)) := by
  unfold jX4_isFree
  rw [x4_isSpot h4 hN hN0 hz1 hz2]
  by_cases h1 : 0 ≤ z ∧ z < N
  · have hb := hB z
    rw [decide_eq_true h1, if_pos rfl, inB_t h1.1 (by omega) (by omega), if_pos rfl, iZ_nat h1.1 (by omega), hT z h1.1 h1.2, im1]
    by_cases h2 : T z = -1
    · rw [if_pos (by rw [h2]), decide_eq_true ⟨h1.1, h1.2, h2⟩]
    · rw [if_neg (eq_n (by omega) (by omega) (by omega) (by omega) (by omega)), decide_eq_false (fun q => h2 q.2.2)]
  · rw [decide_eq_false h1, if_neg (by decide), decide_eq_false (fun q => h1 ⟨q.1, q.2.1⟩)]
theorem x4_takerOf {h : HD} {o : Nat} {N z : Int} {T : Int → Int} (h4 : gI h (2, o, 0) 4 = iZ N) (hN : N ≤ 12) (hN0 : 0 ≤ N) (hT : IsA h (2, o, 4) N T) (h1 : 0 ≤ z) (h2 : z < N) : jX4_takerOf o (iZ z) h = some (iZ (T z)) := by
  unfold jX4_takerOf
  rw [x4_isSpot h4 hN hN0 (by omega) (by omega), decide_eq_true ⟨h1, h2⟩, if_pos rfl, inB_t h1 (by omega) (by omega), if_pos rfl, iZ_nat h1 (by omega), hT z h1 h2]
theorem x4_hasCome {h : HD} {o : Nat} {c z : Int} (h7 : gI h (2, o, 0) 7 = iZ c) (hc : 0 ≤ c) (hc2 : c ≤ 11) (hz1 : -2147483648 ≤ z) (hz2 : z < 2147483648) : jX4_hasCome o (iZ z) h = decide (0 ≤ z ∧ z < c) := by
  unfold jX4_hasCome
  rw [h7]
  by_cases h1 : z < 0
  · simp (disch := omega) only [iZ_add, iZ_sub, iZ_neg, iZ_mul, i0, i1, i2, i3, i4, i5, i6, i7, i8, i9, i10, i11, i12, i13, i16, i20, i24, i30, i31, i32, i33, i40, i41, i46, i48, i57, i59, i60, i63, i66, i78, i96, i97, i99, i100, i122, i126, i128, i200, i255, i400, i999, im1, b2i_t, b2i_f, iZ_lt_t, iZ_lt_f, iZ_le_t, iZ_le_f, iZ_eq_t, iZ_eq_f, inB_t, iZ_nat, ↓reduceIte, Option.bind_some, Option.map_some, lt_eq]
    exact (decide_eq_false (by omega)).symm
  · by_cases h2 : c ≤ z
    · simp (disch := omega) only [iZ_add, iZ_sub, iZ_neg, iZ_mul, i0, i1, i2, i3, i4, i5, i6, i7, i8, i9, i10, i11, i12, i13, i16, i20, i24, i30, i31, i32, i33, i40, i41, i46, i48, i57, i59, i60, i63, i66, i78, i96, i97, i99, i100, i122, i126, i128, i200, i255, i400, i999, im1, b2i_t, b2i_f, iZ_lt_t, iZ_lt_f, iZ_le_t, iZ_le_f, iZ_eq_t, iZ_eq_f, inB_t, iZ_nat, ↓reduceIte, Option.bind_some, Option.map_some, lt_eq]
      exact (decide_eq_false (by omega)).symm
    · simp (disch := omega) only [iZ_add, iZ_sub, iZ_neg, iZ_mul, i0, i1, i2, i3, i4, i5, i6, i7, i8, i9, i10, i11, i12, i13, i16, i20, i24, i30, i31, i32, i33, i40, i41, i46, i48, i57, i59, i60, i63, i66, i78, i96, i97, i99, i100, i122, i126, i128, i200, i255, i400, i999, im1, b2i_t, b2i_f, iZ_lt_t, iZ_lt_f, iZ_le_t, iZ_le_f, iZ_eq_t, iZ_eq_f, inB_t, iZ_nat, ↓reduceIte, Option.bind_some, Option.map_some, lt_eq]
      exact (decide_eq_true (by omega)).symm
theorem fr_pk {o k : Nat} {h h2 : HD} (hF : Fr (sPk o) h h2) (r : Rf) (hr : ¬ (r.1 = 2 ∧ r.2.1 = o)) : gI h2 r k = gI h r k := hF.1 r k (decide_eq_false hr)
/-- a car comes -/
theorem x4_bring {h : HD} {o : Nat} {N b rnd c w m s : Int} {pf T M P : Int → Int} (hP : PkC h o N b rnd pf T M P c) (hN : N ≤ 12) (hN0 : 0 ≤ N) (hc : 0 ≤ c) (hc2 : c < 11) (hB : TB T) (hw : pf c = w) (hm : M c = m) (hs : P c = s) (hs1 : 0 ≤ s) (hs2 : s < N) (hT : T s = -1)
    (e1 : jX4_moveFrom o (iZ w) h = some (iZ m)) (e2 : jX4_spotAt o (iZ w + iZ m) h = some (iZ s)) : ∃ h2, jX4_bring o (iZ w) h = some h2 ∧ Fr (sPk o) h h2 ∧ PkC h2 o N b rnd pf (fun i => if i = s then c else T i) M P (c + 1) := by
  obtain ⟨p4, p5, p6, p7, p1, p3, p2, pt⟩ := hP
  have hS : ∀ j k, sPk o (2, o, j) k = true := fun j k => decide_eq_true ⟨rfl, rfl⟩
  refine ⟨sI (sI (sI (sI (sI (sI h (2, o, 1) c.toNat (iZ w)) (2, o, 3) c.toNat (iZ m)) (2, o, 2) c.toNat (iZ (-1))) (2, o, 2) c.toNat (iZ s)) (2, o, 4) s.toNat (iZ c)) (2, o, 0) 7 (iZ (c + 1)), ?_, ?_, ?_⟩
  rotate_left
  · exact ((((((Fr.rf (h := h)).sI (hS 1 c.toNat) (iZ w)).sI (hS 3 c.toNat) (iZ m)).sI (hS 2 c.toNat) (iZ (-1))).sI (hS 2 c.toNat) (iZ s)).sI (hS 4 s.toNat) (iZ c)).sI (hS 0 7) (iZ (c + 1))
  · have g : ∀ (j k : Nat) (v : Int32) (h0 : HD) (i : Nat), j ≠ 0 → gI (sI h0 (2, o, j) k v) (2, o, 0) i = gI h0 (2, o, 0) i := fun j k v h0 i hj => by
      rw [gI_sI, if_neg (fun e => hj (by have := congrArg (fun r : Rf => r.2.2) e.1; exact this.symm))]
    have ne : ∀ j k : Nat, j ≠ k → ((2, o, j) : Rf) ≠ (2, o, k) := fun j k hj e => hj (congrArg (fun r : Rf => r.2.2) e)
    refine ⟨?_, ?_, ?_, ?_, ?_, ?_, ?_, ?_⟩
    · rw [gI_sI, if_neg (by simp), g _ _ _ _ _ (by decide), g _ _ _ _ _ (by decide), g _ _ _ _ _ (by decide), g _ _ _ _ _ (by decide), g _ _ _ _ _ (by decide)]; exact p4
    · rw [gI_sI, if_neg (by simp), g _ _ _ _ _ (by decide), g _ _ _ _ _ (by decide), g _ _ _ _ _ (by decide), g _ _ _ _ _ (by decide), g _ _ _ _ _ (by decide)]; exact p5
    · rw [gI_sI, if_neg (by simp), g _ _ _ _ _ (by decide), g _ _ _ _ _ (by decide), g _ _ _ _ _ (by decide), g _ _ _ _ _ (by decide), g _ _ _ _ _ (by decide)]; exact p6
    · rw [gI_sI, if_pos ⟨rfl, rfl⟩]
    · exact (((((p1.snoc hc (by rw [hw])).ne (ne 1 3 (by decide)) _ _).ne (ne 1 2 (by decide)) _ _).ne (ne 1 2 (by decide)) _ _).ne (ne 1 4 (by decide)) _ _).ne (ne 1 0 (by decide)) _ _
    · exact (((((p3.ne (ne 3 1 (by decide)) _ _).snoc hc (by rw [hm])).ne (ne 3 2 (by decide)) _ _).ne (ne 3 2 (by decide)) _ _).ne (ne 3 4 (by decide)) _ _).ne (ne 3 0 (by decide)) _ _
    · refine IsA.ne (IsA.ne ?_ (ne 2 4 (by decide)) _ _) (ne 2 0 (by decide)) _ _
      intro i q1 q2
      rw [gI_sI]
      by_cases e : i = c
      · rw [if_pos ⟨rfl, by rw [e]⟩, e, hs]
      · rw [if_neg (fun q => e (by omega)), gI_sI, if_neg (fun q => e (by omega))]
        exact ((p2.ne (ne 2 1 (by decide)) _ _).ne (ne 2 3 (by decide)) _ _) i q1 (by omega)
    · exact (((((pt.ne (ne 4 1 (by decide)) _ _).ne (ne 4 3 (by decide)) _ _).ne (ne 4 2 (by decide)) _ _).ne (ne 4 2 (by decide)) _ _).put hs1 c).ne (ne 4 0 (by decide)) _ _
  · have g : ∀ (j k : Nat) (v : Int32) (h0 : HD) (i : Nat), j ≠ 0 → gI (sI h0 (2, o, j) k v) (2, o, 0) i = gI h0 (2, o, 0) i := fun j k v h0 i hj => by
      rw [gI_sI, if_neg (fun e => hj (by have := congrArg (fun r : Rf => r.2.2) e.1; exact this.symm))]
    have ne : ∀ j k : Nat, j ≠ k → ((2, o, j) : Rf) ≠ (2, o, k) := fun j k hj e => hj (congrArg (fun r : Rf => r.2.2) e)
    unfold jX4_bring
    rw [p7, i11, if_pos (lt_y (by omega) (by omega) (by omega)), e1, Option.bind_some, e2, Option.bind_some, inB_t hc (by omega) (by omega), if_pos rfl, lt_eq, g _ _ _ _ _ (by decide), p7, inB_t hc (by omega) (by omega), if_pos rfl, lt_eq, g _ _ _ _ _ (by decide), g _ _ _ _ _ (by decide), p7, inB_t hc (by omega) (by omega), if_pos rfl, lt_eq, iZ_nat hc (by omega)]
    rw [x4_isFree (N := N) (T := T) (by rw [g _ _ _ _ _ (by decide), g _ _ _ _ _ (by decide), g _ _ _ _ _ (by decide)]; exact p4) hN hN0 (((pt.ne (ne 4 1 (by decide)) _ _).ne (ne 4 3 (by decide)) _ _).ne (ne 4 2 (by decide)) _ _) hB (by omega) (by omega), decide_eq_true ⟨hs1, hs2, hT⟩, Option.bind_some, if_pos rfl]
    rw [g _ _ _ _ _ (by decide), g _ _ _ _ _ (by decide), g _ _ _ _ _ (by decide), p7, inB_t hc (by omega) (by omega), if_pos rfl, lt_eq, inB_t hs1 (by omega) (by omega), if_pos rfl, lt_eq, iZ_nat hc (by omega), iZ_nat hs1 (by omega)]
    rw [g _ _ _ _ _ (by decide), g _ _ _ _ _ (by decide), g _ _ _ _ _ (by decide), g _ _ _ _ _ (by decide), p7, lt_eq, g _ _ _ _ _ (by decide), g _ _ _ _ _ (by decide), g _ _ _ _ _ (by decide), g _ _ _ _ _ (by decide), g _ _ _ _ _ (by decide), p7]
    rw [im1, i1, iZ_add]
theorem PkC.s8 {h : HD} {o : Nat} {N b rnd c : Int} {pf T M P : Int → Int} (hP : PkC h o N b rnd pf T M P c) (v : Int32) : PkC (sI h (2, o, 0) 8 v) o N b rnd pf T M P c := by
  obtain ⟨p4, p5, p6, p7, p1, p3, p2, pt⟩ := hP
  have ne : ∀ j k : Nat, j ≠ k → ((2, o, j) : Rf) ≠ (2, o, k) := fun j k hj e => hj (congrArg (fun r : Rf => r.2.2) e)
  refine ⟨?_, ?_, ?_, ?_, p1.ne (ne 1 0 (by decide)) _ _, p3.ne (ne 3 0 (by decide)) _ _, p2.ne (ne 2 0 (by decide)) _ _, pt.ne (ne 4 0 (by decide)) _ _⟩
  · rw [gI_sI, if_neg (by simp)]; exact p4
  · rw [gI_sI, if_neg (by simp)]; exact p5
  · rw [gI_sI, if_neg (by simp)]; exact p6
  · rw [gI_sI, if_neg (by simp)]; exact p7
theorem x4_spotR {h : HD} {o : Nat} {N a : Int} (h4 : gI h (2, o, 0) 4 = iZ N) (h6 : gI h (2, o, 0) 6 = iZ 1) (hN : N ≤ 12) (hN0 : 1 ≤ N) (h1 : -100000 ≤ a) (h2 : a ≤ 100000) : jX4_spotAt o (iZ a) h = some (iZ (a % N)) := by
  unfold jX4_spotAt
  rw [h6, h4, i0, if_neg (eq_n (by omega) (by omega) (by omega) (by omega) (by omega)), w_wrapped h (by omega) (by omega) (by omega) (by omega)]
  rfl
theorem x4_spotL {h : HD} {o : Nat} {a : Int32} (h6 : gI h (2, o, 0) 6 = iZ 0) : jX4_spotAt o a h = some a := by
  unfold jX4_spotAt
  rw [h6]
  rfl
/-- on the circle a spot of a number is free or not -/
theorem x4_freeR {h : HD} {o : Nat} {N : Int} {T : Int → Int} (h4 : gI h (2, o, 0) 4 = iZ N) (hN : N ≤ 12) (hN0 : 1 ≤ N) (hT : IsA h (2, o, 4) N T) (hB : TB T) (a : Int) : jX4_isFree o (iZ (a % N)) h = some (decide (T (a % N) = -1)) := by
  have e := emod_in a (N := N) (by omega)
  rw [x4_isFree h4 hN (by omega) hT hB (by omega) (by omega)]
  by_cases q : T (a % N) = -1
  · rw [decide_eq_true q, decide_eq_true ⟨e.1, e.2, q⟩]
  · rw [decide_eq_false q, decide_eq_false (fun z => q z.2.2)]
theorem x4_moveR {h : HD} {o : Nat} {N b w s : Int} {T : Int → Int} (h4 : gI h (2, o, 0) 4 = iZ N) (h5 : gI h (2, o, 0) 5 = iZ b) (h6 : gI h (2, o, 0) 6 = iZ 1) (hN : N ≤ 12) (hb : 0 ≤ b ∧ b ≤ 5) (hT : IsA h (2, o, 4) N T) (hB : TB T) (hw : 0 ≤ w ∧ w < N) (hs : 0 ≤ s ∧ s < N) (hTs : T s = -1) : jX4_moveFrom o (iZ w) h = some (iZ (mvO N b T w)) := by
  have hfr : ∀ a, jX4_isFree o (iZ (a % N)) h = some (decide (T (a % N) = -1)) := fun a => x4_freeR h4 hN (by omega) hT hB a
  have hsp : ∀ a, -100000 ≤ a → a ≤ 100000 → jX4_spotAt o (iZ a) h = some (iZ (a % N)) := fun a => x4_spotR h4 h6 hN (by omega)
  have h0 := hfr w
  rw [emod_id hw.1 hw.2] at h0
  unfold jX4_moveFrom
  rw [h0, Option.bind_some]
  have back : ∀ (K : Option Int32) (f : Nat) (z : Int), 1 ≤ z → z ≤ b → T ((w - z) % N) ≠ -1 → jX4_moveFrom_L12 o (iZ w) h K (f + 1) (iZ z) = jX4_moveFrom_L12 o (iZ w) h K f (iZ (z + 1)) := by
    intro K f z h1 h2 h3
    rw [jX4_moveFrom_L12, h5, if_neg (lt_n h2 (by omega) (by omega)), iZ_sub, hsp _ (by omega) (by omega), Option.bind_some, hfr, decide_eq_false h3, Option.bind_some, if_neg (by decide), i1, iZ_add]
  have on : ∀ (f : Nat) (z : Int), 1 ≤ z → z < N → T ((w + z) % N) ≠ -1 → jX4_moveFrom_L45 o (iZ w) h (f + 1) (iZ z) = jX4_moveFrom_L45 o (iZ w) h f (iZ (z + 1)) := by
    intro f z h1 h2 h3
    rw [jX4_moveFrom_L45, h4, if_neg (le_n h2 (by omega) (by omega)), iZ_add, hsp _ (by omega) (by omega), Option.bind_some, hfr, decide_eq_false h3, Option.bind_some, if_neg (by decide), i1, iZ_add]
  rcases mvO_cases hb.1 hw hs hTs with ⟨h1, h2⟩ | ⟨h1, k, k1, k2, k3, h2, g3, g4⟩ | ⟨h1, g5, k, k1, k2, h2, g3, g4⟩
  · rw [decide_eq_true h1, if_pos rfl, h2]; rfl
  · rw [decide_eq_false h1, if_neg (by decide), h2]
    refine loopN (fun f (x : Int32) => jX4_moveFrom_L12 o (iZ w) h (jX4_moveFrom_L45 o (iZ w) h FU 1) f x) iZ (a := 1) (b := k) k1 (fun f z q1 q2 => back _ f z q1 (by omega) (g3 z q1 q2)) (fun f => ?_) FU (FU_gt (by omega))
    show jX4_moveFrom_L12 o (iZ w) h _ (f + 1) (iZ k) = _
    rw [jX4_moveFrom_L12, h5, if_neg (lt_n k2 (by omega) (by omega)), iZ_sub, hsp _ (by omega) (by omega), Option.bind_some, hfr, decide_eq_true g4, Option.bind_some, if_pos rfl, iZ_neg]
  · rw [decide_eq_false h1, if_neg (by decide), h2]
    have hon : jX4_moveFrom_L45 o (iZ w) h FU 1 = some (iZ k) := by
      refine loopN (fun f (x : Int32) => jX4_moveFrom_L45 o (iZ w) h f x) iZ (a := 1) (b := k) k1 (fun f z q1 q2 => on f z q1 (by omega) (g3 z q1 q2)) (fun f => ?_) FU (FU_gt (by omega))
      show jX4_moveFrom_L45 o (iZ w) h (f + 1) (iZ k) = _
      rw [jX4_moveFrom_L45, h4, if_neg (le_n k2 (by omega) (by omega)), iZ_add, hsp _ (by omega) (by omega), Option.bind_some, hfr, decide_eq_true g4, Option.bind_some, if_pos rfl]
    rw [hon]
    refine loopN (fun f (x : Int32) => jX4_moveFrom_L12 o (iZ w) h (some (iZ k)) f x) iZ (a := 1) (b := b + 1) (by omega) (fun f z q1 q2 => back _ f z q1 (by omega) (g5 z q1 (by omega))) (fun f => ?_) FU (FU_gt (by omega))
    show jX4_moveFrom_L12 o (iZ w) h _ (f + 1) (iZ (b + 1)) = _
    rw [jX4_moveFrom_L12, h5, if_pos (lt_y (by omega) (by omega) (by omega))]
/-- on the line -/
theorem x4_moveL {h : HD} {o : Nat} {n b w m : Int} {T : Int → Int} (h4 : gI h (2, o, 0) 4 = iZ n) (h5 : gI h (2, o, 0) 5 = iZ b) (h6 : gI h (2, o, 0) 6 = iZ 0) (hN : n ≤ 11) (hb : 0 ≤ b ∧ b ≤ 5) (hT : IsA h (2, o, 4) n T) (hB : TB T) (hw : 0 ≤ w ∧ w < n)
    (hm : (T w = -1 ∧ m = 0) ∨ (T w ≠ -1 ∧ ∃ k, 1 ≤ k ∧ k ≤ b ∧ k ≤ w ∧ m = -k ∧ (∀ i, 1 ≤ i → i < k → T (w - i) ≠ -1) ∧ T (w - k) = -1) ∨ (T w ≠ -1 ∧ (∀ i, 1 ≤ i → i ≤ b → i ≤ w → T (w - i) ≠ -1) ∧ ∃ k, 1 ≤ k ∧ w + k < n ∧ m = k ∧ (∀ i, 1 ≤ i → i < k → T (w + i) ≠ -1) ∧ T (w + k) = -1)) : jX4_moveFrom o (iZ w) h = some (iZ m) := by
  have hfr : ∀ a, -100 ≤ a → a ≤ 100 → jX4_isFree o (iZ a) h = some (decide (0 ≤ a ∧ a < n ∧ T a = -1)) := fun a q1 q2 => x4_isFree h4 (by omega) (by omega) hT hB (by omega) (by omega)
  have hsp : ∀ a, jX4_spotAt o a h = some a := fun a => x4_spotL h6
  unfold jX4_moveFrom
  rw [hfr w (by omega) (by omega), Option.bind_some]
  have back : ∀ (K : Option Int32) (f : Nat) (z : Int), 1 ≤ z → z ≤ b → (z ≤ w → T (w - z) ≠ -1) → jX4_moveFrom_L12 o (iZ w) h K (f + 1) (iZ z) = jX4_moveFrom_L12 o (iZ w) h K f (iZ (z + 1)) := by
    intro K f z h1 h2 h3
    rw [jX4_moveFrom_L12, h5, if_neg (lt_n h2 (by omega) (by omega)), iZ_sub, hsp, Option.bind_some, hfr _ (by omega) (by omega), decide_eq_false (fun q => h3 (by omega) q.2.2), Option.bind_some, if_neg (by decide), i1, iZ_add]
  rcases hm with ⟨h1, h2⟩ | ⟨h1, k, k1, k2, k3, h2, g3, g4⟩ | ⟨h1, g5, k, k1, k2, h2, g3, g4⟩
  · rw [decide_eq_true ⟨hw.1, hw.2, h1⟩, if_pos rfl, h2]; rfl
  · rw [decide_eq_false (fun q => h1 q.2.2), if_neg (by decide), h2]
    refine loopN (fun f (x : Int32) => jX4_moveFrom_L12 o (iZ w) h (jX4_moveFrom_L45 o (iZ w) h FU 1) f x) iZ (a := 1) (b := k) k1 (fun f z q1 q2 => back _ f z q1 (by omega) (fun _ => g3 z q1 q2)) (fun f => ?_) FU (FU_gt (by omega))
    show jX4_moveFrom_L12 o (iZ w) h _ (f + 1) (iZ k) = _
    rw [jX4_moveFrom_L12, h5, if_neg (lt_n k2 (by omega) (by omega)), iZ_sub, hsp, Option.bind_some, hfr _ (by omega) (by omega), decide_eq_true ⟨by omega, by omega, g4⟩, Option.bind_some, if_pos rfl, iZ_neg]
  · rw [decide_eq_false (fun q => h1 q.2.2), if_neg (by decide), h2]
    have hon : jX4_moveFrom_L45 o (iZ w) h FU 1 = some (iZ k) := by
      refine loopN (fun f (x : Int32) => jX4_moveFrom_L45 o (iZ w) h f x) iZ (a := 1) (b := k) k1 (fun f z q1 q2 => ?_) (fun f => ?_) FU (FU_gt (by omega))
      · show jX4_moveFrom_L45 o (iZ w) h (f + 1) (iZ z) = _
        rw [jX4_moveFrom_L45, h4, if_neg (le_n (by omega) (by omega) (by omega)), iZ_add, hsp, Option.bind_some, hfr _ (by omega) (by omega), decide_eq_false (fun q => g3 z q1 q2 q.2.2), Option.bind_some, if_neg (by decide), i1, iZ_add]
      · show jX4_moveFrom_L45 o (iZ w) h (f + 1) (iZ k) = _
        rw [jX4_moveFrom_L45, h4, if_neg (le_n (by omega) (by omega) (by omega)), iZ_add, hsp, Option.bind_some, hfr _ (by omega) (by omega), decide_eq_true ⟨by omega, by omega, g4⟩, Option.bind_some, if_pos rfl]
    rw [hon]
    refine loopN (fun f (x : Int32) => jX4_moveFrom_L12 o (iZ w) h (some (iZ k)) f x) iZ (a := 1) (b := b + 1) (by omega) (fun f z q1 q2 => back _ f z q1 (by omega) (fun q3 => g5 z q1 (by omega) q3)) (fun f => ?_) FU (FU_gt (by omega))
    show jX4_moveFrom_L12 o (iZ w) h _ (f + 1) (iZ (b + 1)) = _
    rw [jX4_moveFrom_L12, h5, if_pos (lt_y (by omega) (by omega) (by omega))]
theorem x4_open (h : HD) (o : Nat) {N b : Int} (p3 : Bool) (pf M P : Int → Int) (hN : N ≤ 12) (hN0 : 0 ≤ N) : ∃ h2, jX4_open o (iZ N) (iZ b) p3 h = some h2 ∧ Fr (sPk o) h h2 ∧ PkC h2 o N b (b1 p3) pf (fun _ => -1) M P 0 := by
  have hS : ∀ j k, sPk o (2, o, j) k = true := fun j k => decide_eq_true ⟨rfl, rfl⟩
  have hb : b2i p3 = iZ (b1 p3) := by cases p3 <;> rfl
  have ne : ∀ j k : Nat, j ≠ k → ((2, o, j) : Rf) ≠ (2, o, k) := fun j k hj e => hj (congrArg (fun r : Rf => r.2.2) e)
  have key : ∀ v : Int32, v = iZ N → ∃ h2, (lt (sI h (2, o, 0) 4 v) fun h6 => lt (sI h6 (2, o, 0) 5 (iZ b)) fun h7 => lt (sI h7 (2, o, 0) 6 (b2i p3)) fun h8 => lt (sI h8 (2, o, 0) 7 (0 : Int32)) fun h9 => (jJ7_fill_53178 (2, o, 4) (-1 : Int32) h9).bind fun q10 => some q10) = some h2 ∧ Fr (sPk o) h h2 ∧ PkC h2 o N b (b1 p3) pf (fun _ => -1) M P 0 := by
    intro v hv
    subst hv
    obtain ⟨h2, e2, f2, a2⟩ := j_fill (2, o, 4) (-1) (n := 12) rfl (by decide) (sI (sI (sI (sI h (2, o, 0) 4 (iZ N)) (2, o, 0) 5 (iZ b)) (2, o, 0) 6 (b2i p3)) (2, o, 0) 7 0)
    refine ⟨h2, ?_, ?_, ?_, ?_, ?_, ?_, fun z q1 q2 => by omega, fun z q1 q2 => by omega, fun z q1 q2 => by omega, fun z q1 q2 => a2 z q1 (by omega)⟩
    · rw [lt_eq, lt_eq, lt_eq, lt_eq, im1, e2]; rfl
    · refine Fr.tr ((((Fr.rf.sI (hS 0 4) (iZ N)).sI (hS 0 5) (iZ b)).sI (hS 0 6) (b2i p3)).sI (hS 0 7) 0) (f2.mono fun r k q => ?_)
      refine decide_eq_false fun e => ?_
      rw [e, hS] at q
      cases q
    · rw [f2.1 _ _ (decide_eq_false (ne 0 4 (by decide)))]; simp only [gI_sI, gI_sI, gJ_sI, gK_sI, gO_sI, gI_sJ, gJ_sJ, gK_sJ, gO_sJ, Prod.mk.injEq, and_true, true_and, and_false, false_and, and_self, ↓reduceIte, Nat.reduceEqDiff]
    · rw [f2.1 _ _ (decide_eq_false (ne 0 4 (by decide)))]; simp only [gI_sI, gI_sI, gJ_sI, gK_sI, gO_sI, gI_sJ, gJ_sJ, gK_sJ, gO_sJ, Prod.mk.injEq, and_true, true_and, and_false, false_and, and_self, ↓reduceIte, Nat.reduceEqDiff]
    · rw [f2.1 _ _ (decide_eq_false (ne 0 4 (by decide))), ← hb]; simp only [gI_sI, gI_sI, gJ_sI, gK_sI, gO_sI, gI_sJ, gJ_sJ, gK_sJ, gO_sJ, Prod.mk.injEq, and_true, true_and, and_false, false_and, and_self, ↓reduceIte, Nat.reduceEqDiff]
    · rw [f2.1 _ _ (decide_eq_false (ne 0 4 (by decide)))]; simp only [gI_sI, gI_sI, gJ_sI, gK_sI, gO_sI, gI_sJ, gJ_sJ, gK_sJ, gO_sJ, Prod.mk.injEq, and_true, true_and, and_false, false_and, and_self, ↓reduceIte, Nat.reduceEqDiff]; rfl
  unfold jX4_open
  by_cases h12 : N = 12
  · subst h12
    rw [i12, if_pos (le_y (by omega) (by omega) (by omega)), ← i12]
    exact key 12 rfl
  · rw [i12, if_neg (le_n (by omega) (by omega) (by omega))]
    exact key _ rfl
/-- the first free spot is noted -/
theorem x4_findFree {h : HD} {o : Nat} {N b rnd c : Int} {pf T M P : Int → Int} (hP : PkC h o N b rnd pf T M P c) (hN : N ≤ 12) (hN0 : 0 ≤ N) (hB : TB T) : ∃ h2, jX4_findFree o h = some h2 ∧ Fr (sPk o) h h2 ∧ PkC h2 o N b rnd pf T M P c ∧ (∀ g, fnd (fun s => decide (T s = -1)) N.toNat 0 = g → g < N → gI h2 (2, o, 0) 8 = iZ g) := by
  have hS : ∀ j k, sPk o (2, o, j) k = true := fun j k => decide_eq_true ⟨rfl, rfl⟩
  have hP1 := hP.s8 (iZ (-1))
  have e8 : ∀ v, gI (sI h (2, o, 0) 8 v) (2, o, 0) 8 = v := fun v => by rw [gI_sI, if_pos ⟨rfl, rfl⟩]
  have hfr : ∀ a, 0 ≤ a → a < N → jX4_isFree o (iZ a) (sI h (2, o, 0) 8 (iZ (-1))) = some (decide (T a = -1)) := fun a q1 q2 => by
    rw [x4_isFree hP1.1 hN hN0 hP1.2.2.2.2.2.2.2 hB (by omega) (by omega)]
    by_cases q : T a = -1
    · rw [decide_eq_true q, decide_eq_true ⟨q1, q2, q⟩]
    · rw [decide_eq_false q, decide_eq_false (fun z => q z.2.2)]
  obtain ⟨g, hg⟩ : ∃ g, fnd (fun s => decide (T s = -1)) N.toNat 0 = g := ⟨_, rfl⟩
  have g1 := fnd_ge (fun s => decide (T s = -1)) N.toNat 0
  have g2 : ∀ z, 0 ≤ z → z < g → T z ≠ -1 := fun z q1 q2 => of_decide_eq_false (fnd_not (fun s => decide (T s = -1)) N.toNat 0 z q1 (by omega))
  have step : ∀ (f : Nat) (z : Int), 0 ≤ z → z < g → jX4_findFree_L7 o (f + 1) (iZ z) (sI h (2, o, 0) 8 (iZ (-1))) = jX4_findFree_L7 o f (iZ (z + 1)) (sI h (2, o, 0) 8 (iZ (-1))) := by
    intro f z q1 q2
    rw [jX4_findFree_L7, hP1.1, if_neg (le_n (by omega) (by omega) (by omega)), e8, im1, if_pos rfl, hfr z q1 (by omega), decide_eq_false (g2 z q1 q2), Option.bind_some, if_neg (by decide), i1, iZ_add]
  unfold jX4_findFree
  rw [lt_eq, im1, i0]
  by_cases hlt : g < N
  · have g3 : T g = -1 := by
      have := fnd_is (fun s => decide (T s = -1)) N.toNat 0 (by omega)
      rw [hg] at this
      exact of_decide_eq_true this
    refine ⟨sI (sI h (2, o, 0) 8 (iZ (-1))) (2, o, 0) 8 (iZ g), ?_, ((Fr.rf.sI (hS 0 8) _).sI (hS 0 8) _), hP1.s8 _, fun g4 q1 q2 => ?_⟩
    · refine loopM 1 (fun f (x : Int32) => jX4_findFree_L7 o f x (sI h (2, o, 0) 8 (iZ (-1)))) iZ (a := 0) (b := g) (by omega) (fun f z q1 q2 => step f z q1 q2) (fun f => ?_) FU (FU_gt (by omega))
      show jX4_findFree_L7 o (f + 1 + 1) (iZ g) _ = _
      have e9 : gI (sI (sI h (2, o, 0) 8 (iZ (-1))) (2, o, 0) 8 (iZ g)) (2, o, 0) 8 = iZ g := by rw [gI_sI, if_pos ⟨rfl, rfl⟩]
      rw [jX4_findFree_L7, hP1.1, if_neg (le_n (by omega) (by omega) (by omega)), e8, im1, if_pos rfl, hfr g (by omega) hlt, decide_eq_true g3, Option.bind_some, if_pos rfl, lt_eq, jX4_findFree_L7, (hP1.s8 (iZ g)).1, e9, im1, if_neg (eq_n (a := g) (by omega) (by omega) (by omega) (by omega) (by omega)), ite_self]
    · rw [gI_sI, if_pos ⟨rfl, rfl⟩, ← q1, hg]
  · refine ⟨sI h (2, o, 0) 8 (iZ (-1)), ?_, (Fr.rf.sI (hS 0 8) _), hP1, fun g4 q1 q2 => by omega⟩
    refine loopN (fun f (x : Int32) => jX4_findFree_L7 o f x (sI h (2, o, 0) 8 (iZ (-1)))) iZ (a := 0) (b := N) hN0 (fun f z q1 q2 => step f z q1 (by omega)) (fun f => ?_) FU (FU_gt (by omega))
    show jX4_findFree_L7 o (f + 1) (iZ N) _ = _
    rw [jX4_findFree_L7, hP1.1, if_pos (le_y (by omega) (by omega) (by omega))]
/-- the cars of a row of the class: how many, BACK, preferences -/
def PrC (h : HD) (o : Nat) (n b : Int) (pf : Int → Int) : Prop := gI h (1, o, 0) 2 = iZ n ∧ gI h (1, o, 0) 3 = iZ b ∧ IsA h (1, o, 2) n pf
/-- a row of cars as it may be -/
def PrOk (n b : Int) (pf : Int → Int) : Prop := 0 ≤ n ∧ n ≤ 11 ∧ 0 ≤ b ∧ b ≤ 5 ∧ Pf n pf
theorem PrC.fr {S : Rf → Nat → Bool} {h h2 : HD} {o : Nat} {n b : Int} {pf : Int → Int} (hR : PrC h o n b pf) (hF : Fr S h h2) (hs : ∀ j k, S (1, o, j) k = false) : PrC h2 o n b pf := ⟨(hF.1 _ _ (hs _ _)).trans hR.1, (hF.1 _ _ (hs _ _)).trans hR.2.1, hR.2.2.fr hF (fun k => hs _ k)⟩
theorem sPk_1 (o q : Nat) : ∀ j k, sPk o (1, q, j) k = false := fun j k => decide_eq_false (fun e => by have := e.1; omega)
theorem x2_hasCar {h : HD} {o : Nat} {n z : Int} (h2 : gI h (1, o, 0) 2 = iZ n) (hn : 0 ≤ n ∧ n ≤ 11) (hz1 : -2147483648 ≤ z) (hz2 : z < 2147483648) : jX2_hasCar o (iZ z) h = decide (0 ≤ z ∧ z < n) := by
  unfold jX2_hasCar
  rw [h2]
  by_cases h1 : z < 0
  · simp (disch := omega) only [iZ_add, iZ_sub, iZ_neg, iZ_mul, i0, i1, i2, i3, i4, i5, i6, i7, i8, i9, i10, i11, i12, i13, i16, i20, i24, i30, i31, i32, i33, i40, i41, i46, i48, i57, i59, i60, i63, i66, i78, i96, i97, i99, i100, i122, i126, i128, i200, i255, i400, i999, im1, b2i_t, b2i_f, iZ_lt_t, iZ_lt_f, iZ_le_t, iZ_le_f, iZ_eq_t, iZ_eq_f, inB_t, iZ_nat, ↓reduceIte, Option.bind_some, Option.map_some, lt_eq]
    exact (decide_eq_false (by omega)).symm
  · by_cases h3 : n ≤ z
    · simp (disch := omega) only [iZ_add, iZ_sub, iZ_neg, iZ_mul, i0, i1, i2, i3, i4, i5, i6, i7, i8, i9, i10, i11, i12, i13, i16, i20, i24, i30, i31, i32, i33, i40, i41, i46, i48, i57, i59, i60, i63, i66, i78, i96, i97, i99, i100, i122, i126, i128, i200, i255, i400, i999, im1, b2i_t, b2i_f, iZ_lt_t, iZ_lt_f, iZ_le_t, iZ_le_f, iZ_eq_t, iZ_eq_f, inB_t, iZ_nat, ↓reduceIte, Option.bind_some, Option.map_some, lt_eq]
      exact (decide_eq_false (by omega)).symm
    · simp (disch := omega) only [iZ_add, iZ_sub, iZ_neg, iZ_mul, i0, i1, i2, i3, i4, i5, i6, i7, i8, i9, i10, i11, i12, i13, i16, i20, i24, i30, i31, i32, i33, i40, i41, i46, i48, i57, i59, i60, i63, i66, i78, i96, i97, i99, i100, i122, i126, i128, i200, i255, i400, i999, im1, b2i_t, b2i_f, iZ_lt_t, iZ_lt_f, iZ_le_t, iZ_le_f, iZ_eq_t, iZ_eq_f, inB_t, iZ_nat, ↓reduceIte, Option.bind_some, Option.map_some, lt_eq]
      exact (decide_eq_true (by omega)).symm
theorem x2_pref {h : HD} {o : Nat} {n b z : Int} {pf : Int → Int} (hR : PrC h o n b pf) (hn : 0 ≤ n ∧ n ≤ 11) (h1 : 0 ≤ z) (h2 : z < n) : jX2_preferenceOf o (iZ z) h = some (iZ (pf z)) := by
  unfold jX2_preferenceOf
  rw [x2_hasCar hR.1 hn (by omega) (by omega), decide_eq_true ⟨h1, h2⟩, if_pos rfl, inB_t h1 (by omega) (by omega), if_pos rfl, iZ_nat h1 (by omega), hR.2.2 z h1 h2]
theorem tk_B {n b : Int} {pf : Int → Int} (hn : 0 ≤ n) {c : Int} (hc : 0 ≤ c) (hc2 : c ≤ 12) : TB (tkO (n + 1) b pf c) := fun s => by
  rcases tk_own (b := b) (pf := pf) hn hc s with q | q
  · rw [q]; omega
  · omega
/-- the picture of a circle on which some cars have come -/
def Pk (h : HD) (o : Nat) (n b : Int) (pf : Int → Int) (c : Int) : Prop := PkC h o (n + 1) b 1 pf (tkO (n + 1) b pf c) (mv (n + 1) b pf) (sp (n + 1) b pf) c ∧ gI h (2, o, 0) 8 = iZ (fr (n + 1) b pf c)
theorem x4_comeRound {h : HD} (o r1 : Nat) {n b c : Int} {pf : Int → Int} (hR : PrC h r1 n b pf) (hok : PrOk n b pf) (hc : 0 ≤ c) (hcn : c ≤ n) : ∃ h2, jX4_comeRound o r1 (iZ c) h = some h2 ∧ Fr (sPk o) h h2 ∧ Pk h2 o n b pf c := by
  obtain ⟨n0, n1, b0, b5, hP⟩ := hok
  unfold jX4_comeRound jX2_spots jX2_back
  rw [hR.1, hR.2.1, i1, iZ_add]
  obtain ⟨h2, e2, f2, p2⟩ := x4_open h o (N := n + 1) (b := b) true pf (mv (n + 1) b pf) (sp (n + 1) b pf) (by omega) (by omega)
  rw [e2, Option.bind_some]
  refine loopI (fun f (x : Int32 × HD) => jX4_comeRound_L15 o r1 (iZ c) (fun h4 => (jX4_findFree o h4).bind fun q5 => some q5) f x.1 x.2) (fun z x => x.1 = iZ z ∧ Fr (sPk o) h x.2 ∧ PkC x.2 o (n + 1) b 1 pf (tkO (n + 1) b pf z) (mv (n + 1) b pf) (sp (n + 1) b pf) z) (a := 0) (b := c) (fun y => ∃ h2, y = some h2 ∧ Fr (sPk o) h h2 ∧ Pk h2 o n b pf c) hc ?_ ?_ FU (iZ 0, h2) (FU_gt (by omega)) ⟨rfl, f2, p2⟩
  · intro f z x h1 h3 hI
    obtain ⟨x1, h4⟩ := x
    obtain ⟨e, hF, hK⟩ := hI
    replace e : x1 = iZ z := e
    subst e
    have hpz := hP z h1 (by omega)
    have hm := mv_in hP b0 h1 (show z < n by omega)
    obtain ⟨s, s1, s2, s3⟩ := tk_free (b := b) (pf := pf) n0 h1 (show z ≤ n by omega)
    have hsp := sp_in (b := b) (pf := pf) n0 z
    have hmove := x4_moveR (o := o) (w := pf z) hK.1 hK.2.1 hK.2.2.1 (by omega) ⟨b0, b5⟩ hK.2.2.2.2.2.2.2 (tk_B n0 h1 (by omega)) ⟨hpz.1, by omega⟩ (⟨s1, by omega⟩ : 0 ≤ s ∧ s < n + 1) s3
    have hspot := x4_spotR (o := o) (a := pf z + mv (n + 1) b pf z) hK.1 hK.2.2.1 (by omega) (by omega) (by omega) (by omega)
    obtain ⟨h5, e5, f5, p5⟩ := x4_bring hK (by omega) (by omega) h1 (by omega) (tk_B n0 h1 (by omega)) rfl rfl rfl hsp.1 (by omega) (sp_free hP b0 h1 (by omega)) hmove (by rw [iZ_add]; exact hspot)
    refine ⟨(iZ (z + 1), h5), ?_, rfl, hF.tr f5, ?_⟩
    · show jX4_comeRound_L15 o r1 (iZ c) _ (f + 1) (iZ z) h4 = _
      rw [jX4_comeRound_L15, if_neg (le_n h3 (by omega) (by omega)), x2_pref (hR.fr hF (sPk_1 o r1)) ⟨n0, n1⟩ h1 (by omega), Option.bind_some, e5, Option.bind_some, i1, iZ_add]
    · have : tkO (n + 1) b pf (z + 1) = fun i => if i = sp (n + 1) b pf z then z else tkO (n + 1) b pf z i := funext fun i => tk_s _ _ _ h1 i
      show PkC h5 o (n + 1) b 1 pf (tkO (n + 1) b pf (z + 1)) _ _ (z + 1)
      rw [this]
      exact p5
  · intro f x hI
    obtain ⟨x1, h4⟩ := x
    obtain ⟨e, hF, hK⟩ := hI
    replace e : x1 = iZ c := e
    subst e
    obtain ⟨h5, e5, f5, p5, g5⟩ := x4_findFree hK (by omega) (by omega) (tk_B n0 hc (by omega))
    refine ⟨h5, ?_, hF.tr f5, p5, ?_⟩
    · show jX4_comeRound_L15 o r1 (iZ c) _ (f + 1) (iZ c) h4 = _
      rw [jX4_comeRound_L15, if_pos (le_y (by omega) (by omega) (by omega)), e5]
      rfl
    · have := fr_in (b := b) (pf := pf) n0 hc hcn
      exact g5 _ rfl (by show fr (n + 1) b pf c < n + 1; omega)
/-- the circle when all have come -/
theorem x8_parked {h : HD} {n b : Int} {pf : Int → Int} (hR : PrC h 0 n b pf) (hok : PrOk n b pf) : ∃ h2, jX8_parked h = some h2 ∧ Fr (sPk 0) h h2 ∧ Pk h2 0 n b pf n := by
  obtain ⟨h2, e2, f2, p2⟩ := x4_comeRound 0 0 hR hok hok.1 (Int.le_refl n)
  refine ⟨h2, ?_, f2, p2⟩
  unfold jX8_parked jX2_count
  rw [hR.1, e2]
  rfl
section
variable {h : HD} {n b : Int} {pf : Int → Int}
theorem x4_turn (hK : Pk h 0 n b pf n) : jX4_turnNumber 0 h = iZ (tn n b pf) := by
  unfold jX4_turnNumber
  rw [hK.1.1, hK.2, i1, iZ_sub, iZ_sub]
  unfold tn
  rw [show n + 1 - 1 - fr (n + 1) b pf n = n - fr (n + 1) b pf n by omega]
theorem x4_turned (hK : Pk h 0 n b pf n) (hok : PrOk n b pf) {z : Int} (h1 : 0 ≤ z) (h2 : z < n) : jX4_turnedPreferenceOf 0 (iZ z) h = some (iZ (tw n b pf z)) := by
  have ht := tn_in (b := b) (pf := pf) hok.1
  have hp := hok.2.2.2.2 z h1 h2
  have hn := hok.2.1
  have hn0 := hok.1
  unfold jX4_turnedPreferenceOf
  rw [x4_hasCome hK.1.2.2.2.1 hok.1 hn (by omega) (by omega), decide_eq_true ⟨h1, h2⟩, if_pos rfl, inB_t h1 (by omega) (by omega), if_pos rfl, iZ_nat h1 (by omega), hK.1.2.2.2.2.1 z h1 h2, x4_turn hK, iZ_add, hK.1.1, w_wrapped h (by omega) (by omega) (by omega) (by omega)]
  rfl
theorem x4_spotOf {o : Nat} {c : Int} {rnd N b : Int} {T M P : Int → Int} (hK : PkC h o N b rnd pf T M P c) (hc : 0 ≤ c ∧ c ≤ 11) {z : Int} (h1 : 0 ≤ z) (h2 : z < c) : jX4_spotOf o (iZ z) h = some (iZ (P z)) := by
  unfold jX4_spotOf
  rw [x4_hasCome hK.2.2.2.1 hc.1 hc.2 (by omega) (by omega), decide_eq_true ⟨h1, h2⟩, if_pos rfl, inB_t h1 (by omega) (by omega), if_pos rfl, iZ_nat h1 (by omega), hK.2.2.2.2.2.2.1 z h1 h2]
theorem x4_movedOf {o : Nat} {c : Int} {rnd N b : Int} {T M P : Int → Int} (hK : PkC h o N b rnd pf T M P c) (hc : 0 ≤ c ∧ c ≤ 11) {z : Int} (h1 : 0 ≤ z) (h2 : z < c) : jX4_movedOf o (iZ z) h = some (iZ (M z)) := by
  unfold jX4_movedOf
  rw [x4_hasCome hK.2.2.2.1 hc.1 hc.2 (by omega) (by omega), decide_eq_true ⟨h1, h2⟩, if_pos rfl, inB_t h1 (by omega) (by omega), if_pos rfl, iZ_nat h1 (by omega), hK.2.2.2.2.2.1 z h1 h2]
theorem x4_isLucky (hK : Pk h 0 n b pf n) (hok : PrOk n b pf) {z : Int} (h1 : 0 ≤ z) (h2 : z < n) : jX4_isLucky 0 (iZ z) h = some (decide (mv (n + 1) b pf z = 0)) := by
  have hn := hok.2.1
  have hn0 := hok.1
  have hp := hok.2.2.2.2 z h1 h2
  have hs := sp_in (b := b) (pf := pf) hok.1 z
  unfold jX4_isLucky
  rw [x4_hasCome hK.1.2.2.2.1 hok.1 hn (by omega) (by omega), decide_eq_true ⟨h1, h2⟩, if_pos rfl, inB_t h1 (by omega) (by omega), if_pos rfl, if_pos rfl, iZ_nat h1 (by omega), hK.1.2.2.2.2.2.2.1 z h1 h2, hK.1.2.2.2.2.1 z h1 h2]
  by_cases q : mv (n + 1) b pf z = 0
  · rw [decide_eq_true q, if_pos (by rw [(lucky_iff hok.2.2.2.2 hok.2.2.1 h1 h2).mpr q])]
  · rw [decide_eq_false q, if_neg (fun e => by
      rw [iZ_eq (by omega) (by omega) (by omega) (by omega)] at e
      exact q ((lucky_iff hok.2.2.2.2 hok.2.2.1 h1 h2).mp e))]
/-- LUCKY cars, AREA, WAY -/
def lkN (n b : Int) (pf : Int → Int) : Int := sm_ (fun c => b1 (decide (mv (n + 1) b pf c = 0))) n
def arN (n b : Int) (pf : Int → Int) : Int := sm_ (fun c => mv (n + 1) b pf c) n
def abZ (z : Int) : Int := if 0 ≤ z then z else -z
def wyN (n b : Int) (pf : Int → Int) : Int := sm_ (fun c => abZ (mv (n + 1) b pf c)) n
theorem x4_lucky (hK : Pk h 0 n b pf n) (hok : PrOk n b pf) : jX4_luckyCars 0 h = some (iZ (lkN n b pf)) := by
  have hn := hok.2.1
  have hn0 := hok.1
  have h7 := hK.1.2.2.2.1
  refine loopN (fun f (x : Int32 × Int32) => jX4_luckyCars_L4 0 h f x.1 x.2) (fun z => (iZ (sm_ (fun c => b1 (decide (mv (n + 1) b pf c = 0))) z), iZ z)) (a := 0) (b := n) hok.1 (fun f z h1 h2 => ?_) (fun f => ?_) FU (FU_gt (by omega))
  · show jX4_luckyCars_L4 0 h (f + 1) _ (iZ z) = jX4_luckyCars_L4 0 h f _ _
    rw [jX4_luckyCars_L4, h7, if_neg (le_n h2 (by omega) (by omega)), x4_isLucky hK hok h1 h2, Option.bind_some, sm_s _ h1, i1, iZ_add, iZ_add]
    cases decide (mv (n + 1) b pf z = 0)
    · rw [if_neg (by decide), show b1 false = 0 from rfl, Int.add_zero]
    · rw [if_pos rfl]; rfl
  · show jX4_luckyCars_L4 0 h (f + 1) _ (iZ n) = _
    rw [jX4_luckyCars_L4, h7, if_pos (le_y (by omega) (by omega) (by omega))]
    rfl
theorem x4_area (hK : Pk h 0 n b pf n) (hok : PrOk n b pf) : jX4_area 0 h = some (iZ (arN n b pf)) := by
  have hn := hok.2.1
  have hn0 := hok.1
  have h7 := hK.1.2.2.2.1
  refine loopN (fun f (x : Int32 × Int32) => jX4_area_L4 0 h f x.1 x.2) (fun z => (iZ (sm_ (fun c => mv (n + 1) b pf c) z), iZ z)) (a := 0) (b := n) hok.1 (fun f z h1 h2 => ?_) (fun f => ?_) FU (FU_gt (by omega))
  · show jX4_area_L4 0 h (f + 1) _ (iZ z) = jX4_area_L4 0 h f _ _
    rw [jX4_area_L4, h7, if_neg (le_n h2 (by omega) (by omega)), x4_movedOf hK.1 ⟨hok.1, hn⟩ h1 h2, Option.bind_some, sm_s _ h1, i1, iZ_add, iZ_add]
  · show jX4_area_L4 0 h (f + 1) _ (iZ n) = _
    rw [jX4_area_L4, h7, if_pos (le_y (by omega) (by omega) (by omega))]
    rfl
theorem x4_way (hK : Pk h 0 n b pf n) (hok : PrOk n b pf) : jX4_wayOfAll 0 h = some (iZ (wyN n b pf)) := by
  have hn := hok.2.1
  have hn0 := hok.1
  have h7 := hK.1.2.2.2.1
  refine loopN (fun f (x : Int32 × Int32) => jX4_wayOfAll_L4 0 h f x.1 x.2) (fun z => (iZ (sm_ (fun c => abZ (mv (n + 1) b pf c)) z), iZ z)) (a := 0) (b := n) hok.1 (fun f z h1 h2 => ?_) (fun f => ?_) FU (FU_gt (by omega))
  · show jX4_wayOfAll_L4 0 h (f + 1) _ (iZ z) = jX4_wayOfAll_L4 0 h f _ _
    have hm := mv_in hok.2.2.2.2 hok.2.2.1 h1 h2
    have ea : (if 0 ≤ iZ (mv (n + 1) b pf z) then iZ (mv (n + 1) b pf z) else 0 - iZ (mv (n + 1) b pf z)) = iZ (abZ (mv (n + 1) b pf z)) := by
      unfold abZ
      by_cases q : 0 ≤ mv (n + 1) b pf z
      · rw [if_pos q, i0, if_pos (le_y (by omega) (by omega) (by omega))]
      · rw [if_neg q, i0, if_neg (le_n (by omega) (by omega) (by omega)), iZ_sub, Int.zero_sub]
    rw [jX4_wayOfAll_L4, h7, if_neg (le_n h2 (by omega) (by omega)), x4_movedOf hK.1 ⟨hok.1, hn⟩ h1 h2, Option.bind_some, ea, sm_s _ h1, i1, iZ_add, iZ_add]
  · show jX4_wayOfAll_L4 0 h (f + 1) _ (iZ n) = _
    rw [jX4_wayOfAll_L4, h7, if_pos (le_y (by omega) (by omega) (by omega))]
    rfl
/-- BREAKS -/
def isB (n b : Int) (pf : Int → Int) (k : Int) : Bool := decide (sm_ (fun c => b1 (decide (tw n b pf c < k))) n = k)
def brN (n b : Int) (pf : Int → Int) : Int := sm_ (fun k => b1 (isB n b pf (k + 1))) n
theorem x4_isBreak (hK : Pk h 0 n b pf n) (hok : PrOk n b pf) {k : Int} (k1 : -100 ≤ k) (k2 : k ≤ 100) : jX4_isBreak 0 (iZ k) h = some (isB n b pf k) := by
  have hn := hok.2.1
  have hn0 := hok.1
  have h7 := hK.1.2.2.2.1
  have hsb : 0 ≤ sm_ (fun c => b1 (decide (tw n b pf c < k))) n ∧ sm_ (fun c => b1 (decide (tw n b pf c < k))) n ≤ n * 1 := sm_bound hok.1 (fun c _ _ => by
    have : ∀ x : Bool, 0 ≤ b1 x ∧ b1 x ≤ 1 := by decide
    exact this _)
  unfold jX4_isBreak
  refine loopN (fun f (x : Int32 × Int32) => jX4_isBreak_L4 0 (iZ k) h (fun y4_2 => (if y4_2 = (iZ k) then some true else some false)) f x.1 x.2) (fun z => (iZ (sm_ (fun c => b1 (decide (tw n b pf c < k))) z), iZ z)) (a := 0) (b := n) hok.1 (fun f z h1 h2 => ?_) (fun f => ?_) FU (FU_gt (by omega))
  · show jX4_isBreak_L4 0 (iZ k) h _ (f + 1) _ (iZ z) = jX4_isBreak_L4 0 (iZ k) h _ f _ _
    have ht := tw_in (b := b) (pf := pf) hok.1 z
    rw [jX4_isBreak_L4, h7, if_neg (le_n h2 (by omega) (by omega)), x4_turned hK hok h1 h2, Option.bind_some, sm_s _ h1, i1, iZ_add, iZ_add]
    by_cases q : tw n b pf z < k
    · rw [if_neg (le_n (by omega) (by omega) (by omega)), decide_eq_true q]; rfl
    · rw [if_pos (le_y (by omega) (by omega) (by omega)), decide_eq_false q, show b1 false = 0 from rfl, Int.add_zero]
  · show jX4_isBreak_L4 0 (iZ k) h _ (f + 1) _ (iZ n) = _
    rw [jX4_isBreak_L4, h7, if_pos (le_y (by omega) (by omega) (by omega))]
    unfold isB
    by_cases q : sm_ (fun c => b1 (decide (tw n b pf c < k))) n = k
    · rw [if_pos (by rw [q]), decide_eq_true q]
    · rw [if_neg (eq_n (by omega) (by omega) (by omega) (by omega) (by omega)), decide_eq_false q]
theorem x4_breaks (hK : Pk h 0 n b pf n) (hok : PrOk n b pf) : jX4_breaks 0 h = some (iZ (brN n b pf)) := by
  have hn := hok.2.1
  have hn0 := hok.1
  have h7 := hK.1.2.2.2.1
  refine loopN (fun f (x : Int32 × Int32) => jX4_breaks_L4 0 h f x.1 x.2) (fun z => (iZ (sm_ (fun k => b1 (isB n b pf (k + 1))) z), iZ (z + 1))) (a := 0) (b := n) hok.1 (fun f z h1 h2 => ?_) (fun f => ?_) FU (FU_gt (by omega))
  · show jX4_breaks_L4 0 h (f + 1) _ (iZ (z + 1)) = jX4_breaks_L4 0 h f _ _
    rw [jX4_breaks_L4, h7, if_neg (lt_n (by omega) (by omega) (by omega)), x4_isBreak hK hok (by omega) (by omega), Option.bind_some, sm_s _ h1, i1, iZ_add, iZ_add]
    cases isB n b pf (z + 1)
    · rw [if_neg (by decide), show b1 false = 0 from rfl, Int.add_zero]
    · rw [if_pos rfl]; rfl
  · show jX4_breaks_L4 0 h (f + 1) _ (iZ (n + 1)) = _
    rw [jX4_breaks_L4, h7, if_pos (lt_y (by omega) (by omega) (by omega))]
    rfl
/-- how many cars prefer a spot -/
def wsN (n : Int) (pf : Int → Int) (s : Int) : Int := sm_ (fun c => b1 (decide (pf c = s))) n
theorem wsN_in {s : Int} (hn : 0 ≤ n) : 0 ≤ wsN n pf s ∧ wsN n pf s ≤ n := by
  have := sm_bound (f := fun c => b1 (decide (pf c = s))) (m := 1) hn (fun c _ _ => by
    have : ∀ x : Bool, 0 ≤ b1 x ∧ b1 x ≤ 1 := by decide
    exact this _)
  unfold wsN; omega
theorem x2_wishes {o : Nat} (hR : PrC h o n b pf) (hok : PrOk n b pf) {s : Int} (s1 : -100 ≤ s) (s2 : s ≤ 100) : jX2_wishesFor o (iZ s) h = some (iZ (wsN n pf s)) := by
  have hn := hok.2.1
  have hn0 := hok.1
  refine loopN (fun f (x : Int32 × Int32) => jX2_wishesFor_L4 o (iZ s) h f x.1 x.2) (fun z => (iZ (sm_ (fun c => b1 (decide (pf c = s))) z), iZ z)) (a := 0) (b := n) hok.1 (fun f z h1 h2 => ?_) (fun f => ?_) FU (FU_gt (by omega))
  · show jX2_wishesFor_L4 o (iZ s) h (f + 1) _ (iZ z) = jX2_wishesFor_L4 o (iZ s) h f _ _
    have hp := hok.2.2.2.2 z h1 h2
    rw [jX2_wishesFor_L4, hR.1, if_neg (le_n h2 (by omega) (by omega)), x2_pref hR ⟨hok.1, hn⟩ h1 h2, Option.bind_some, sm_s _ h1, i1, iZ_add, iZ_add]
    by_cases q : pf z = s
    · rw [if_pos (by rw [q]), decide_eq_true q]; rfl
    · rw [if_neg (eq_n (by omega) (by omega) (by omega) (by omega) (by omega)), decide_eq_false q, show b1 false = 0 from rfl, Int.add_zero]
  · show jX2_wishesFor_L4 o (iZ s) h (f + 1) _ (iZ n) = _
    rw [jX2_wishesFor_L4, hR.1, if_pos (le_y (by omega) (by omega) (by omega))]
    rfl
def prN (n : Int) (pf : Int → Int) : Int := sm_ (fun s => b1 (decide (0 < wsN n pf s))) (n + 1)
theorem x2_preferred {o : Nat} (hR : PrC h o n b pf) (hok : PrOk n b pf) : jX2_preferredSpots o h = some (iZ (prN n pf)) := by
  have hn := hok.2.1
  have hn0 := hok.1
  have h0 := hok.1
  refine loopN (fun f (x : Int32 × Int32) => jX2_preferredSpots_L4 o h f x.1 x.2) (fun z => (iZ (sm_ (fun s => b1 (decide (0 < wsN n pf s))) z), iZ z)) (a := 0) (b := n + 1) (by omega) (fun f z h1 h2 => ?_) (fun f => ?_) FU (FU_gt (by omega))
  · show jX2_preferredSpots_L4 o h (f + 1) _ (iZ z) = jX2_preferredSpots_L4 o h f _ _
    have hw := wsN_in (pf := pf) (s := z) h0
    rw [jX2_preferredSpots_L4, hR.1, if_neg (lt_n (by omega) (by omega) (by omega)), x2_wishes hR hok (by omega) (by omega), Option.bind_some, sm_s _ h1, i1, iZ_add, iZ_add, i0]
    by_cases q : 0 < wsN n pf z
    · rw [if_neg (le_n (by omega) (by omega) (by omega)), decide_eq_true q]; rfl
    · rw [if_pos (le_y (by omega) (by omega) (by omega)), decide_eq_false q, show b1 false = 0 from rfl, Int.add_zero]
  · show jX2_preferredSpots_L4 o h (f + 1) _ (iZ (n + 1)) = _
    rw [jX2_preferredSpots_L4, hR.1, if_pos (lt_y (by omega) (by omega) (by omega))]
    rfl
end
