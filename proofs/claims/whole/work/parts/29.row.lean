/-! ROWS OF CARS: copied, one preference changed, two exchanged, a car put to a place -/
theorem Fr.cpI {S : Rf → Nat → Bool} {h h2 : HD} (a : Fr S h h2) {r t : Rf} {sp dp n : Nat} (hs : ∀ k, S t k = true) : Fr S h (cpI h2 r t sp dp n) := ⟨fun q j hq => by
    rw [gI_cpI, if_neg (fun e => by rw [e.1, hs] at hq; cases hq)]
    exact a.1 q j hq, fun q j hq => a.2.1 q j hq, a.2.2⟩
theorem Fr.cpJ {S : Rf → Nat → Bool} {h h2 : HD} (a : Fr S h h2) {r t : Rf} {sp dp n : Nat} (hs : ∀ k, S t k = true) : Fr S h (cpJ h2 r t sp dp n) := ⟨fun q j hq => a.1 q j hq, fun q j hq => by
    rw [gJ_cpJ, if_neg (fun e => by rw [e.1, hs] at hq; cases hq)]
    exact a.2.1 q j hq, a.2.2⟩
/-- a row of cars of the class -/
def s1 (o : Nat) : Rf → Nat → Bool := fun r _ => Nat.beq r.1 1 && Nat.beq r.2.1 o
theorem s1_t (o j k : Nat) : s1 o (1, o, j) k = true := by unfold s1; simp
theorem s1_f {o q : Nat} (h : q ≠ o) (j k : Nat) : s1 o (1, q, j) k = false := by
  unfold s1
  cases e : Nat.beq q o with
  | true => exact absurd (Nat.eq_of_beq_eq_true e) h
  | false => simp [e]
theorem x2_copy {h : HD} {o r : Nat} {R : Row} (hne : r ≠ o) (hC : RwC h r R) (hn : R.1 ≤ 11) : ∃ h2, jX2_copyFrom o r h = some h2 ∧ Fr (s1 o) h h2 ∧ RwC h2 o R := by
  obtain ⟨⟨p2, p3, pp⟩, pn⟩ := hC
  have ne : ∀ i j : Nat, ((1, r, i) : Rf) ≠ (1, o, j) := fun i j e => hne (congrArg (fun x : Rf => x.2.1) e)
  have nj : ∀ i j : Nat, i ≠ j → ((1, o, i) : Rf) ≠ (1, o, j) := fun i j hij e => hij (congrArg (fun x : Rf => x.2.2) e)
  refine ⟨sI (sI (cpI (cpJ h (1, r, 1) (1, o, 1) 0 0 11) (1, r, 2) (1, o, 2) 0 0 11) (1, o, 0) 2 (iZ R.1)) (1, o, 0) 3 (iZ R.2.1), ?_, ?_, ⟨?_, ?_, ?_⟩, ?_⟩
  · unfold jX2_copyFrom
    rw [lt_eq, lt_eq, lt_eq, lt_eq, gI_cpI, if_neg (fun e => ne 0 2 e.1), gI_cpJ, p2, gI_sI, if_neg (fun e => ne 0 0 e.1), gI_cpI, if_neg (fun e => ne 0 2 e.1), gI_cpJ, p3]
  · exact (((Fr.rf.cpJ (s1_t o 1)).cpI (s1_t o 2)).sI (s1_t o 0 2) _).sI (s1_t o 0 3) _
  · rw [gI_nk _ _ _ (by decide), gI_self]
  · rw [gI_self]
  · intro z h1 h2
    rw [gI_ne _ (nj 2 0 (by decide)), gI_ne _ (nj 2 0 (by decide)), gI_cpI, if_pos ⟨rfl, by omega, by omega⟩, gI_cpJ, show 0 + (z.toNat - 0) = z.toNat by omega]
    exact pp z h1 h2
  · intro z h1 h2
    rw [gJ_sI, gJ_sI, gJ_cpI, gJ_cpJ, if_pos ⟨rfl, by omega, by omega⟩, show 0 + (z.toNat - 0) = z.toNat by omega]
    exact pn z h1 h2
/-- one preference changed -/
def updP (pf : Int → Int) (z v : Int) : Int → Int := fun i => if i = z then v else pf i
theorem upd_ok {n b v z : Int} {pf : Int → Int} (ho : PrOk n b pf) (h1 : 0 ≤ v) (h2 : v ≤ n) : PrOk n b (updP pf z v) := ⟨ho.1, ho.2.1, ho.2.2.1, ho.2.2.2.1, fun c q1 q2 => by
  unfold updP
  split
  · exact ⟨h1, h2⟩
  · exact ho.2.2.2.2 c q1 q2⟩
theorem x2_chg {h : HD} {o : Nat} {n b z v : Int} {pf : Int → Int} {nm : Int → List Nat} (hC : RwC h o (n, b, pf, nm)) (hn : 0 ≤ n ∧ n ≤ 11) (h1 : 0 ≤ z) (h2 : z < n) : ∃ h2, jX2_changePreference o (iZ z) (iZ v) h = some h2 ∧ Fr (s1 o) h h2 ∧ RwC h2 o (n, b, updP pf z v, nm) := by
  obtain ⟨⟨p2, p3, pp⟩, pn⟩ := hC
  have nj : ∀ i j : Nat, i ≠ j → ((1, o, i) : Rf) ≠ (1, o, j) := fun i j hij e => hij (congrArg (fun x : Rf => x.2.2) e)
  refine ⟨sI h (1, o, 2) z.toNat (iZ v), ?_, Fr.rf.sI (s1_t o 2 _) _, ⟨?_, ?_, ?_⟩, fun y q1 q2 => pn y q1 q2⟩
  · unfold jX2_changePreference
    rw [x2_hasCar p2 hn (by omega) (by omega), decide_eq_true ⟨h1, h2⟩, if_pos rfl, inB_t (by omega) (by omega) (by omega), if_pos rfl, lt_eq, iZ_nat (by omega) (by omega)]
  · rw [gI_ne _ (nj 0 2 (by decide))]; exact p2
  · rw [gI_ne _ (nj 0 2 (by decide))]; exact p3
  · exact pp.put h1 v
theorem x2_back {h : HD} {o : Nat} {n b v : Int} {pf : Int → Int} {nm : Int → List Nat} (hC : RwC h o (n, b, pf, nm)) : ∃ h2, jX2_changeBack o (iZ v) h = some h2 ∧ Fr (s1 o) h h2 ∧ RwC h2 o (n, v, pf, nm) := by
  obtain ⟨⟨p2, p3, pp⟩, pn⟩ := hC
  have nj : ∀ i j : Nat, i ≠ j → ((1, o, i) : Rf) ≠ (1, o, j) := fun i j hij e => hij (congrArg (fun x : Rf => x.2.2) e)
  refine ⟨sI h (1, o, 0) 3 (iZ v), ?_, Fr.rf.sI (s1_t o 0 _) _, ⟨?_, gI_self _ _ _ _, ?_⟩, fun y q1 q2 => pn y q1 q2⟩
  · unfold jX2_changeBack
    rw [lt_eq]
  · rw [gI_nk _ _ _ (by decide)]; exact p2
  · exact pp.ne (nj 2 0 (by decide)) _ _
/-- two cars exchanged -/
def swf {α : Type} (f : Int → α) (x y : Int) : Int → α := fun i => if i = y then f x else if i = x then f y else f i
def swR (R : Row) (x y : Int) : Row := (R.1, R.2.1, swf R.2.2.1 x y, swf R.2.2.2 x y)
theorem x2_exch {h : HD} {o : Nat} {R : Row} {x y : Int} (hC : RwC h o R) (hn : 0 ≤ R.1 ∧ R.1 ≤ 11) (x1 : 0 ≤ x) (x2 : x < R.1) (y1 : 0 ≤ y) (y2 : y < R.1) : ∃ h2, jX2_exchange o (iZ x) (iZ y) h = some h2 ∧ Fr (s1 o) h h2 ∧ RwC h2 o (swR R x y) := by
  obtain ⟨⟨p2, p3, pp⟩, pn⟩ := hC
  have nj : ∀ i j : Nat, i ≠ j → ((1, o, i) : Rf) ≠ (1, o, j) := fun i j hij e => hij (congrArg (fun x : Rf => x.2.2) e)
  refine ⟨sI (sJ (sI (sJ h (1, o, 1) x.toNat (jZ (eC (R.2.2.2 y)))) (1, o, 2) x.toNat (iZ (R.2.2.1 y))) (1, o, 1) y.toNat (jZ (eC (R.2.2.2 x)))) (1, o, 2) y.toNat (iZ (R.2.2.1 x)), ?_, ?_, ⟨?_, ?_, ?_⟩, ?_⟩
  · unfold jX2_exchange
    rw [x2_hasCar p2 hn (by omega) (by omega), decide_eq_true ⟨x1, x2⟩, if_pos rfl, x2_hasCar p2 hn (by omega) (by omega), decide_eq_true ⟨y1, y2⟩, if_pos rfl, inB_t (z := x) (by omega) (by omega) (by omega), inB_t (z := y) (by omega) (by omega) (by omega)]
    simp only [if_true, lt_eq]
    rw [iZ_nat (z := x) (by omega) (by omega), iZ_nat (z := y) (by omega) (by omega), gI_sJ, pp x x1 x2, pp y y1 y2, pn x x1 x2, pn y y1 y2]
  · exact (((Fr.rf.sJ (s1_t o 1 _) _).sI (s1_t o 2 _) _).sJ (s1_t o 1 _) _).sI (s1_t o 2 _) _
  · rw [gI_ne _ (nj 0 2 (by decide)), gI_sJ, gI_ne _ (nj 0 2 (by decide)), gI_sJ]; exact p2
  · rw [gI_ne _ (nj 0 2 (by decide)), gI_sJ, gI_ne _ (nj 0 2 (by decide)), gI_sJ]; exact p3
  · intro z h1 h2
    show _ = iZ (swf R.2.2.1 x y z)
    unfold swf
    rw [gI_sI, gI_sJ, gI_sI, gI_sJ]
    by_cases e1 : z = y
    · rw [if_pos ⟨rfl, by rw [e1]⟩, if_pos e1]
    · rw [if_neg (fun e => e1 (by omega)), if_neg e1]
      by_cases e2 : z = x
      · rw [if_pos ⟨rfl, by rw [e2]⟩, if_pos e2]
      · rw [if_neg (fun e => e2 (by omega)), if_neg e2]
        exact pp z h1 h2
  · intro z h1 h2
    show _ = jZ (eC (swf R.2.2.2 x y z))
    unfold swf
    rw [gJ_sI, gJ_sJ, gJ_sI, gJ_sJ]
    by_cases e1 : z = y
    · rw [if_pos ⟨rfl, by rw [e1]⟩, if_pos e1]
    · rw [if_neg (fun e => e1 (by omega)), if_neg e1]
      by_cases e2 : z = x
      · rw [if_pos ⟨rfl, by rw [e2]⟩, if_pos e2]
      · rw [if_neg (fun e => e2 (by omega)), if_neg e2]
        exact pn z h1 h2
theorem swf_ok {R : Row} (hok : RwOk R) {x y : Int} (x1 : 0 ≤ x) (x2 : x < R.1) (y1 : 0 ≤ y) (y2 : y < R.1) : RwOk (swR R x y) := by
  obtain ⟨⟨a, b, c, d, e⟩, f⟩ := hok
  refine ⟨⟨a, b, c, d, fun i q1 q2 => ?_⟩, fun i q1 q2 => ?_⟩
  · show 0 ≤ swf R.2.2.1 x y i ∧ swf R.2.2.1 x y i ≤ R.1
    unfold swf
    split
    · exact e x x1 x2
    · split
      · exact e y y1 y2
      · exact e i q1 q2
  · show NmOk (swf R.2.2.2 x y i)
    unfold swf
    split
    · exact f x x1 x2
    · split
      · exact f y y1 y2
      · exact f i q1 q2
/-! the reference's rows -/
def s2 (r t : Rf) : Rf → Nat → Bool := fun q _ => decide (q = r ∨ q = t)
theorem x9_cpRow {h : HD} {r t : Rf} {a c : Int} {m k : Nat} (hr : (arrT r).2 = m) (ht : (arrT t).2 = k) (hne : r ≠ t) (a0 : 0 ≤ a) (a1 : a + 13 ≤ m) (c0 : 0 ≤ c) (c1 : c + 13 ≤ k) (hm : m ≤ 1000) (hk : k ≤ 1000) : ∃ h2, jX9_copiesRow r (iZ a) t (iZ c) h = some h2 ∧ Fr (fun q _ => decide (q = t)) h h2 ∧ (∀ z : Int, 0 ≤ z → z < 13 → gI h2 t (c + z).toNat = gI h r (a + z).toNat) ∧ (∀ j : Nat, (j : Int) < c ∨ c + 13 ≤ j → gI h2 t j = gI h t j) ∧ (∀ q j, gJ h2 q j = gJ h q j) := by
  refine loopI (fun f (x : Int32 × HD) => jX9_copiesRow_L3 r (iZ a) t (iZ c) f x.1 x.2) (fun y x => x.1 = iZ y ∧ Fr (fun q _ => decide (q = t)) h x.2 ∧ (∀ z : Int, 0 ≤ z → z < y → gI x.2 t (c + z).toNat = gI h r (a + z).toNat) ∧ (∀ j : Nat, (j : Int) < c ∨ c + 13 ≤ j → gI x.2 t j = gI h t j) ∧ (∀ q j, gJ x.2 q j = gJ h q j)) (a := 0) (b := 13) (fun y => ∃ h2, y = some h2 ∧ Fr (fun q _ => decide (q = t)) h h2 ∧ (∀ z : Int, 0 ≤ z → z < 13 → gI h2 t (c + z).toNat = gI h r (a + z).toNat) ∧ (∀ j : Nat, (j : Int) < c ∨ c + 13 ≤ j → gI h2 t j = gI h t j) ∧ (∀ q j, gJ h2 q j = gJ h q j)) (by decide) ?_ ?_ FU (iZ 0, h) (FU_gt (by omega)) ⟨rfl, Fr.rf, fun z q1 q2 => by omega, fun _ _ => rfl, fun _ _ => rfl⟩
  · intro f y x y0 y1 hI
    obtain ⟨x1, h4⟩ := x
    obtain ⟨e, hF, hA, hB, hJ⟩ := hI
    replace e : x1 = iZ y := e
    subst e
    refine ⟨(iZ (y + 1), sI h4 t (c + y).toNat (gI h r (a + y).toNat)), ?_, rfl, Fr.sI hF (decide_eq_true rfl) _, fun z q1 q2 => ?_, fun j hj => ?_, hJ⟩
    · show jX9_copiesRow_L3 r (iZ a) t (iZ c) (f + 1) (iZ y) h4 = _
      rw [jX9_copiesRow_L3, i13, if_neg (le_n (by omega) (by omega) (by omega)), iZ_add, iZ_add, inB_t (n := (arrT r).2) (by omega) (by rw [hr]; omega) (by omega), if_pos rfl, inB_t (n := (arrT t).2) (by omega) (by rw [ht]; omega) (by omega), if_pos rfl, lt_eq, iZ_nat (by omega) (by omega), iZ_nat (by omega) (by omega), i1, iZ_add, hF.1 r _ (decide_eq_false hne)]
    · show gI (sI h4 t (c + y).toNat _) t (c + z).toNat = _
      rw [gI_sI]
      by_cases e : z = y
      · rw [if_pos ⟨rfl, by rw [e]⟩, e]
      · rw [if_neg (fun q => e (by omega))]
        exact hA z q1 (by omega)
    · show gI (sI h4 t (c + y).toNat _) t j = _
      rw [gI_nk _ _ _ (by omega)]
      exact hB j hj
  · intro f x hI
    obtain ⟨x1, h4⟩ := x
    obtain ⟨e, hF, hA, hB, hJ⟩ := hI
    replace e : x1 = iZ 13 := e
    subst e
    refine ⟨h4, ?_, hF, hA, hB, hJ⟩
    show jX9_copiesRow_L3 r (iZ a) t (iZ c) (f + 1) (iZ 13) h4 = _
    rw [jX9_copiesRow_L3, i13, if_pos (le_y (by omega) (by omega) (by omega))]
theorem x9_cpNames {h : HD} {r t : Rf} {a c : Int} {m k : Nat} (hr : (arrT r).2 = m) (ht : (arrT t).2 = k) (hne : r ≠ t) (a0 : 0 ≤ a) (a1 : a + 11 ≤ m) (c0 : 0 ≤ c) (c1 : c + 11 ≤ k) (hm : m ≤ 1000) (hk : k ≤ 1000) : ∃ h2, jX9_copiesNames r (iZ a) t (iZ c) h = some h2 ∧ Fr (fun q _ => decide (q = t)) h h2 ∧ (∀ z : Int, 0 ≤ z → z < 11 → gJ h2 t (c + z).toNat = gJ h r (a + z).toNat) ∧ (∀ j : Nat, (j : Int) < c ∨ c + 11 ≤ j → gJ h2 t j = gJ h t j) ∧ (∀ q j, gI h2 q j = gI h q j) := by
  refine loopI (fun f (x : Int32 × HD) => jX9_copiesNames_L3 r (iZ a) t (iZ c) f x.1 x.2) (fun y x => x.1 = iZ y ∧ Fr (fun q _ => decide (q = t)) h x.2 ∧ (∀ z : Int, 0 ≤ z → z < y → gJ x.2 t (c + z).toNat = gJ h r (a + z).toNat) ∧ (∀ j : Nat, (j : Int) < c ∨ c + 11 ≤ j → gJ x.2 t j = gJ h t j) ∧ (∀ q j, gI x.2 q j = gI h q j)) (a := 0) (b := 11) (fun y => ∃ h2, y = some h2 ∧ Fr (fun q _ => decide (q = t)) h h2 ∧ (∀ z : Int, 0 ≤ z → z < 11 → gJ h2 t (c + z).toNat = gJ h r (a + z).toNat) ∧ (∀ j : Nat, (j : Int) < c ∨ c + 11 ≤ j → gJ h2 t j = gJ h t j) ∧ (∀ q j, gI h2 q j = gI h q j)) (by decide) ?_ ?_ FU (iZ 0, h) (FU_gt (by omega)) ⟨rfl, Fr.rf, fun z q1 q2 => by omega, fun _ _ => rfl, fun _ _ => rfl⟩
  · intro f y x y0 y1 hI
    obtain ⟨x1, h4⟩ := x
    obtain ⟨e, hF, hA, hB, hJ⟩ := hI
    replace e : x1 = iZ y := e
    subst e
    refine ⟨(iZ (y + 1), sJ h4 t (c + y).toNat (gJ h r (a + y).toNat)), ?_, rfl, Fr.sJ hF (decide_eq_true rfl) _, fun z q1 q2 => ?_, fun j hj => ?_, hJ⟩
    · show jX9_copiesNames_L3 r (iZ a) t (iZ c) (f + 1) (iZ y) h4 = _
      rw [jX9_copiesNames_L3, i11, if_neg (le_n (by omega) (by omega) (by omega)), iZ_add, iZ_add, inB_t (n := (arrT r).2) (by omega) (by rw [hr]; omega) (by omega), if_pos rfl, inB_t (n := (arrT t).2) (by omega) (by rw [ht]; omega) (by omega), if_pos rfl, lt_eq, iZ_nat (by omega) (by omega), iZ_nat (by omega) (by omega), i1, iZ_add, hF.2.1 r _ (decide_eq_false hne)]
    · show gJ (sJ h4 t (c + y).toNat _) t (c + z).toNat = _
      rw [gJ_sJ]
      by_cases e : z = y
      · rw [if_pos ⟨rfl, by rw [e]⟩, e]
      · rw [if_neg (fun q => e (by omega))]
        exact hA z q1 (by omega)
    · show gJ (sJ h4 t (c + y).toNat _) t j = _
      rw [gJ_sJ, if_neg (fun q => by omega)]
      exact hB j hj
  · intro f x hI
    obtain ⟨x1, h4⟩ := x
    obtain ⟨e, hF, hA, hB, hJ⟩ := hI
    replace e : x1 = iZ 11 := e
    subst e
    refine ⟨h4, ?_, hF, hA, hB, hJ⟩
    show jX9_copiesNames_L3 r (iZ a) t (iZ c) (f + 1) (iZ 11) h4 = _
    rw [jX9_copiesNames_L3, i11, if_pos (le_y (by omega) (by omega) (by omega))]
/-- row and names together; what lies elsewhere in the two stays -/
theorem x9_cpBoth {h : HD} {r t r2 t2 : Rf} {a c a2 c2 : Int} {m k m2 k2 : Nat} {R : Row} (hM : RwM h r r2 a a2 R) (hn : R.1 ≤ 11) (hr : (arrT r).2 = m) (ht : (arrT t).2 = k) (hr2 : (arrT r2).2 = m2) (ht2 : (arrT t2).2 = k2) (hne : r ≠ t) (hne2 : r2 ≠ t2) (hx : r2 ≠ t) (hy : t ≠ t2) (a0 : 0 ≤ a) (a1 : a + 13 ≤ m) (c0 : 0 ≤ c) (c1 : c + 13 ≤ k) (a20 : 0 ≤ a2) (a21 : a2 + 11 ≤ m2) (c20 : 0 ≤ c2) (c21 : c2 + 11 ≤ k2) (hm : m ≤ 1000) (hk : k ≤ 1000) (hm2 : m2 ≤ 1000) (hk2 : k2 ≤ 1000) : ∃ h1 h2, jX9_copiesRow r (iZ a) t (iZ c) h = some h1 ∧ jX9_copiesNames r2 (iZ a2) t2 (iZ c2) h1 = some h2 ∧ Fr (s2 t t2) h h1 ∧ Fr (s2 t t2) h h2 ∧ RwM h2 t t2 c c2 R ∧ (∀ j : Nat, (j : Int) < c ∨ c + 13 ≤ j → gI h2 t j = gI h t j) ∧ (∀ j : Nat, (j : Int) < c2 ∨ c2 + 11 ≤ j → gJ h2 t2 j = gJ h t2 j) := by
  obtain ⟨h1, e1, f1, g1, o1, j1⟩ := x9_cpRow (h := h) hr ht hne a0 a1 c0 c1 hm hk
  obtain ⟨h2, e2, f2, g2, o2, j2⟩ := x9_cpNames (h := h1) hr2 ht2 hne2 a20 a21 c20 c21 hm2 hk2
  have F1 : Fr (s2 t t2) h h1 := f1.mono (fun q k hq => decide_eq_false (fun e => of_decide_eq_false hq (Or.inl e)))
  refine ⟨h1, h2, e1, e2, F1, F1.tr (f2.mono (fun q k hq => decide_eq_false (fun e => of_decide_eq_false hq (Or.inr e)))), ⟨?_, ?_, fun z q1 q2 => ?_, fun z q1 q2 => ?_⟩, fun j hj => by rw [j2]; exact o1 j hj, fun j hj => by rw [o2 j hj]; exact j1 _ _⟩
  · rw [j2]
    have := g1 0 (by decide) (by decide)
    rw [Int.add_zero, Int.add_zero] at this
    rw [this]; exact hM.1
  · rw [j2, g1 1 (by decide) (by decide)]; exact hM.2.1
  · rw [j2]
    have := g1 (2 + z) (by omega) (by omega)
    rw [show c + 2 + z = c + (2 + z) by omega, this, show a + (2 + z) = a + 2 + z by omega]
    exact hM.2.2.1 z q1 q2
  · rw [g2 z q1 (by omega), j1]
    exact hM.2.2.2 z q1 q2
theorem x9_away {h : HD} {R : Row} (hM : RwM h (7, 0, 2) (7, 0, 7) 0 0 R) (hn : R.1 ≤ 11) : ∃ h2, jX9_laysAway h = some h2 ∧ Fr (s2 (7, 0, 5) (7, 0, 10)) h h2 ∧ RwM h2 (7, 0, 5) (7, 0, 10) 0 0 R ∧ RwM h2 (7, 0, 2) (7, 0, 7) 0 0 R := by
  obtain ⟨h1, h2, e1, e2, F1, F, M, -, -⟩ := x9_cpBoth (t := (7, 0, 5)) (t2 := (7, 0, 10)) (c := 0) (c2 := 0) (m := 13) (k := 13) (m2 := 11) (k2 := 11) hM hn rfl rfl rfl rfl (by decide) (by decide) (by decide) (by decide) (by decide) (by decide) (by decide) (by decide) (by decide) (by decide) (by decide) (by decide) (by decide) (by decide) (by decide) (by decide)
  refine ⟨h2, ?_, F, M, hM.fr F (fun _ => rfl) (fun _ => rfl)⟩
  unfold jX9_laysAway
  rw [i0, e1, Option.bind_some, e2]
  rfl
theorem x9_aside {h : HD} {R : Row} (hM : RwM h (7, 0, 2) (7, 0, 7) 0 0 R) (hn : R.1 ≤ 11) : ∃ h2, jX9_laysAside h = some h2 ∧ Fr (s2 (7, 0, 4) (7, 0, 9)) h h2 ∧ RwM h2 (7, 0, 4) (7, 0, 9) 0 0 R ∧ RwM h2 (7, 0, 2) (7, 0, 7) 0 0 R := by
  obtain ⟨h1, h2, e1, e2, F1, F, M, -, -⟩ := x9_cpBoth (t := (7, 0, 4)) (t2 := (7, 0, 9)) (c := 0) (c2 := 0) (m := 13) (k := 13) (m2 := 11) (k2 := 11) hM hn rfl rfl rfl rfl (by decide) (by decide) (by decide) (by decide) (by decide) (by decide) (by decide) (by decide) (by decide) (by decide) (by decide) (by decide) (by decide) (by decide) (by decide) (by decide)
  refine ⟨h2, ?_, F, M, hM.fr F (fun _ => rfl) (fun _ => rfl)⟩
  unfold jX9_laysAside
  rw [i0, e1, Option.bind_some, e2]
  rfl
theorem x9_fromAway {h : HD} {R : Row} (v : Int32) (hM : RwM h (7, 0, 5) (7, 0, 10) 0 0 R) (hn : R.1 ≤ 11) : ∃ h2, jX9_fromAway v h = some (v, h2) ∧ Fr (s2 (7, 0, 2) (7, 0, 7)) h h2 ∧ RwM h2 (7, 0, 2) (7, 0, 7) 0 0 R := by
  obtain ⟨h1, h2, e1, e2, F1, F, M, -, -⟩ := x9_cpBoth (t := (7, 0, 2)) (t2 := (7, 0, 7)) (c := 0) (c2 := 0) (m := 13) (k := 13) (m2 := 11) (k2 := 11) hM hn rfl rfl rfl rfl (by decide) (by decide) (by decide) (by decide) (by decide) (by decide) (by decide) (by decide) (by decide) (by decide) (by decide) (by decide) (by decide) (by decide) (by decide) (by decide)
  refine ⟨h2, ?_, F, M⟩
  unfold jX9_fromAway
  rw [i0, e1, Option.bind_some, e2]
  rfl
theorem x9_goesBack {h : HD} {R : Row} (hM : RwM h (7, 0, 4) (7, 0, 9) 0 0 R) (hn : R.1 ≤ 11) : ∃ h2, jX9_goesBack h = some h2 ∧ Fr (s2 (7, 0, 2) (7, 0, 7)) h h2 ∧ RwM h2 (7, 0, 2) (7, 0, 7) 0 0 R := by
  obtain ⟨h1, h2, e1, e2, F1, F, M, -, -⟩ := x9_cpBoth (t := (7, 0, 2)) (t2 := (7, 0, 7)) (c := 0) (c2 := 0) (m := 13) (k := 13) (m2 := 11) (k2 := 11) hM hn rfl rfl rfl rfl (by decide) (by decide) (by decide) (by decide) (by decide) (by decide) (by decide) (by decide) (by decide) (by decide) (by decide) (by decide) (by decide) (by decide) (by decide) (by decide)
  refine ⟨h2, ?_, F, M⟩
  unfold jX9_goesBack
  rw [i0, e1, Option.bind_some, e2]
  rfl
/-- the current row of the reference -/
abbrev sCu : Rf → Nat → Bool := s2 (7, 0, 2) (7, 0, 7)
theorem x9_setw {h : HD} {n b z v : Int} {pf : Int → Int} {nm : Int → List Nat} (hM : RwM h (7, 0, 2) (7, 0, 7) 0 0 (n, b, pf, nm)) (h1 : 0 ≤ z) : RwM (sI h (7, 0, 2) (2 + z).toNat (iZ v)) (7, 0, 2) (7, 0, 7) 0 0 (n, b, updP pf z v, nm) := by
  obtain ⟨m1, m2, m3, m4⟩ := hM
  refine ⟨?_, ?_, fun y q1 q2 => ?_, m4⟩
  · rw [gI_nk _ _ _ (by omega)]; exact m1
  · rw [gI_nk _ _ _ (by omega)]; exact m2
  · show _ = iZ (updP pf z v y)
    unfold updP
    rw [gI_sI]
    by_cases e : y = z
    · rw [if_pos ⟨rfl, by rw [e]; omega⟩, if_pos e]
    · rw [if_neg (fun q => e (by omega)), if_neg e]
      exact m3 y q1 q2
theorem x9_setb {h : HD} {n b v : Int} {pf : Int → Int} {nm : Int → List Nat} (hM : RwM h (7, 0, 2) (7, 0, 7) 0 0 (n, b, pf, nm)) : RwM (sI h (7, 0, 2) 1 (iZ v)) (7, 0, 2) (7, 0, 7) 0 0 (n, v, pf, nm) := by
  obtain ⟨m1, m2, m3, m4⟩ := hM
  refine ⟨?_, gI_self _ _ _ _, fun y q1 q2 => ?_, m4⟩
  · rw [gI_nk _ _ _ (by decide)]; exact m1
  · rw [gI_nk _ _ _ (by omega)]; exact m3 y q1 q2
theorem x9_chgPl {h : HD} {R : Row} {x y : Int} (hM : RwM h (7, 0, 2) (7, 0, 7) 0 0 R) (hn : 0 ≤ R.1 ∧ R.1 ≤ 11) (x1 : 0 ≤ x) (x2 : x < R.1) (y1 : 0 ≤ y) (y2 : y < R.1) : ∃ h2, jX9_changesPlaces (iZ x) (iZ y) h = some h2 ∧ Fr sCu h h2 ∧ RwM h2 (7, 0, 2) (7, 0, 7) 0 0 (swR R x y) := by
  have hP := hM.pr
  obtain ⟨m1, m2, m3, m4⟩ := hM
  have t2 : ∀ k, sCu (7, 0, 2) k = true := fun _ => rfl
  have t7 : ∀ k, sCu (7, 0, 7) k = true := fun _ => rfl
  have n4 : ∀ z : Int, 0 ≤ z → z < R.1 → gJ h (7, 0, 7) z.toNat = jZ (eM (R.2.2.2 z)) := fun z q1 q2 => by
    have := m4 z q1 q2
    rwa [Int.zero_add] at this
  refine ⟨sJ (sI (sJ (sI h (7, 0, 2) (2 + x).toNat (iZ (R.2.2.1 y))) (7, 0, 7) x.toNat (jZ (eM (R.2.2.2 y)))) (7, 0, 2) (2 + y).toNat (iZ (R.2.2.1 x))) (7, 0, 7) y.toNat (jZ (eM (R.2.2.2 x))), ?_, (((Fr.rf.sI (t2 _) _).sJ (t7 _) _).sI (t2 _) _).sJ (t7 _) _, ?_, ?_, fun z q1 q2 => ?_, fun z q1 q2 => ?_⟩
  · unfold jX9_changesPlaces
    rw [x9_wish hP hn x1 x2, Option.bind_some, x9_wish hP hn y1 y2, Option.bind_some, i2, iZ_add, iZ_add, inB_t (z := x) (by omega) (by omega) (by omega), inB_t (z := y) (by omega) (by omega) (by omega), inB_t (z := 2 + x) (by omega) (by omega) (by omega), inB_t (z := 2 + y) (by omega) (by omega) (by omega)]
    simp only [if_true, lt_eq]
    rw [iZ_nat (z := x) (by omega) (by omega), iZ_nat (z := y) (by omega) (by omega), iZ_nat (z := 2 + x) (by omega) (by omega), iZ_nat (z := 2 + y) (by omega) (by omega), gJ_sI, n4 x x1 x2, n4 y y1 y2]
  · rw [gI_sJ, gI_nk _ _ _ (by omega), gI_sJ, gI_nk _ _ _ (by omega)]; exact m1
  · rw [gI_sJ, gI_nk _ _ _ (by omega), gI_sJ, gI_nk _ _ _ (by omega)]; exact m2
  · show _ = iZ (swf R.2.2.1 x y z)
    unfold swf
    rw [gI_sJ, gI_sI, gI_sJ, gI_sI]
    by_cases e1 : z = y
    · rw [if_pos ⟨rfl, by rw [e1]; omega⟩, if_pos e1]
    · rw [if_neg (fun e => e1 (by omega)), if_neg e1]
      by_cases e2 : z = x
      · rw [if_pos ⟨rfl, by rw [e2]; omega⟩, if_pos e2]
      · rw [if_neg (fun e => e2 (by omega)), if_neg e2]
        exact m3 z q1 q2
  · show _ = jZ (eM (swf R.2.2.2 x y z))
    unfold swf
    rw [gJ_sJ, gJ_sI, gJ_sJ, gJ_sI]
    by_cases e1 : z = y
    · rw [if_pos ⟨rfl, by rw [e1]; omega⟩, if_pos e1]
    · rw [if_neg (fun e => e1 (by omega)), if_neg e1]
      by_cases e2 : z = x
      · rw [if_pos ⟨rfl, by rw [e2]; omega⟩, if_pos e2]
      · rw [if_neg (fun e => e2 (by omega)), if_neg e2]
        exact m4 z q1 q2
/-- a car put to a place, the others as they came -/
def plf {α : Type} (f : Int → α) (c p : Int) : Int → α := fun i => if i = p then f c else if i < p then (if i < c then f i else f (i + 1)) else (if i - 1 < c then f (i - 1) else f i)
def plR (R : Row) (c p : Int) : Row := (R.1, R.2.1, plf R.2.2.1 c p, plf R.2.2.2 c p)
theorem plf_id {α : Type} (f : Int → α) (c : Int) : plf f c c = f := by
  funext i
  unfold plf
  by_cases h1 : i = c
  · rw [if_pos h1, h1]
  · rw [if_neg h1]
    by_cases h2 : i < c
    · rw [if_pos h2, if_pos h2]
    · rw [if_neg h2, if_neg (by omega)]
theorem plf_up {α : Type} (f : Int → α) {c p : Int} (h : c ≤ p) : swf (plf f c p) p (p + 1) = plf f c (p + 1) := by
  funext i
  unfold swf
  by_cases h1 : i = p + 1
  · rw [if_pos h1, h1]; unfold plf; rw [if_pos rfl, if_pos rfl]
  · rw [if_neg h1]
    by_cases h2 : i = p
    · rw [if_pos h2, h2]
      unfold plf
      rw [if_neg (by omega), if_neg (by omega), if_neg (by omega), if_neg (by omega), if_pos (by omega), if_neg (by omega)]
    · rw [if_neg h2]
      unfold plf
      rw [if_neg h2, if_neg h1]
      by_cases h3 : i < p
      · rw [if_pos h3, if_pos (show i < p + 1 by omega)]
      · rw [if_neg h3, if_neg (show ¬ i < p + 1 by omega)]
theorem plf_down {α : Type} (f : Int → α) {c p : Int} (h : p ≤ c) : swf (plf f c p) p (p - 1) = plf f c (p - 1) := by
  funext i
  unfold swf
  by_cases h1 : i = p - 1
  · rw [if_pos h1, h1]; unfold plf; rw [if_pos rfl, if_pos rfl]
  · rw [if_neg h1]
    by_cases h2 : i = p
    · rw [if_pos h2, h2]
      unfold plf
      rw [if_neg (by omega), if_pos (by omega), if_pos (by omega), if_neg (by omega), if_neg (by omega), if_pos (by omega)]
    · rw [if_neg h2]
      unfold plf
      rw [if_neg h2, if_neg h1]
      by_cases h3 : i < p
      · rw [if_pos h3, if_pos (show i < p - 1 by omega)]
      · rw [if_neg h3, if_neg (show ¬ i < p - 1 by omega)]
theorem plR_up (R : Row) {c p : Int} (h : c ≤ p) : swR (plR R c p) p (p + 1) = plR R c (p + 1) := by
  unfold swR plR
  simp only [plf_up _ h]
theorem plR_down (R : Row) {c p : Int} (h : p ≤ c) : swR (plR R c p) p (p - 1) = plR R c (p - 1) := by
  unfold swR plR
  simp only [plf_down _ h]
theorem plR_id (R : Row) (c : Int) : plR R c c = R := by
  unfold plR
  rw [plf_id, plf_id]
theorem plR_ok {R : Row} (hok : RwOk R) {c p : Int} (c1 : 0 ≤ c) (c2 : c < R.1) (p1 : 0 ≤ p) (p2 : p < R.1) : RwOk (plR R c p) := by
  obtain ⟨⟨a, b, d, e, f⟩, g⟩ := hok
  refine ⟨⟨a, b, d, e, fun i q1 q2 => ?_⟩, fun i q1 q2 => ?_⟩
  · show 0 ≤ plf R.2.2.1 c p i ∧ plf R.2.2.1 c p i ≤ R.1
    replace q2 : i < R.1 := q2
    unfold plf
    repeat' split
    all_goals first | exact f c c1 c2 | exact f i q1 q2 | exact f (i + 1) (by omega) (by omega) | exact f (i - 1) (by omega) (by omega)
  · show NmOk (plf R.2.2.2 c p i)
    replace q2 : i < R.1 := q2
    unfold plf
    repeat' split
    all_goals first | exact g c c1 c2 | exact g i q1 q2 | exact g (i + 1) (by omega) (by omega) | exact g (i - 1) (by omega) (by omega)
theorem x9_placesAt {h : HD} {R : Row} {c p : Int} (hM : RwM h (7, 0, 2) (7, 0, 7) 0 0 R) (hn : 0 ≤ R.1 ∧ R.1 ≤ 11) (c1 : 0 ≤ c) (c2 : c < R.1) (p1 : 0 ≤ p) (p2 : p < R.1) : ∃ h2, jX9_placesAt (iZ c) (iZ p) h = some h2 ∧ Fr sCu h h2 ∧ RwM h2 (7, 0, 2) (7, 0, 7) 0 0 (plR R c p) := by
  obtain ⟨e, he⟩ : ∃ e, e = if c ≤ p then p else c := ⟨_, rfl⟩
  have e1 : c ≤ e ∧ e < R.1 ∧ p ≤ e ∧ (e = c ∨ e = p) := by rw [he]; split <;> omega
  have down : ∀ h1, Fr sCu h h1 → RwM h1 (7, 0, 2) (7, 0, 7) 0 0 (plR R c e) → ∃ h2, jX9_placesAt_L23 (iZ c) (iZ p) FU (iZ c) h1 = some h2 ∧ Fr sCu h h2 ∧ RwM h2 (7, 0, 2) (7, 0, 7) 0 0 (plR R c p) := by
    intro h1 f1 m1
    by_cases q : c ≤ p
    · have : e = p := by rw [he, if_pos q]
      rw [this] at m1
      refine ⟨h1, ?_, f1, m1⟩
      obtain ⟨f, hf⟩ : ∃ f, FU = f + 1 := ⟨999999, rfl⟩
      rw [hf, jX9_placesAt_L23, if_pos (le_y (by omega) (by omega) (by omega))]
    · have : e = c := by rw [he, if_neg q]
      rw [this] at m1
      refine loopI (fun f (x : Int32 × HD) => jX9_placesAt_L23 (iZ c) (iZ p) f x.1 x.2) (fun z x => x.1 = iZ (c - z) ∧ Fr sCu h x.2 ∧ RwM x.2 (7, 0, 2) (7, 0, 7) 0 0 (plR R c (c - z))) (a := 0) (b := c - p) (fun y => ∃ h2, y = some h2 ∧ Fr sCu h h2 ∧ RwM h2 (7, 0, 2) (7, 0, 7) 0 0 (plR R c p)) (by omega) ?_ ?_ FU (iZ c, h1) (FU_gt (by omega)) ⟨by rw [Int.sub_zero], f1, by rw [Int.sub_zero]; exact m1⟩
      · intro f z x z0 z1 hI
        obtain ⟨x1, h4⟩ := x
        obtain ⟨ex, hF, hR⟩ := hI
        replace ex : x1 = iZ (c - z) := ex
        replace hR : RwM h4 (7, 0, 2) (7, 0, 7) 0 0 (plR R c (c - z)) := hR
        subst ex
        obtain ⟨h5, e5, f5, r5⟩ := x9_chgPl (x := c - z) (y := c - z - 1) hR hn (by omega) (show c - z < R.1 by omega) (by omega) (show c - z - 1 < R.1 by omega)
        refine ⟨(iZ (c - (z + 1)), h5), ?_, rfl, Fr.tr hF f5, ?_⟩
        · show jX9_placesAt_L23 (iZ c) (iZ p) (f + 1) (iZ (c - z)) h4 = _
          rw [jX9_placesAt_L23, if_neg (le_n (by omega) (by omega) (by omega)), im1, i1, iZ_sub, e5, Option.bind_some, iZ_add, show c - z + -1 = c - (z + 1) by omega]
        · rw [plR_down R (show c - z ≤ c by omega), show c - z - 1 = c - (z + 1) by omega] at r5
          exact r5
      · intro f x hI
        obtain ⟨x1, h4⟩ := x
        obtain ⟨ex, hF, hR⟩ := hI
        replace ex : x1 = iZ (c - (c - p)) := ex
        replace hR : RwM h4 (7, 0, 2) (7, 0, 7) 0 0 (plR R c (c - (c - p))) := hR
        rw [show c - (c - p) = p by omega] at ex hR
        subst ex
        refine ⟨h4, ?_, hF, hR⟩
        show jX9_placesAt_L23 (iZ c) (iZ p) (f + 1) (iZ p) h4 = _
        rw [jX9_placesAt_L23, if_pos (le_y (by omega) (by omega) (by omega))]
  unfold jX9_placesAt
  refine loopI (fun f (x : Int32 × HD) => jX9_placesAt_L2 (iZ c) (iZ p) (fun h2 => jX9_placesAt_L23 (iZ c) (iZ p) FU (iZ c) h2) f x.1 x.2) (fun z x => x.1 = iZ z ∧ Fr sCu h x.2 ∧ RwM x.2 (7, 0, 2) (7, 0, 7) 0 0 (plR R c z)) (a := c) (b := e) (fun y => ∃ h2, y = some h2 ∧ Fr sCu h h2 ∧ RwM h2 (7, 0, 2) (7, 0, 7) 0 0 (plR R c p)) e1.1 ?_ ?_ FU (iZ c, h) (FU_gt (by omega)) ⟨rfl, Fr.rf, by rw [plR_id]; exact hM⟩
  · intro f z x z0 z1 hI
    obtain ⟨x1, h4⟩ := x
    obtain ⟨ex, hF, hR⟩ := hI
    replace ex : x1 = iZ z := ex
    replace hR : RwM h4 (7, 0, 2) (7, 0, 7) 0 0 (plR R c z) := hR
    subst ex
    obtain ⟨h5, e5, f5, r5⟩ := x9_chgPl (x := z) (y := z + 1) hR hn (by omega) (show z < R.1 by omega) (by omega) (show z + 1 < R.1 by omega)
    rw [plR_up R z0] at r5
    refine ⟨(iZ (z + 1), h5), ?_, rfl, Fr.tr hF f5, r5⟩
    show jX9_placesAt_L2 (iZ c) (iZ p) _ (f + 1) (iZ z) h4 = _
    rw [jX9_placesAt_L2, if_neg (le_n (by omega) (by omega) (by omega)), i1, iZ_add, e5, Option.bind_some]
  · intro f x hI
    obtain ⟨x1, h4⟩ := x
    obtain ⟨ex, hF, hR⟩ := hI
    replace ex : x1 = iZ e := ex
    subst ex
    obtain ⟨h5, e5, r5⟩ := down h4 hF hR
    refine ⟨h5, ?_, r5⟩
    show jX9_placesAt_L2 (iZ c) (iZ p) _ (f + 1) (iZ e) h4 = _
    rw [jX9_placesAt_L2, if_pos (le_y (by omega) (by omega) (by omega))]
    exact e5
