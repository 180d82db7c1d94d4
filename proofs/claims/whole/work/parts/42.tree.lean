/-! THE TREE, without heaps: codes, leaves, edges -/
theorem sm_one {k x z : Int} (hz : 0 ≤ z) (k0 : 0 ≤ k) : sm_ (fun i => if i = k then x else 0) z = if k < z then x else 0 := by
  refine ind_Z (P := fun z => sm_ (fun i => if i = k then x else 0) z = if k < z then x else 0) (by rw [sm_0, if_neg (by omega)]) (fun y h1 h2 ih => ?_) hz
  rw [sm_s _ h1, ih]
  by_cases q : y = k
  · rw [if_neg (by omega), if_pos q, if_pos (by omega)]; omega
  · rw [if_neg q]
    by_cases q2 : k < y
    · rw [if_pos q2, if_pos (by omega)]; omega
    · rw [if_neg q2, if_neg (by omega)]; omega
theorem sm_le {f g : Int → Int} {z : Int} (hz : 0 ≤ z) (h : ∀ c, 0 ≤ c → c < z → f c ≤ g c) : sm_ f z ≤ sm_ g z := by
  have key : ∀ y, 0 ≤ y → y ≤ z → sm_ f y ≤ sm_ g y := by
    intro y y0 y1
    refine ind_Z (P := fun y => sm_ f y ≤ sm_ g y) (Int.le_refl _) (fun w w0 w1 ih => ?_) y0
    rw [sm_s _ w0, sm_s _ w0]
    have := h w w0 (by omega)
    omega
  exact key z hz (Int.le_refl z)
theorem b1_t : b1 true = 1 := rfl
theorem b1_f : b1 false = 0 := rfl
theorem b1_d {p : Prop} [Decidable p] : b1 (decide p) = if p then 1 else 0 := by
  by_cases q : p
  · rw [decide_eq_true q, if_pos q]; rfl
  · rw [decide_eq_false q, if_neg q]; rfl
/-- how often v stands among the codes from the k-th on -/
def ocT (m : Int) (cd : Int → Int) (k v : Int) : Int := sm_ (fun i => b1 (decide (k ≤ i ∧ cd i = v))) m
/-- taken away before the k-th step -/
def oT (n m : Int) (cd : Int → Int) (k : Int) : Int → Bool := itr (fun k f => fun v => f v || decide (v = fnd (fun u => !f u && decide (ocT m cd k u = 0)) (n + 1).toNat 0)) (fun _ => false) k
/-- the leaf of the k-th step -/
def lF (n m : Int) (cd : Int → Int) (k : Int) : Int := fnd (fun u => !oT n m cd k u && decide (ocT m cd k u = 0)) (n + 1).toNat 0
theorem oT_s (n m : Int) (cd : Int → Int) {k : Int} (h : 0 ≤ k) (v : Int) : oT n m cd (k + 1) v = (oT n m cd k v || decide (v = lF n m cd k)) := by
  unfold oT lF
  rw [itr_s _ _ h]
  rfl
section
variable {n m : Int} {cd : Int → Int}
theorem oc_in (hm : 0 ≤ m) (k v : Int) : 0 ≤ ocT m cd k v ∧ ocT m cd k v ≤ m := by
  have := sm_bound (f := fun i => b1 (decide (k ≤ i ∧ cd i = v))) (m := 1) hm (fun c _ _ => b1_in _)
  unfold ocT
  omega
theorem oc_m (v : Int) (hm : 0 ≤ m) : ocT m cd m v = 0 := by
  unfold ocT
  rw [sm_congr (g := fun _ => 0) (fun c c0 c1 => by rw [decide_eq_false (by omega)]; rfl), sm_const 0 hm]
  omega
theorem oc_s {k : Int} (hm : 0 ≤ m) (k0 : 0 ≤ k) (k1 : k < m) (v : Int) : ocT m cd k v = ocT m cd (k + 1) v + b1 (decide (cd k = v)) := by
  unfold ocT
  have h1 := sm_one (k := k) (x := b1 (decide (cd k = v))) hm k0
  rw [if_pos k1] at h1
  rw [← h1, ← sm_add _ _ hm]
  refine sm_congr (fun c c0 c1 => ?_)
  rw [b1_d, b1_d, b1_d]
  by_cases q : c = k
  · subst q
    rw [if_pos rfl, if_neg (show ¬ (c + 1 ≤ c ∧ cd c = v) by omega)]
    by_cases r : cd c = v
    · rw [if_pos ⟨Int.le_refl c, r⟩, if_pos r]; omega
    · rw [if_neg (fun e => r e.2), if_neg r]; omega
  · rw [if_neg q]
    by_cases r : k ≤ c ∧ cd c = v
    · rw [if_pos r, if_pos ⟨by omega, r.2⟩]; omega
    · rw [if_neg r, if_neg (fun e => r ⟨by omega, e.2⟩)]; omega
theorem oc_pos {k i : Int} (hm : 0 ≤ m) (k0 : 0 ≤ i) (h1 : k ≤ i) (h2 : i < m) : 1 ≤ ocT m cd k (cd i) := by
  have := sm_ge (f := fun j => b1 (decide (k ≤ j ∧ cd j = cd i))) (n := m) (fun j _ _ => (b1_in _).1) k0 h2
  unfold ocT
  have e : b1 (decide (k ≤ i ∧ cd i = cd i)) = 1 := by rw [decide_eq_true ⟨h1, rfl⟩]; rfl
  omega
theorem oc_sum {k N : Int} (hN : 0 ≤ N) (hm : 0 ≤ m) (k0 : 0 ≤ k) (k1 : k ≤ m) (hcd : ∀ i, 0 ≤ i → i < m → 0 ≤ cd i ∧ cd i < N) : sm_ (fun v => ocT m cd k v) N = m - k := by
  have key : ∀ j, 0 ≤ j → j ≤ m → sm_ (fun v => ocT m cd (m - j) v) N = j := by
    intro j j0 j1
    refine ind_Z (P := fun j => sm_ (fun v => ocT m cd (m - j) v) N = j) ?_ (fun y y0 y1 ih => ?_) j0
    · show sm_ (fun v => ocT m cd (m - 0) v) N = 0
      rw [Int.sub_zero, sm_congr (g := fun _ => 0) (fun c _ _ => oc_m c hm), sm_const 0 hN]
      omega
    · show sm_ (fun v => ocT m cd (m - (y + 1)) v) N = y + 1
      have hc := hcd (m - (y + 1)) (by omega) (by omega)
      rw [sm_congr (g := fun v => ocT m cd (m - y) v + (if v = cd (m - (y + 1)) then 1 else 0)) (fun c _ _ => by
        rw [oc_s hm (by omega) (by omega), show m - (y + 1) + 1 = m - y by omega, b1_d]
        by_cases r : cd (m - (y + 1)) = c
        · rw [if_pos r, if_pos r.symm]
        · rw [if_neg r, if_neg (fun e => r e.symm)]), sm_add _ _ hN, sm_one hN hc.1, if_pos hc.2]
      have ih' : sm_ (ocT m cd (m - y)) N = y := ih
      show sm_ (ocT m cd (m - y)) N + 1 = y + 1
      rw [ih']
  have := key (m - k) (by omega) (by omega)
  rwa [show m - (m - k) = k by omega] at this
/-- one's number at each step: as many taken as steps, and no later code is taken -/
def TrJ (n m : Int) (cd : Int → Int) (k : Int) : Prop := sm_ (fun v => b1 (oT n m cd k v)) (n + 1) = k ∧ ∀ i, k ≤ i → i < m → oT n m cd k (cd i) = false
def TrL (n m : Int) (cd : Int → Int) (k : Int) : Prop := (0 ≤ lF n m cd k ∧ lF n m cd k ≤ n) ∧ oT n m cd k (lF n m cd k) = false ∧ ocT m cd k (lF n m cd k) = 0
theorem tr_leaf (hn : 0 ≤ n) (hm : 0 ≤ m) (hmn : m ≤ n) (hcd : ∀ i, 0 ≤ i → i < m → 0 ≤ cd i ∧ cd i ≤ n) {k : Int} (k0 : 0 ≤ k) (k1 : k ≤ m) (hJ : TrJ n m cd k) : TrL n m cd k := by
  have g := fnd_ge (fun u => !oT n m cd k u && decide (ocT m cd k u = 0)) (n + 1).toNat 0
  have hlt : lF n m cd k < n + 1 := by
    rcases Int.lt_or_le (lF n m cd k) (n + 1) with q | q
    · exact q
    · exfalso
      have hall : ∀ v, 0 ≤ v → v < n + 1 → 1 - b1 (oT n m cd k v) ≤ ocT m cd k v := fun v v0 v1 => by
        have := fnd_not (fun u => !oT n m cd k u && decide (ocT m cd k u = 0)) (n + 1).toNat 0 v v0 (by unfold lF at q; omega)
        have ho := oc_in (cd := cd) hm k v
        have hb := b1_in (oT n m cd k v)
        cases e : oT n m cd k v
        · rw [e] at this
          have h2 : ¬ ocT m cd k v = 0 := by simpa using this
          show 1 - 0 ≤ _
          omega
        · show 1 - 1 ≤ _
          omega
      have h1 := sm_le (z := n + 1) (by omega) hall
      have h2 : sm_ (fun v => ocT m cd k v) (n + 1) = m - k := oc_sum (cd := cd) (N := n + 1) (by omega) hm k0 k1 (fun i i0 i1 => by have := hcd i i0 i1; omega)
      have h3 := sm_add (fun v => 1 - b1 (oT n m cd k v)) (fun v => b1 (oT n m cd k v)) (z := n + 1) (by omega)
      have h4 := sm_const 1 (z := n + 1) (by omega)
      rw [sm_congr (g := fun _ => 1) (fun c _ _ => by omega)] at h3
      rw [h2] at h1
      have := hJ.1
      omega
  have h := fnd_is (fun u => !oT n m cd k u && decide (ocT m cd k u = 0)) (n + 1).toNat 0 (by unfold lF at hlt; omega)
  have h' : (!oT n m cd k (lF n m cd k) && decide (ocT m cd k (lF n m cd k) = 0)) = true := h
  rw [Bool.and_eq_true] at h'
  exact ⟨⟨by unfold lF; omega, by omega⟩, by simpa using h'.1, of_decide_eq_true h'.2⟩
theorem tr_step (hn : 0 ≤ n) (hm : 0 ≤ m) {k : Int} (k0 : 0 ≤ k) (hJ : TrJ n m cd k) (hL : TrL n m cd k) : TrJ n m cd (k + 1) := by
  refine ⟨?_, fun i i0 i1 => ?_⟩
  · have h1 := sm_one (k := lF n m cd k) (x := 1) (z := n + 1) (by omega) hL.1.1
    rw [if_pos (by have := hL.1.2; omega)] at h1
    rw [sm_congr (g := fun v => b1 (oT n m cd k v) + (if v = lF n m cd k then 1 else 0)) (fun c _ _ => by
      rw [oT_s n m cd k0]
      by_cases q : c = lF n m cd k
      · rw [if_pos q, decide_eq_true q, q, hL.2.1]; rfl
      · rw [if_neg q, decide_eq_false q, Bool.or_false]; omega), sm_add _ _ (by omega), h1, hJ.1]
  · rw [oT_s n m cd k0, hJ.2 i (by omega) i1, Bool.false_or]
    refine decide_eq_false fun e => ?_
    have h1 := oc_pos (cd := cd) hm (by omega) (show k ≤ i by omega) i1
    rw [e, hL.2.2] at h1
    omega
theorem tr_all (hn : 0 ≤ n) (hm : 0 ≤ m) (hmn : m ≤ n) (hcd : ∀ i, 0 ≤ i → i < m → 0 ≤ cd i ∧ cd i ≤ n) : ∀ k, 0 ≤ k → k ≤ m + 1 → TrJ n m cd k := by
  intro k k0 k1
  refine ind_Z (P := fun k => TrJ n m cd k) ⟨?_, fun i _ _ => rfl⟩ (fun y y0 y1 ih => tr_step hn hm y0 ih (tr_leaf hn hm hmn hcd y0 (by omega) ih)) k0
  have e : sm_ (fun v => b1 (oT n m cd 0 v)) (n + 1) = sm_ (fun _ => 0) (n + 1) := sm_congr (fun c _ _ => rfl)
  rw [e, sm_const 0 (by omega)]
  omega
theorem tr_L (hn : 0 ≤ n) (hm : 0 ≤ m) (hmn : m ≤ n) (hcd : ∀ i, 0 ≤ i → i < m → 0 ≤ cd i ∧ cd i ≤ n) {k : Int} (k0 : 0 ≤ k) (k1 : k ≤ m) : TrL n m cd k := tr_leaf hn hm hmn hcd k0 k1 (tr_all hn hm hmn hcd k k0 (by omega))
/-- what is taken stays taken -/
theorem oT_up {k j v : Int} (k0 : 0 ≤ k) (h : k ≤ j) (hv : oT n m cd k v = true) : oT n m cd j v = true := by
  have key : ∀ d, 0 ≤ d → oT n m cd (k + d) v = true := fun d d0 => by
    refine ind_Z (P := fun d => oT n m cd (k + d) v = true) (by rw [Int.add_zero]; exact hv) (fun y y0 y1 ih => ?_) d0
    rw [show k + (y + 1) = k + y + 1 by omega, oT_s n m cd (by omega), ih, Bool.true_or]
  have := key (j - k) (by omega)
  rwa [show k + (j - k) = j by omega] at this
end
/-- the node that is left at the end -/
def bF (n m : Int) (cd : Int → Int) : Int := fnd (fun u => !oT n m cd (m + 1) u) (n + 1).toNat 0
/-- the edges: from the leaf to the code's node; the last between the two that are left -/
def eS (n m : Int) (cd : Int → Int) (k : Int) : Int := if k < m then cd k else bF n m cd
section
variable {n m : Int} {cd : Int → Int}
theorem tr_b (hn : 1 ≤ n) (hm : m = n - 1) (hcd : ∀ i, 0 ≤ i → i < m → 0 ≤ cd i ∧ cd i ≤ n) : (0 ≤ bF n m cd ∧ bF n m cd ≤ n) ∧ oT n m cd (m + 1) (bF n m cd) = false ∧ ∀ v, 0 ≤ v → v ≤ n → oT n m cd (m + 1) v = false → v = bF n m cd := by
  have hJ := (tr_all (by omega) (by omega) (by omega) hcd (m + 1) (by omega) (Int.le_refl _)).1
  have h3 := sm_add (fun v => b1 (!oT n m cd (m + 1) v)) (fun v => b1 (oT n m cd (m + 1) v)) (z := n + 1) (by omega)
  have h4 := sm_const 1 (z := n + 1) (by omega)
  rw [sm_congr (g := fun _ => 1) (fun c _ _ => by cases oT n m cd (m + 1) c <;> rfl)] at h3
  have hs : sm_ (fun v => b1 (!oT n m cd (m + 1) v)) (n + 1) = 1 := by omega
  have g := fnd_ge (fun u => !oT n m cd (m + 1) u) (n + 1).toNat 0
  have hlt : bF n m cd < n + 1 := by
    rcases Int.lt_or_le (bF n m cd) (n + 1) with q | q
    · exact q
    · exfalso
      rw [sm_congr (g := fun _ => 0) (fun v v0 v1 => by
        have := fnd_not (fun u => !oT n m cd (m + 1) u) (n + 1).toNat 0 v v0 (by unfold bF at q; omega)
        rw [this]; rfl), sm_const 0 (by omega)] at hs
      omega
  have hb : oT n m cd (m + 1) (bF n m cd) = false := by
    have h := fnd_is (fun u => !oT n m cd (m + 1) u) (n + 1).toNat 0 (by unfold bF at hlt; omega)
    have h' : (!oT n m cd (m + 1) (bF n m cd)) = true := h
    simpa using h'
  have b0 : 0 ≤ bF n m cd := by unfold bF; omega
  refine ⟨⟨b0, by omega⟩, hb, fun v v0 v1 hv => ?_⟩
  rcases Int.lt_or_le v (bF n m cd) with q | q
  · have := sm_two (f := fun v => b1 (!oT n m cd (m + 1) v)) (n := n + 1) (fun i _ _ => (b1_in _).1) v0 (show v < n + 1 by omega) b0 hlt (by omega)
    simp only [hv, hb] at this
    rw [hs] at this
    exact absurd this (by decide)
  · rcases Int.lt_or_le (bF n m cd) v with q2 | q2
    · have := sm_two (f := fun v => b1 (!oT n m cd (m + 1) v)) (n := n + 1) (fun i _ _ => (b1_in _).1) v0 (show v < n + 1 by omega) b0 hlt (by omega)
      simp only [hv, hb] at this
      rw [hs] at this
      exact absurd this (by decide)
    · omega
/-- an edge: its ends are nodes and differ; the second is left when the first is taken -/
theorem tr_e (hn : 1 ≤ n) (hm : m = n - 1) (hcd : ∀ i, 0 ≤ i → i < m → 0 ≤ cd i ∧ cd i ≤ n) {k : Int} (k0 : 0 ≤ k) (k1 : k ≤ m) : (0 ≤ eS n m cd k ∧ eS n m cd k ≤ n) ∧ oT n m cd (k + 1) (eS n m cd k) = false ∧ lF n m cd k ≠ eS n m cd k := by
  have hb := tr_b hn hm hcd
  have hL := tr_L (by omega) (by omega) (by omega) hcd k0 k1
  have h1 : (0 ≤ eS n m cd k ∧ eS n m cd k ≤ n) ∧ oT n m cd (k + 1) (eS n m cd k) = false := by
    unfold eS
    by_cases q : k < m
    · rw [if_pos q]
      refine ⟨hcd k k0 q, ?_⟩
      have hJ := (tr_all (by omega) (by omega) (by omega) hcd k k0 (by omega)).2 k (Int.le_refl _) q
      rw [oT_s n m cd k0, hJ, Bool.false_or]
      refine decide_eq_false fun e => ?_
      have h2 := oc_pos (cd := cd) (m := m) (by omega) k0 (Int.le_refl k) q
      rw [e, hL.2.2] at h2
      omega
    · rw [if_neg q, show k = m by omega]
      exact ⟨hb.1, hb.2.1⟩
  refine ⟨h1.1, h1.2, fun e => ?_⟩
  have h3 := h1.2
  rw [oT_s n m cd k0, ← e, decide_eq_true rfl, Bool.or_true] at h3
  cases h3
/-- the edges from the k-th on at a node -/
def dg (n m : Int) (cd : Int → Int) (k v : Int) : Int := sm_ (fun i => b1 (decide (k ≤ i ∧ (lF n m cd i = v ∨ eS n m cd i = v)))) (m + 1)
theorem dg_s (hm : 0 ≤ m) {k : Int} (k0 : 0 ≤ k) (k1 : k ≤ m) (v : Int) : dg n m cd k v = dg n m cd (k + 1) v + b1 (decide (lF n m cd k = v ∨ eS n m cd k = v)) := by
  unfold dg
  have h1 := sm_one (k := k) (x := b1 (decide (lF n m cd k = v ∨ eS n m cd k = v))) (z := m + 1) (by omega) k0
  rw [if_pos (by omega)] at h1
  rw [← h1, ← sm_add _ _ (by omega)]
  refine sm_congr (fun c c0 c1 => ?_)
  rw [b1_d, b1_d, b1_d]
  by_cases q : c = k
  · subst q
    rw [if_pos rfl, if_neg (show ¬ (c + 1 ≤ c ∧ _) from fun e => by omega)]
    by_cases r : lF n m cd c = v ∨ eS n m cd c = v
    · rw [if_pos ⟨Int.le_refl c, r⟩, if_pos r]; omega
    · rw [if_neg (fun e => r e.2), if_neg r]; omega
  · rw [if_neg q]
    by_cases r : k ≤ c ∧ (lF n m cd c = v ∨ eS n m cd c = v)
    · rw [if_pos r, if_pos ⟨by omega, r.2⟩]; omega
    · rw [if_neg r, if_neg (fun e => r ⟨by omega, e.2⟩)]; omega
/-- at each step a node that is left has one edge more than codes to come -/
theorem tr_dg (hn : 1 ≤ n) (hm : m = n - 1) (hcd : ∀ i, 0 ≤ i → i < m → 0 ≤ cd i ∧ cd i ≤ n) {k v : Int} (k0 : 0 ≤ k) (k1 : k ≤ m) (v0 : 0 ≤ v) (v1 : v ≤ n) : dg n m cd k v = if oT n m cd k v = true then 0 else 1 + ocT m cd k v := by
  have hm0 : 0 ≤ m := by omega
  have hb := tr_b hn hm hcd
  have dgE : dg n m cd (m + 1) v = 0 := by
    unfold dg
    rw [sm_congr (g := fun _ => 0) (fun c c0 c1 => by rw [decide_eq_false (fun e => by omega)]; rfl), sm_const 0 (by omega)]
    omega
  have key : ∀ j, 0 ≤ j → j ≤ m → dg n m cd (m - j) v = if oT n m cd (m - j) v = true then 0 else 1 + ocT m cd (m - j) v := by
    intro j j0 j1
    refine ind_Z (P := fun j => dg n m cd (m - j) v = if oT n m cd (m - j) v = true then 0 else 1 + ocT m cd (m - j) v) ?_ (fun y y0 y1 ih => ?_) j0
    · show dg n m cd (m - 0) v = if oT n m cd (m - 0) v = true then 0 else 1 + ocT m cd (m - 0) v
      have hL := tr_L (by omega) hm0 (by omega) hcd hm0 (Int.le_refl m)
      have hE := tr_e hn hm hcd hm0 (Int.le_refl m)
      rw [Int.sub_zero, dg_s hm0 hm0 (Int.le_refl m), dgE, oc_m v hm0]
      have hs := oT_s n m cd hm0 v
      have eb : eS n m cd m = bF n m cd := by unfold eS; rw [if_neg (by omega)]
      rw [eb, b1_d]
      cases e : oT n m cd m v
      · rw [if_neg Bool.false_ne_true]
        by_cases q : v = lF n m cd m
        · rw [if_pos (Or.inl q.symm)]; omega
        · rw [e, decide_eq_false q] at hs
          rw [if_pos (Or.inr (hb.2.2 v v0 v1 hs).symm)]; omega
      · rw [if_pos rfl, if_neg]
        · rfl
        · intro c
          rcases c with c | c
          · have := hL.2.1
            rw [c, e] at this
            cases this
          · have := hb.2.1
            rw [c, hs, e] at this
            cases this
    · show dg n m cd (m - (y + 1)) v = if oT n m cd (m - (y + 1)) v = true then 0 else 1 + ocT m cd (m - (y + 1)) v
      obtain ⟨k, hk⟩ : ∃ k, m - (y + 1) = k := ⟨_, rfl⟩
      have ek : m - y = k + 1 := by omega
      rw [hk]
      rw [ek] at ih
      have hL := tr_L (k := k) (by omega) hm0 (by omega) hcd (by omega) (by omega)
      have hE := tr_e (k := k) hn hm hcd (by omega) (by omega)
      rw [dg_s hm0 (k := k) (by omega) (by omega), ih, oc_s hm0 (k := k) (by omega) (by omega), oT_s n m cd (k := k) (by omega), b1_d, b1_d]
      have es : eS n m cd k = cd k := by unfold eS; rw [if_pos (by omega)]
      rw [es] at hE ⊢
      by_cases q : v = lF n m cd k
      · have ho : ocT m cd k v = 0 := by rw [q]; exact hL.2.2
        rw [oc_s hm0 (k := k) (by omega) (by omega), b1_d] at ho
        rw [decide_eq_true q, Bool.or_true, if_pos rfl, if_pos (Or.inl q.symm), q, hL.2.1, if_neg Bool.false_ne_true, ← q]
        omega
      · rw [decide_eq_false q, Bool.or_false]
        cases e : oT n m cd k v
        · rw [if_neg Bool.false_ne_true, if_neg Bool.false_ne_true]
          by_cases r : cd k = v
          · rw [if_pos (Or.inr r), if_pos r]; omega
          · rw [if_neg (fun c => by rcases c with c | c; exact q c.symm; exact r c), if_neg r]; omega
        · rw [if_pos rfl, if_pos rfl, if_neg]
          · rfl
          · intro c
            rcases c with c | c
            · exact q c.symm
            · have h5 := hE.2.1
              rw [c, oT_s n m cd (k := k) (by omega), e] at h5
              cases h5
  have := key (m - k) (by omega) (by omega)
  rwa [show m - (m - k) = k by omega] at this
end
