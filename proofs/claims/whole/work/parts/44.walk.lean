/-! WALKS: after n + 1 rounds over all edges the reference's distances are those of the tree -/
def lo (n m : Int) (cd : Int → Int) (i : Int) : Int := if lF n m cd i < eS n m cd i then lF n m cd i else eS n m cd i
def hi (n m : Int) (cd : Int → Int) (i : Int) : Int := if lF n m cd i < eS n m cd i then eS n m cd i else lF n m cd i
theorem lohi (n m : Int) (cd : Int → Int) (i : Int) : (lo n m cd i = lF n m cd i ∧ hi n m cd i = eS n m cd i) ∨ (lo n m cd i = eS n m cd i ∧ hi n m cd i = lF n m cd i) := by
  unfold lo hi
  split
  · exact Or.inl ⟨rfl, rfl⟩
  · exact Or.inr ⟨rfl, rfl⟩
/-- i edges of a round -/
def wE (n m : Int) (cd : Int → Int) (f : Int → Int) (i : Int) : Int → Int := itr (fun i g => rx g (lo n m cd i) (hi n m cd i)) f i
/-- r rounds -/
def wR (n m : Int) (cd : Int → Int) (p : Int) (r : Int) : Int → Int := itr (fun _ f => wE n m cd f n) (fun v => if v = p then 0 else n + 1) r
theorem wE_s (n m : Int) (cd : Int → Int) (f : Int → Int) {i : Int} (h : 0 ≤ i) : wE n m cd f (i + 1) = rx (wE n m cd f i) (lo n m cd i) (hi n m cd i) := itr_s _ _ h
theorem wR_s (n m : Int) (cd : Int → Int) (p : Int) {r : Int} (h : 0 ≤ r) : wR n m cd p (r + 1) = wE n m cd (wR n m cd p r) n := itr_s _ _ h
section
variable {n m : Int} {cd : Int → Int}
theorem walk_round (hn : 0 ≤ n) (hm : n = 0 ∨ (1 ≤ n ∧ m = n - 1)) (hcd : ∀ i, 0 ≤ i → i < m → 0 ≤ cd i ∧ cd i ≤ n) {p r : Int} (p0 : 0 ≤ p) (p1 : p ≤ n) (r0 : 0 ≤ r) {f : Int → Int} (hf : ∀ v, dd n m cd n p v ≤ f v) (hr : ∀ v, 0 ≤ v → v ≤ n → dd n m cd n p v ≤ r → f v ≤ dd n m cd n p v) : (∀ v, dd n m cd n p v ≤ wE n m cd f n v ∧ wE n m cd f n v ≤ f v) ∧ ∀ v, 0 ≤ v → v ≤ n → dd n m cd n p v ≤ r + 1 → wE n m cd f n v ≤ dd n m cd n p v := by
  obtain ⟨a1, a2, a3, a4, a5, a6⟩ := dist_all hn hm hcd hn (Int.le_refl n)
  obtain ⟨D, hD⟩ : ∃ D, dd n m cd n = D := ⟨_, rfl⟩
  rw [hD] at hf hr a1 a2 a3 a4 a5 a6 ⊢
  have e0 : n - n = 0 := by omega
  rw [e0] at a4 a5 a6
  have out0 : ∀ v, oT n m cd 0 v = false := fun v => rfl
  have key : ∀ i, 0 ≤ i → i ≤ n → (∀ v, D p v ≤ wE n m cd f i v ∧ wE n m cd f i v ≤ f v) ∧ ∀ v, 0 ≤ v → v ≤ n → D p v = r + 1 → (∃ j, 0 ≤ j ∧ j < i ∧ ((lF n m cd j = v ∧ D p (eS n m cd j) + 1 = D p v) ∨ (eS n m cd j = v ∧ D p (lF n m cd j) + 1 = D p v))) → wE n m cd f i v ≤ D p v := by
    intro i i0 i1
    refine ind_Z (P := fun i => (∀ v, D p v ≤ wE n m cd f i v ∧ wE n m cd f i v ≤ f v) ∧ ∀ v, 0 ≤ v → v ≤ n → D p v = r + 1 → (∃ j, 0 ≤ j ∧ j < i ∧ ((lF n m cd j = v ∧ D p (eS n m cd j) + 1 = D p v) ∨ (eS n m cd j = v ∧ D p (lF n m cd j) + 1 = D p v))) → wE n m cd f i v ≤ D p v) ⟨fun v => ⟨hf v, Int.le_refl _⟩, fun v _ _ _ ⟨j, j0, j1, _⟩ => by omega⟩ (fun y y0 y1 ih => ?_) i0
    have h1 : 1 ≤ n := by omega
    have hm1 := (hm.resolve_left (by omega)).2
    have hE := tr_e (k := y) h1 hm1 hcd y0 (by omega)
    have hL := tr_L (cd := cd) (k := y) hn (show 0 ≤ m by omega) (by omega) hcd y0 (by omega)
    have h5 := a5 p y p0 p1 (out0 p) y0 (by omega)
    have hlh := lohi n m cd y
    have hne : lo n m cd y ≠ hi n m cd y := by
      have := hE.2.2
      rcases hlh with e | e <;> omega
    have hx := rx_ok (f := wE n m cd f y) (D := D p) hne (fun v => (ih.1 v).1) (by rcases hlh with e | e <;> rw [e.1, e.2] <;> omega) (by rcases hlh with e | e <;> rw [e.1, e.2] <;> omega)
    rw [wE_s n m cd f y0]
    refine ⟨fun v => ⟨(hx.1 v).1, Int.le_trans (hx.1 v).2 (ih.1 v).2⟩, fun v v0 v1 hv ⟨j, j0, j1, hj⟩ => ?_⟩
    by_cases q : j = y
    · subst q
      have hu : ∀ u, 0 ≤ u → u ≤ n → D p u + 1 = D p v → wE n m cd f j u ≤ D p u := fun u u0 u1 hu => Int.le_trans (ih.1 u).2 (hr u u0 u1 (by omega))
      rcases hj with ⟨e1, e2⟩ | ⟨e1, e2⟩
      · have h7 := hu _ hE.1.1 hE.1.2 e2
        rcases hlh with e | e
        · have := hx.2.1; rw [e.1, e.2, e1] at this; rw [e.1, e.2, e1]; omega
        · have := hx.2.2; rw [e.1, e.2, e1] at this; rw [e.1, e.2, e1]; omega
      · have h7 := hu _ hL.1.1 hL.1.2 e2
        rcases hlh with e | e
        · have := hx.2.2; rw [e.1, e.2, e1] at this; rw [e.1, e.2, e1]; omega
        · have := hx.2.1; rw [e.1, e.2, e1] at this; rw [e.1, e.2, e1]; omega
    · exact Int.le_trans (hx.1 v).2 (ih.2 v v0 v1 hv ⟨j, j0, by omega, hj⟩)
  obtain ⟨k1, k2⟩ := key n hn (Int.le_refl n)
  refine ⟨k1, fun v v0 v1 hv => ?_⟩
  by_cases q : D p v ≤ r
  · exact Int.le_trans (k1 v).2 (hr v v0 v1 q)
  · have hpv : p ≠ v := fun e => by rw [← e, a1] at q; omega
    obtain ⟨i, i0, i1, hi2⟩ := a6 p v p0 p1 v0 v1 (out0 p) (out0 v) hpv
    exact k2 v v0 v1 (by omega) ⟨i, i0, i1, hi2⟩
theorem walk_all (hn : 0 ≤ n) (hm : n = 0 ∨ (1 ≤ n ∧ m = n - 1)) (hcd : ∀ i, 0 ≤ i → i < m → 0 ≤ cd i ∧ cd i ≤ n) {p : Int} (p0 : 0 ≤ p) (p1 : p ≤ n) {r : Int} (r0 : 0 ≤ r) : (∀ v, dd n m cd n p v ≤ wR n m cd p r v ∧ wR n m cd p r v ≤ n + 1) ∧ ∀ v, 0 ≤ v → v ≤ n → dd n m cd n p v ≤ r → wR n m cd p r v ≤ dd n m cd n p v := by
  obtain ⟨a1, a2, a3, a4, a5, a6⟩ := dist_all hn hm hcd hn (Int.le_refl n)
  refine ind_Z (P := fun r => (∀ v, dd n m cd n p v ≤ wR n m cd p r v ∧ wR n m cd p r v ≤ n + 1) ∧ ∀ v, 0 ≤ v → v ≤ n → dd n m cd n p v ≤ r → wR n m cd p r v ≤ dd n m cd n p v) ⟨fun v => ?_, fun v v0 v1 hv => ?_⟩ (fun y y0 y1 ih => ?_) r0
  · show dd n m cd n p v ≤ (if v = p then 0 else n + 1) ∧ (if v = p then 0 else n + 1) ≤ n + 1
    by_cases q : v = p
    · rw [if_pos q, q, a1]; omega
    · rw [if_neg q]
      have := a3 p v
      omega
  · show (if v = p then 0 else n + 1) ≤ dd n m cd n p v
    by_cases q : v = p
    · rw [if_pos q, q, a1]; omega
    · exfalso
      have h4 := (a4 p v p0 p1 v0 v1 (fun e => q e.symm)).mpr (by rw [show n - n = 0 by omega]; exact ⟨rfl, rfl⟩)
      have h3 := a3 p v
      obtain ⟨i, i0, i1, hi2⟩ := a6 p v p0 p1 v0 v1 (by rw [show n - n = 0 by omega]; rfl) (by rw [show n - n = 0 by omega]; rfl) (fun e => q e.symm)
      have h5 := a3 p (eS n m cd i)
      have h6 := a3 p (lF n m cd i)
      have e8 : dd n m cd n p v = 0 := by omega
      have h9 : dd n m cd n p (eS n m cd i) = -1 ∨ dd n m cd n p (lF n m cd i) = -1 := by omega
      have hm1 := (hm.resolve_left (by omega)).2
      have hE := tr_e (k := i) (by omega) hm1 hcd (by omega) (by omega)
      have hL := tr_L (cd := cd) (k := i) hn (show 0 ≤ m by omega) (by omega) hcd (by omega) (by omega)
      rcases h9 with e | e
      · by_cases c : p = eS n m cd i
        · rw [← c, a1] at e; cases e
        · exact (a4 p _ p0 p1 hE.1.1 hE.1.2 c).mpr (by rw [show n - n = 0 by omega]; exact ⟨rfl, rfl⟩) e
      · by_cases c : p = lF n m cd i
        · rw [← c, a1] at e; cases e
        · exact (a4 p _ p0 p1 hL.1.1 hL.1.2 c).mpr (by rw [show n - n = 0 by omega]; exact ⟨rfl, rfl⟩) e
  · show (∀ v, dd n m cd n p v ≤ wR n m cd p (y + 1) v ∧ wR n m cd p (y + 1) v ≤ n + 1) ∧ _
    have := walk_round hn hm hcd p0 p1 y0 (fun v => (ih.1 v).1) ih.2
    rw [wR_s n m cd p y0]
    exact ⟨fun v => ⟨(this.1 v).1, Int.le_trans (this.1 v).2 (ih.1 v).2⟩, this.2⟩
theorem walk_end (hn : 0 ≤ n) (hm : n = 0 ∨ (1 ≤ n ∧ m = n - 1)) (hcd : ∀ i, 0 ≤ i → i < m → 0 ≤ cd i ∧ cd i ≤ n) {p v : Int} (p0 : 0 ≤ p) (p1 : p ≤ n) (v0 : 0 ≤ v) (v1 : v ≤ n) : wR n m cd p (n + 1) v = dd n m cd n p v := by
  have h := walk_all hn hm hcd p0 p1 (r := n + 1) (by omega)
  have h3 := (dist_all hn hm hcd hn (Int.le_refl n)).2.2.1 p v
  have h1 := (h.1 v).1
  have h2 := h.2 v v0 v1 (by omega)
  omega
theorem dd_in (hn : 0 ≤ n) (hm : n = 0 ∨ (1 ≤ n ∧ m = n - 1)) (hcd : ∀ i, 0 ≤ i → i < m → 0 ≤ cd i ∧ cd i ≤ n) {j : Int} (j0 : 0 ≤ j) (j1 : j ≤ n) (u v : Int) : -1 ≤ dd n m cd j u v ∧ dd n m cd j u v ≤ n := by
  have h3 := (dist_all hn hm hcd j0 j1).2.2.1 u v
  omega
end
/-! the codes of a row of cars -/
def cdR (n : Int) (pf : Int → Int) (i : Int) : Int := (pf (i + 1) - pf i) % (n + 1)
def mR (n : Int) : Int := if n ≤ 1 then 0 else n - 1
theorem mR_ok {n : Int} (hn : 0 ≤ n) : n = 0 ∨ (1 ≤ n ∧ mR n = n - 1) := by
  unfold mR
  split
  · omega
  · omega
theorem mR_in {n : Int} (hn : 0 ≤ n) : 0 ≤ mR n ∧ mR n ≤ n := by
  unfold mR
  split <;> omega
theorem cdR_in {n : Int} (hn : 0 ≤ n) (pf : Int → Int) (i : Int) : 0 ≤ cdR n pf i ∧ cdR n pf i ≤ n := by
  have := emod_in (pf (i + 1) - pf i) (N := n + 1) (by omega)
  unfold cdR
  omega
