/-! DISTANCES in the tree, without heaps -/
/-- one edge more, its leaf beside the others -/
def dU (l s : Int) (D : Int → Int → Int) : Int → Int → Int := fun u v => if u = l ∧ v ≠ l ∧ D s v ≠ -1 then D s v + 1 else if v = l ∧ u ≠ l ∧ D s u ≠ -1 then D s u + 1 else D u v
def d0 : Int → Int → Int := fun u v => if u = v then 0 else -1
/-- the last j edges are there -/
def dd (n m : Int) (cd : Int → Int) (j : Int) : Int → Int → Int := itr (fun i D => dU (lF n m cd (n - 1 - i)) (eS n m cd (n - 1 - i)) D) d0 j
theorem dd_s (n m : Int) (cd : Int → Int) {j : Int} (h : 0 ≤ j) : dd n m cd (j + 1) = dU (lF n m cd (n - 1 - j)) (eS n m cd (n - 1 - j)) (dd n m cd j) := itr_s _ _ h
def TrD (n m : Int) (cd : Int → Int) (j : Int) (D : Int → Int → Int) : Prop :=
  (∀ u, D u u = 0) ∧ (∀ u v, D u v = D v u) ∧ (∀ u v, D u v = -1 ∨ (0 ≤ D u v ∧ D u v ≤ j)) ∧
  (∀ u v, 0 ≤ u → u ≤ n → 0 ≤ v → v ≤ n → u ≠ v → (D u v ≠ -1 ↔ (oT n m cd (n - j) u = false ∧ oT n m cd (n - j) v = false))) ∧
  (∀ p i, 0 ≤ p → p ≤ n → oT n m cd (n - j) p = false → n - j ≤ i → i < n → D p (lF n m cd i) ≤ D p (eS n m cd i) + 1 ∧ D p (eS n m cd i) ≤ D p (lF n m cd i) + 1) ∧
  (∀ p v, 0 ≤ p → p ≤ n → 0 ≤ v → v ≤ n → oT n m cd (n - j) p = false → oT n m cd (n - j) v = false → p ≠ v → ∃ i, n - j ≤ i ∧ i < n ∧ ((lF n m cd i = v ∧ D p (eS n m cd i) + 1 = D p v) ∨ (eS n m cd i = v ∧ D p (lF n m cd i) + 1 = D p v)))
section
variable {n m : Int} {cd : Int → Int}
theorem dist_0 (hn : 0 ≤ n) (hm : n = 0 ∨ (1 ≤ n ∧ m = n - 1)) (hcd : ∀ i, 0 ≤ i → i < m → 0 ≤ cd i ∧ cd i ≤ n) : TrD n m cd 0 d0 := by
  have hb : ∀ u v, 0 ≤ u → u ≤ n → 0 ≤ v → v ≤ n → oT n m cd (n - 0) u = false → oT n m cd (n - 0) v = false → u = v := by
    intro u v u0 u1 v0 v1 hu hv
    rcases hm with h | ⟨h1, h2⟩
    · omega
    · have := tr_b h1 h2 hcd
      rw [show n - 0 = m + 1 by omega] at hu hv
      rw [this.2.2 u u0 u1 hu, this.2.2 v v0 v1 hv]
  refine ⟨fun u => if_pos rfl, fun u v => ?_, fun u v => ?_, fun u v u0 u1 v0 v1 ne => ?_, fun p i _ _ _ i0 i1 => by omega, fun p v p0 p1 v0 v1 hp hv ne => absurd (hb p v p0 p1 v0 v1 hp hv) ne⟩
  · unfold d0
    by_cases q : u = v
    · rw [if_pos q, if_pos q.symm]
    · rw [if_neg q, if_neg (fun e => q e.symm)]
  · unfold d0
    split
    · exact Or.inr ⟨Int.le_refl _, Int.le_refl _⟩
    · exact Or.inl rfl
  · unfold d0
    rw [if_neg ne]
    exact ⟨fun e => absurd rfl e, fun e => absurd (hb u v u0 u1 v0 v1 e.1 e.2) ne⟩
theorem dist_s (h1 : 1 ≤ n) (hm : m = n - 1) (hcd : ∀ i, 0 ≤ i → i < m → 0 ≤ cd i ∧ cd i ≤ n) {j : Int} {D : Int → Int → Int} (j0 : 0 ≤ j) (j1 : j < n) (hD : TrD n m cd j D) : TrD n m cd (j + 1) (dU (lF n m cd (n - 1 - j)) (eS n m cd (n - 1 - j)) D) := by
  obtain ⟨a1, a2, a3, a4, a5, a6⟩ := hD
  obtain ⟨k, hk⟩ : ∃ k, n - 1 - j = k := ⟨_, rfl⟩
  have ek : n - j = k + 1 := by omega
  have ek2 : n - (j + 1) = k := by omega
  have hL := tr_L (cd := cd) (k := k) (show 0 ≤ n by omega) (show 0 ≤ m by omega) (by omega) hcd (by omega) (by omega)
  have hE := tr_e (k := k) h1 hm hcd (by omega) (by omega)
  rw [hk]
  rw [ek] at a4 a5 a6
  unfold TrD
  rw [ek2]
  obtain ⟨l, hl⟩ : ∃ l, lF n m cd k = l := ⟨_, rfl⟩
  obtain ⟨s, hs⟩ : ∃ s, eS n m cd k = s := ⟨_, rfl⟩
  unfold TrL at hL
  rw [hl] at hL hE ⊢
  rw [hs] at hE ⊢
  obtain ⟨⟨l0, l1⟩, la, -⟩ := hL
  obtain ⟨⟨s0, s1⟩, sa, lns⟩ := hE
  have al : ∀ v, oT n m cd (k + 1) v = (oT n m cd k v || decide (v = l)) := fun v => by rw [oT_s n m cd (by omega), hl]
  have lout : oT n m cd (k + 1) l = true := by rw [al, decide_eq_true rfl, Bool.or_true]
  have alv : ∀ v, v ≠ l → oT n m cd (k + 1) v = oT n m cd k v := fun v hv => by rw [al, decide_eq_false hv, Bool.or_false]
  -- what the new edge gives
  have nl : ∀ u v, u ≠ l → v ≠ l → dU l s D u v = D u v := fun u v hu hv => by
    unfold dU
    rw [if_neg (fun e => hu e.1), if_neg (fun e => hv e.1)]
  have ll : dU l s D l l = 0 := by
    unfold dU
    rw [if_neg (fun e => e.2.1 rfl), if_neg (fun e => e.2.1 rfl)]
    exact a1 l
  have sk : ∀ v, 0 ≤ v → v ≤ n → oT n m cd (k + 1) v = false → D s v ≠ -1 := fun v v0 v1 hv => by
    by_cases e : s = v
    · rw [← e, a1]; decide
    · exact (a4 s v s0 s1 v0 v1 e).mpr ⟨sa, hv⟩
  have dlv : ∀ v, v ≠ l → D s v ≠ -1 → dU l s D l v = D s v + 1 := fun v hv hd => by
    unfold dU
    rw [if_pos ⟨rfl, hv, hd⟩]
  have dvl : ∀ v, v ≠ l → D s v ≠ -1 → dU l s D v l = D s v + 1 := fun v hv hd => by
    unfold dU
    rw [if_neg (fun e => hv e.1), if_pos ⟨rfl, hv, hd⟩]
  have sym : ∀ u v, dU l s D u v = dU l s D v u := fun u v => by
    by_cases hu : u = l
    · by_cases hv : v = l
      · rw [hu, hv]
      · rw [hu]
        by_cases hd : D s v = -1
        · unfold dU
          rw [if_neg (fun e => e.2.2 hd), if_neg (fun e => hv e.1), if_neg (fun e => hv e.1), if_neg (fun e => e.2.2 hd), a2]
        · rw [dlv v hv hd, dvl v hv hd]
    · by_cases hv : v = l
      · rw [hv]
        by_cases hd : D s u = -1
        · unfold dU
          rw [if_neg (fun e => hu e.1), if_neg (fun e => e.2.2 hd), if_neg (fun e => e.2.2 hd), if_neg (fun e => hu e.1), a2]
        · rw [dlv u hu hd, dvl u hu hd]
      · rw [nl u v hu hv, nl v u hv hu, a2]
  have ne_l : ∀ v, oT n m cd (k + 1) v = false → v ≠ l := fun v hv e => by rw [e, lout] at hv; cases hv
  have lD : ∀ v, 0 ≤ v → v ≤ n → v ≠ l → D l v = -1 := fun v v0 v1 hv => by
    rcases Decidable.em (D l v = -1) with e | e
    · exact e
    · have := ((a4 l v l0 l1 v0 v1 (fun c => hv c.symm)).mp e).1
      rw [lout] at this
      cases this
  have far : ∀ v, 0 ≤ v → v ≤ n → v ≠ l → oT n m cd (k + 1) v = true → D s v = -1 := fun v v0 v1 hv ho => by
    rcases Decidable.em (D s v = -1) with e | e
    · exact e
    · have hsv : s ≠ v := fun c => by rw [← c, sa] at ho; cases ho
      have := ((a4 s v s0 s1 v0 v1 hsv).mp e).2
      rw [ho] at this
      cases this
  refine ⟨fun u => ?_, sym, fun u v => ?_, fun u v u0 u1 v0 v1 ne => ?_, fun p i p0 p1 hp i0 i1 => ?_, fun p v p0 p1 v0 v1 hp hv ne => ?_⟩
  · by_cases hu : u = l
    · rw [hu]; exact ll
    · rw [nl u u hu hu]; exact a1 u
  · have h3 := a3 u v
    have h4 := a3 s v
    have h5 := a3 s u
    unfold dU
    split
    · omega
    · split
      · omega
      · omega
  · -- which are known
    have key : ∀ v, 0 ≤ v → v ≤ n → v ≠ l → (dU l s D l v ≠ -1 ↔ oT n m cd k v = false) := fun v v0 v1 hv => by
      rw [← alv v hv]
      cases ho : oT n m cd (k + 1) v
      · have h3 := sk v v0 v1 ho
        rw [dlv v hv h3]
        have h4 := a3 s v
        exact ⟨fun _ => rfl, fun _ => by omega⟩
      · have h3 := far v v0 v1 hv ho
        have : dU l s D l v = -1 := by
          unfold dU
          rw [if_neg (fun e => e.2.2 h3), if_neg (fun e => hv e.1)]
          exact lD v v0 v1 hv
        exact ⟨fun e => absurd this e, fun e => by cases e⟩
    by_cases hu : u = l
    · have hv : v ≠ l := fun e => ne (by rw [hu, e])
      rw [hu, key v v0 v1 hv, la]
      exact ⟨fun e => ⟨rfl, e⟩, fun e => e.2⟩
    · by_cases hv : v = l
      · rw [hv, sym, key u u0 u1 hu, la]
        exact ⟨fun e => ⟨e, rfl⟩, fun e => e.1⟩
      · rw [nl u v hu hv, a4 u v u0 u1 v0 v1 ne, alv u hu, alv v hv]
  · -- ends of an edge are beside each other
    by_cases hik : i = k
    · rw [hik, hl, hs]
      by_cases hpl : p = l
      · rw [hpl, ll, dlv s (fun e => lns e.symm) (by rw [a1]; decide), a1]
        omega
      · have hpo : oT n m cd (k + 1) p = false := by rw [alv p hpl]; exact hp
        have h3 := sk p p0 p1 hpo
        rw [dvl p hpl h3, nl p s hpl (fun e => lns e.symm), a2 p s]
        omega
    · have hLi := tr_L (cd := cd) (k := i) (show 0 ≤ n by omega) (show 0 ≤ m by omega) (by omega) hcd (by omega) (by omega)
      have hEi := tr_e (k := i) h1 hm hcd (by omega) (by omega)
      have o1 : oT n m cd (k + 1) (lF n m cd i) = false := by
        cases e : oT n m cd (k + 1) (lF n m cd i)
        · rfl
        · have := oT_up (n := n) (m := m) (cd := cd) (k := k + 1) (j := i) (by omega) (by omega) e
          rw [hLi.2.1] at this; cases this
      have o2 : oT n m cd (k + 1) (eS n m cd i) = false := by
        cases e : oT n m cd (k + 1) (eS n m cd i)
        · rfl
        · have := oT_up (n := n) (m := m) (cd := cd) (k := k + 1) (j := i + 1) (by omega) (by omega) e
          rw [hEi.2.1] at this; cases this
      have n1 := ne_l _ o1
      have n2 := ne_l _ o2
      by_cases hpl : p = l
      · rw [hpl, dlv _ n1 (sk _ hLi.1.1 hLi.1.2 o1), dlv _ n2 (sk _ hEi.1.1 hEi.1.2 o2)]
        have := a5 s i s0 s1 sa (by omega) i1
        omega
      · have hpo : oT n m cd (k + 1) p = false := by rw [alv p hpl]; exact hp
        rw [nl p _ hpl n1, nl p _ hpl n2]
        exact a5 p i p0 p1 hpo (by omega) i1
  · -- each has one that is nearer
    have ends : ∀ i, k + 1 ≤ i → i < n → lF n m cd i ≠ l ∧ eS n m cd i ≠ l ∧ (0 ≤ lF n m cd i ∧ lF n m cd i ≤ n ∧ oT n m cd (k + 1) (lF n m cd i) = false) ∧ (0 ≤ eS n m cd i ∧ eS n m cd i ≤ n ∧ oT n m cd (k + 1) (eS n m cd i) = false) := fun i i0 i1 => by
      have hLi := tr_L (cd := cd) (k := i) (show 0 ≤ n by omega) (show 0 ≤ m by omega) (by omega) hcd (by omega) (by omega)
      have hEi := tr_e (k := i) h1 hm hcd (by omega) (by omega)
      have o1 : oT n m cd (k + 1) (lF n m cd i) = false := by
        cases e : oT n m cd (k + 1) (lF n m cd i)
        · rfl
        · have := oT_up (n := n) (m := m) (cd := cd) (k := k + 1) (j := i) (by omega) (by omega) e
          rw [hLi.2.1] at this; cases this
      have o2 : oT n m cd (k + 1) (eS n m cd i) = false := by
        cases e : oT n m cd (k + 1) (eS n m cd i)
        · rfl
        · have := oT_up (n := n) (m := m) (cd := cd) (k := k + 1) (j := i + 1) (by omega) (by omega) e
          rw [hEi.2.1] at this; cases this
      exact ⟨ne_l _ o1, ne_l _ o2, ⟨hLi.1.1, hLi.1.2, o1⟩, hEi.1.1, hEi.1.2, o2⟩
    by_cases hvl : v = l
    · have hpl : p ≠ l := fun e => ne (by rw [e, hvl])
      have hpo : oT n m cd (k + 1) p = false := by rw [alv p hpl]; exact hp
      refine ⟨k, Int.le_refl k, by omega, Or.inl ⟨by rw [hl, hvl], ?_⟩⟩
      rw [hs, hvl, nl p s hpl (fun e => lns e.symm), dvl p hpl (sk p p0 p1 hpo), a2 p s]
    · have hvo : oT n m cd (k + 1) v = false := by rw [alv v hvl]; exact hv
      by_cases hpl : p = l
      · by_cases hvs : v = s
        · refine ⟨k, Int.le_refl k, by omega, Or.inr ⟨by rw [hs, hvs], ?_⟩⟩
          rw [hl, hpl, ll, hvs, dlv s (fun e => lns e.symm) (by rw [a1]; decide), a1]
        · obtain ⟨i, i0, i1, hi⟩ := a6 s v s0 s1 v0 v1 sa hvo (fun e => hvs e.symm)
          obtain ⟨m1, m2, ⟨b0, b1, b2⟩, c0, c1, c2⟩ := ends i i0 i1
          refine ⟨i, by omega, i1, ?_⟩
          rw [hpl, dlv v hvl (sk v v0 v1 hvo), dlv _ m1 (sk _ b0 b1 b2), dlv _ m2 (sk _ c0 c1 c2)]
          rcases hi with ⟨e1, e2⟩ | ⟨e1, e2⟩
          · exact Or.inl ⟨e1, by omega⟩
          · exact Or.inr ⟨e1, by omega⟩
      · have hpo : oT n m cd (k + 1) p = false := by rw [alv p hpl]; exact hp
        obtain ⟨i, i0, i1, hi⟩ := a6 p v p0 p1 v0 v1 hpo hvo ne
        obtain ⟨m1, m2, -, -⟩ := ends i i0 i1
        refine ⟨i, by omega, i1, ?_⟩
        rw [nl p v hpl hvl, nl p _ hpl m1, nl p _ hpl m2]
        exact hi
theorem dist_all (hn : 0 ≤ n) (hm : n = 0 ∨ (1 ≤ n ∧ m = n - 1)) (hcd : ∀ i, 0 ≤ i → i < m → 0 ≤ cd i ∧ cd i ≤ n) {j : Int} (j0 : 0 ≤ j) (j1 : j ≤ n) : TrD n m cd j (dd n m cd j) := by
  refine ind_Z (P := fun j => TrD n m cd j (dd n m cd j)) (dist_0 hn hm hcd) (fun y y0 y1 ih => ?_) j0
  show TrD n m cd (y + 1) (dd n m cd (y + 1))
  rw [dd_s n m cd y0]
  have h1 : 1 ≤ n := by omega
  exact dist_s h1 (hm.resolve_left (by omega)).2 hcd y0 (by omega) ih
end
/-! the reference's way to them: each edge makes its two ends nearer, again and again -/
def rx1 (f : Int → Int) (a b : Int) : Int → Int := fun v => if v = a then (if f a ≤ f b + 1 then f a else f b + 1) else f v
def rx (f : Int → Int) (a b : Int) : Int → Int := rx1 (rx1 f a b) b a
theorem rx1_a (f : Int → Int) (a b : Int) : rx1 f a b a ≤ f a ∧ rx1 f a b a ≤ f b + 1 ∧ (rx1 f a b a = f a ∨ rx1 f a b a = f b + 1) := by
  unfold rx1
  rw [if_pos rfl]
  split
  · exact ⟨Int.le_refl _, by omega, Or.inl rfl⟩
  · exact ⟨by omega, Int.le_refl _, Or.inr rfl⟩
theorem rx1_n (f : Int → Int) (b : Int) {a v : Int} (h : v ≠ a) : rx1 f a b v = f v := if_neg h
theorem rx_ok {f D : Int → Int} {a b : Int} (hab : a ≠ b) (hf : ∀ v, D v ≤ f v) (d1 : D a ≤ D b + 1) (d2 : D b ≤ D a + 1) : (∀ v, D v ≤ rx f a b v ∧ rx f a b v ≤ f v) ∧ rx f a b a ≤ f b + 1 ∧ rx f a b b ≤ f a + 1 := by
  have ha := hf a
  have hb := hf b
  have h1 := rx1_a f a b
  have h2 := rx1_a (rx1 f a b) b a
  have h3 := rx1_n f b (fun e => hab e.symm : b ≠ a)
  have h4 := rx1_n (rx1 f a b) a hab
  unfold rx
  refine ⟨fun v => ?_, by omega, by omega⟩
  have hv := hf v
  by_cases q : v = b
  · rw [q]; omega
  · rw [rx1_n _ _ q]
    by_cases q2 : v = a
    · rw [q2]; omega
    · rw [rx1_n _ _ q2]; omega
