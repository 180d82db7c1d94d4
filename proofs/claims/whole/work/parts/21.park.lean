/-! PARKING, as numbers: N spots, b looked back, pf the preferences -/
theorem emod_in (z : Int) {N : Int} (h : 0 < N) : 0 ≤ z % N ∧ z % N < N := ⟨Int.emod_nonneg z (by omega), Int.emod_lt_of_pos z h⟩
theorem emod_id {z N : Int} (h1 : 0 ≤ z) (h2 : z < N) : z % N = z := Int.emod_eq_of_lt h1 h2
/-- equal rests by a multiple -/
theorem emod_eq {a b N : Int} (k : Int) (h : a = b + N * k) : a % N = b % N := by rw [h, Int.add_mul_emod_self_left]
theorem emod_ex (z N : Int) : ∃ q, z % N = z + N * q := ⟨-(z / N), by have := Int.emod_add_mul_ediv z N; rw [Int.mul_neg]; omega⟩
theorem emod_l (a b N : Int) : (a % N + b) % N = (a + b) % N := Int.emod_add_emod a N b
theorem emod_sub_l (a b N : Int) : (a % N - b) % N = (a - b) % N := by
  rw [Int.sub_eq_add_neg, Int.sub_eq_add_neg, emod_l]
/-- the number k, 0 to N - 1, by which s lies behind w -/
theorem emod_step {s w N : Int} (h1 : 0 ≤ s) (h2 : s < N) : (w + (s - w) % N) % N = s := by
  rw [Int.add_comm, emod_l, Int.sub_add_cancel, emod_id h1 h2]
theorem emod_back {s w N : Int} (h1 : 0 ≤ s) (h2 : s < N) : (w - (w - s) % N) % N = s := by
  obtain ⟨q, e⟩ := emod_ex (w - s) N
  rw [e, emod_eq (b := s) (-q) (by rw [Int.mul_neg]; omega), emod_id h1 h2]
theorem emod_inj {a b N : Int} (h : a % N = b % N) (h1 : -N < a - b) (h2 : a - b < N) : a = b := by
  obtain ⟨q, e⟩ := emod_ex a N
  obtain ⟨r, e2⟩ := emod_ex b N
  have h3 : a - b = N * (r - q) := by rw [Int.mul_sub]; omega
  rcases Int.lt_trichotomy (r - q) 0 with h4 | h4 | h4
  · have h5 : N * (r - q) ≤ N * (-1) := Int.mul_le_mul_of_nonneg_left (by omega) (by omega)
    rw [Int.mul_neg, Int.mul_one] at h5
    omega
  · rw [h4, Int.mul_zero] at h3; omega
  · have h5 : N * 1 ≤ N * (r - q) := Int.mul_le_mul_of_nonneg_left (by omega) (by omega)
    rw [Int.mul_one] at h5
    omega
def mvO (N b : Int) (T : Int → Int) (w : Int) : Int :=
  if T w = -1 then 0 else
  if fnd (fun k => decide (T ((w - k) % N) = -1)) b.toNat 1 ≤ b then -(fnd (fun k => decide (T ((w - k) % N) = -1)) b.toNat 1) else
  if fnd (fun k => decide (T ((w + k) % N) = -1)) (N - 1).toNat 1 < N then fnd (fun k => decide (T ((w + k) % N) = -1)) (N - 1).toNat 1 else 0
def tkO (N b : Int) (pf : Int → Int) (z : Int) : Int → Int := itr (fun c T => fun s => if s = (pf c + mvO N b T (pf c)) % N then c else T s) (fun _ => -1) z
def mv (N b : Int) (pf : Int → Int) (c : Int) : Int := mvO N b (tkO N b pf c) (pf c)
def sp (N b : Int) (pf : Int → Int) (c : Int) : Int := (pf c + mv N b pf c) % N
theorem tk_0 (N b : Int) (pf : Int → Int) (s : Int) : tkO N b pf 0 s = -1 := rfl
theorem tk_s (N b : Int) (pf : Int → Int) {z : Int} (h : 0 ≤ z) (s : Int) : tkO N b pf (z + 1) s = if s = sp N b pf z then z else tkO N b pf z s := by
  unfold tkO
  rw [itr_s _ _ h]
  rfl
/-- the spots of the circle, its preferences on it -/
def Pf (n : Int) (pf : Int → Int) : Prop := ∀ c, 0 ≤ c → c < n → 0 ≤ pf c ∧ pf c ≤ n
section
variable {n b : Int} {pf : Int → Int}
theorem sp_in (hn : 0 ≤ n) (c : Int) : 0 ≤ sp (n + 1) b pf c ∧ sp (n + 1) b pf c ≤ n := by
  have := emod_in (pf c + mv (n + 1) b pf c) (N := n + 1) (by omega)
  unfold sp; omega
/-- who takes a spot is a car that has come, and the spot is its own -/
theorem tk_own (hn : 0 ≤ n) {c : Int} (hc : 0 ≤ c) : ∀ s, tkO (n + 1) b pf c s = -1 ∨ (0 ≤ tkO (n + 1) b pf c s ∧ tkO (n + 1) b pf c s < c ∧ sp (n + 1) b pf (tkO (n + 1) b pf c s) = s) := by
  refine ind_Z (P := fun c => ∀ s, tkO (n + 1) b pf c s = -1 ∨ (0 ≤ tkO (n + 1) b pf c s ∧ tkO (n + 1) b pf c s < c ∧ sp (n + 1) b pf (tkO (n + 1) b pf c s) = s)) (fun s => Or.inl rfl) (fun z h1 _ ih s => ?_) hc
  rw [tk_s _ _ _ h1]
  by_cases e : s = sp (n + 1) b pf z
  · rw [if_pos e]; exact Or.inr ⟨h1, by omega, e.symm⟩
  · rw [if_neg e]
    rcases ih s with h | h
    · exact Or.inl h
    · exact Or.inr ⟨h.1, by omega, h.2.2⟩
theorem sm_upd {f g : Int → Int} {a z : Int} (hz : 0 ≤ z) (h1 : ∀ s, s ≠ a → g s = f s) (h2 : g a ≤ f a + 1) : sm_ g z ≤ sm_ f z + 1 := by
  have key : (z ≤ a → sm_ g z = sm_ f z) ∧ sm_ g z ≤ sm_ f z + 1 := by
    refine ind_Z (P := fun y => (y ≤ a → sm_ g y = sm_ f y) ∧ sm_ g y ≤ sm_ f y + 1) ⟨fun _ => rfl, by rw [sm_0, sm_0]; omega⟩ (fun y h3 _ ih => ?_) hz
    rw [sm_s _ h3, sm_s _ h3]
    by_cases e : y = a
    · subst e
      exact ⟨fun q => by omega, by have := ih.1 (by omega); omega⟩
    · rw [h1 y e]
      exact ⟨fun q => by have := ih.1 (by omega); omega, by have := ih.2; omega⟩
  exact key.2
theorem sm_const (m : Int) {z : Int} (hz : 0 ≤ z) : sm_ (fun _ => m) z = z * m := by
  refine ind_Z (P := fun y => sm_ (fun _ => m) y = y * m) (by rw [sm_0]; omega) (fun y h _ ih => ?_) hz
  rw [sm_s _ h, ih, Int.add_mul]; omega
/-- a spot is free as long as fewer cars than spots have come -/
theorem tk_free (hn : 0 ≤ n) {c : Int} (hc : 0 ≤ c) (hcn : c ≤ n) : ∃ s, 0 ≤ s ∧ s ≤ n ∧ tkO (n + 1) b pf c s = -1 := by
  have h1 : sm_ (fun s => b1 (!decide (tkO (n + 1) b pf c s = -1))) (n + 1) ≤ c := by
    refine ind_Z (P := fun c => sm_ (fun s => b1 (!decide (tkO (n + 1) b pf c s = -1))) (n + 1) ≤ c) ?_ (fun z hz _ ih => ?_) hc
    · rw [sm_congr (g := fun _ => 0) (fun s _ _ => by rw [tk_0]; rfl), sm_const 0 (by omega)]; omega
    · refine Int.le_trans (sm_upd (f := fun s => b1 (!decide (tkO (n + 1) b pf z s = -1))) (a := sp (n + 1) b pf z) (by omega) (fun s hs => ?_) ?_) (by omega)
      · rw [tk_s _ _ _ hz, if_neg hs]
      · have : ∀ x : Bool, b1 x ≤ 1 ∧ 0 ≤ b1 x := by decide
        have q1 := (this (!decide (tkO (n + 1) b pf (z + 1) (sp (n + 1) b pf z) = -1))).1
        have q2 := (this (!decide (tkO (n + 1) b pf z (sp (n + 1) b pf z) = -1))).2
        omega
  rcases Classical.em (∃ s, 0 ≤ s ∧ s ≤ n ∧ tkO (n + 1) b pf c s = -1) with h | h
  · exact h
  · rw [sm_congr (g := fun _ => 1) (fun s a1 a2 => by
      rw [decide_eq_false (fun e => h ⟨s, a1, by omega, e⟩)]; rfl), sm_const 1 (by omega)] at h1
    omega
theorem mvO_cases {N b : Int} {T : Int → Int} {w s : Int} (hb : 0 ≤ b) (hw : 0 ≤ w ∧ w < N) (hs : 0 ≤ s ∧ s < N) (hT : T s = -1) : (T w = -1 ∧ mvO N b T w = 0) ∨ (T w ≠ -1 ∧ ∃ k, 1 ≤ k ∧ k ≤ b ∧ k < N ∧ mvO N b T w = -k ∧ (∀ i, 1 ≤ i → i < k → T ((w - i) % N) ≠ -1) ∧ T ((w - k) % N) = -1) ∨ (T w ≠ -1 ∧ (∀ i, 1 ≤ i → i ≤ b → T ((w - i) % N) ≠ -1) ∧ ∃ k, 1 ≤ k ∧ k < N ∧ mvO N b T w = k ∧ (∀ i, 1 ≤ i → i < k → T ((w + i) % N) ≠ -1) ∧ T ((w + k) % N) = -1) := by
  by_cases h0 : T w = -1
  · exact Or.inl ⟨h0, by unfold mvO; rw [if_pos h0]⟩
  · right
    have hne : s ≠ w := fun e => h0 (e ▸ hT)
    have g := fnd_ge (fun k => decide (T ((w - k) % N) = -1)) b.toNat 1
    have gn : ∀ i, 1 ≤ i → i < fnd (fun k => decide (T ((w - k) % N) = -1)) b.toNat 1 → T ((w - i) % N) ≠ -1 := fun i h1 h2 => of_decide_eq_false (fnd_not (fun k => decide (T ((w - k) % N) = -1)) b.toNat 1 i h1 h2)
    by_cases h1 : fnd (fun k => decide (T ((w - k) % N) = -1)) b.toNat 1 ≤ b
    · left
      refine ⟨h0, fnd (fun k => decide (T ((w - k) % N) = -1)) b.toNat 1, g.1, h1, ?_, by unfold mvO; rw [if_neg h0, if_pos h1], gn, of_decide_eq_true (fnd_is (fun k => decide (T ((w - k) % N) = -1)) b.toNat 1 (by omega))⟩
      have g4 := emod_in (w - s) (N := N) (by omega)
      have g5 : (w - s) % N ≠ 0 := fun e => by
        have := emod_back (w := w) hs.1 hs.2
        rw [e, Int.sub_zero, emod_id hw.1 hw.2] at this
        exact hne this.symm
      rcases Int.lt_or_le ((w - s) % N) (fnd (fun k => decide (T ((w - k) % N) = -1)) b.toNat 1) with q | q
      · have := gn ((w - s) % N) (by omega) q
        rw [emod_back (w := w) hs.1 hs.2] at this
        exact absurd hT this
      · omega
    · right
      have g2 := fnd_ge (fun k => decide (T ((w + k) % N) = -1)) (N - 1).toNat 1
      have gn2 : ∀ i, 1 ≤ i → i < fnd (fun k => decide (T ((w + k) % N) = -1)) (N - 1).toNat 1 → T ((w + i) % N) ≠ -1 := fun i h1 h2 => of_decide_eq_false (fnd_not (fun k => decide (T ((w + k) % N) = -1)) (N - 1).toNat 1 i h1 h2)
      have g4 := emod_in (s - w) (N := N) (by omega)
      have g5 : (s - w) % N ≠ 0 := fun e => by
        have := emod_step (w := w) hs.1 hs.2
        rw [e, Int.add_zero, emod_id hw.1 hw.2] at this
        exact hne this.symm
      have hlt : fnd (fun k => decide (T ((w + k) % N) = -1)) (N - 1).toNat 1 < N := by
        rcases Int.lt_or_le ((s - w) % N) (fnd (fun k => decide (T ((w + k) % N) = -1)) (N - 1).toNat 1) with q | q
        · have := gn2 ((s - w) % N) (by omega) q
          rw [emod_step (w := w) hs.1 hs.2] at this
          exact absurd hT this
        · omega
      exact ⟨h0, fun i h2 h3 => gn i h2 (by omega), fnd (fun k => decide (T ((w + k) % N) = -1)) (N - 1).toNat 1, g2.1, hlt, by unfold mvO; rw [if_neg h0, if_neg h1, if_pos hlt], gn2, of_decide_eq_true (fnd_is (fun k => decide (T ((w + k) % N) = -1)) (N - 1).toNat 1 (by omega))⟩
/-- the steps of a move, where a spot is free -/
theorem mvO_spec {N b : Int} {T : Int → Int} {w s : Int} (hb : 0 ≤ b) (hw : 0 ≤ w ∧ w < N) (hs : 0 ≤ s ∧ s < N) (hT : T s = -1) : T ((w + mvO N b T w) % N) = -1 ∧ -N < mvO N b T w ∧ mvO N b T w < N ∧ -mvO N b T w ≤ b := by
  rcases mvO_cases hb hw hs hT with ⟨h1, h2⟩ | ⟨h1, k, k1, k2, k3, h2, _, h3⟩ | ⟨h1, _, k, k1, k2, h2, _, h3⟩
  · rw [h2, Int.add_zero, emod_id hw.1 hw.2]; exact ⟨h1, by omega, by omega, by omega⟩
  · rw [h2]; exact ⟨h3, by omega, by omega, by omega⟩
  · rw [h2]; exact ⟨h3, by omega, by omega, by omega⟩
theorem mv_in (hP : Pf n pf) (hb : 0 ≤ b) {c : Int} (hc : 0 ≤ c) (hcn : c < n) : -n ≤ mv (n + 1) b pf c ∧ mv (n + 1) b pf c ≤ n ∧ -b ≤ mv (n + 1) b pf c := by
  obtain ⟨s, s1, s2, s3⟩ := tk_free (b := b) (pf := pf) (by omega : 0 ≤ n) hc (by omega)
  have hp := hP c hc hcn
  have q := mvO_spec (b := b) (N := n + 1) (w := pf c) hb (by omega) (by omega : 0 ≤ s ∧ s < n + 1) s3
  unfold mv; omega
/-- a car takes a free spot -/
theorem sp_free (hP : Pf n pf) (hb : 0 ≤ b) {c : Int} (hc : 0 ≤ c) (hcn : c < n) : tkO (n + 1) b pf c (sp (n + 1) b pf c) = -1 := by
  obtain ⟨s, s1, s2, s3⟩ := tk_free (b := b) (pf := pf) (by omega : 0 ≤ n) hc (by omega)
  have hp := hP c hc hcn
  exact (mvO_spec (b := b) (N := n + 1) (w := pf c) hb (by omega) (by omega : 0 ≤ s ∧ s < n + 1) s3).1
/-- what is taken stays taken -/
theorem tk_keep (hP : Pf n pf) (hb : 0 ≤ b) {c d : Int} (hc : 0 ≤ c) (hcd : c ≤ d) (hd : d ≤ n) {s : Int} (hs : tkO (n + 1) b pf c s ≠ -1) : tkO (n + 1) b pf d s = tkO (n + 1) b pf c s := by
  have key : ∀ z, 0 ≤ z → z < d → tkO (n + 1) b pf z s ≠ -1 → tkO (n + 1) b pf (z + 1) s = tkO (n + 1) b pf z s := by
    intro z h1 h2 h3
    rw [tk_s _ _ _ h1, if_neg (fun e => h3 (by rw [e]; exact sp_free hP hb h1 (by omega)))]
  have := ind_Z (P := fun k => c + k ≤ d → tkO (n + 1) b pf (c + k) s = tkO (n + 1) b pf c s) (n := d - c) (fun _ => by rw [Int.add_zero]) (fun k h1 h2 ih h3 => by
    rw [← Int.add_assoc, key (c + k) (by omega) (by omega) (by rw [ih (by omega)]; exact hs)]
    exact ih (by omega)) (by omega)
  have h := this (by omega)
  rwa [show c + (d - c) = d by omega] at h
theorem tk_sp (hP : Pf n pf) (hb : 0 ≤ b) {c d : Int} (hc : 0 ≤ c) (hcd : c < d) (hd : d ≤ n) : tkO (n + 1) b pf d (sp (n + 1) b pf c) = c := by
  have h1 : tkO (n + 1) b pf (c + 1) (sp (n + 1) b pf c) = c := by rw [tk_s _ _ _ hc, if_pos rfl]
  rw [tk_keep hP hb (c := c + 1) (d := d) (by omega) (by omega) hd (by rw [h1]; omega), h1]
theorem tk_free_before (hP : Pf n pf) (hb : 0 ≤ b) {c d : Int} (hc : 0 ≤ c) (hcd : c ≤ d) (hd : d ≤ n) {s : Int} (hs : tkO (n + 1) b pf d s = -1) : tkO (n + 1) b pf c s = -1 := by
  rcases Classical.em (tkO (n + 1) b pf c s = -1) with h | h
  · exact h
  · rw [tk_keep hP hb hc hcd hd h] at hs; exact hs
/-- the first free spot -/
def fr (N b : Int) (pf : Int → Int) (c : Int) : Int := fnd (fun s => decide (tkO N b pf c s = -1)) N.toNat 0
theorem fr_in (hn : 0 ≤ n) {c : Int} (hc : 0 ≤ c) (hcn : c ≤ n) : 0 ≤ fr (n + 1) b pf c ∧ fr (n + 1) b pf c ≤ n ∧ tkO (n + 1) b pf c (fr (n + 1) b pf c) = -1 := by
  obtain ⟨s, s1, s2, s3⟩ := tk_free (b := b) (pf := pf) hn hc hcn
  have g := fnd_ge (fun s => decide (tkO (n + 1) b pf c s = -1)) (n + 1).toNat 0
  have hle : fr (n + 1) b pf c ≤ s := by
    rcases Int.lt_or_le s (fr (n + 1) b pf c) with q | q
    · have := fnd_not (fun s => decide (tkO (n + 1) b pf c s = -1)) (n + 1).toNat 0 s s1 q
      exact absurd s3 (of_decide_eq_false this)
    · exact q
  unfold fr at *
  exact ⟨g.1, by omega, of_decide_eq_true (fnd_is (fun s => decide (tkO (n + 1) b pf c s = -1)) (n + 1).toNat 0 (by omega))⟩
/-- lucky: on its own spot, or not moved -/
theorem lucky_iff (hP : Pf n pf) (hb : 0 ≤ b) {c : Int} (hc : 0 ≤ c) (hcn : c < n) : (sp (n + 1) b pf c = pf c) ↔ (mv (n + 1) b pf c = 0) := by
  have h1 := mv_in hP hb hc hcn
  have hp := hP c hc hcn
  constructor
  · intro e
    unfold sp at e
    have : (pf c + mv (n + 1) b pf c) % (n + 1) = (pf c) % (n + 1) := by rw [e, emod_id (by omega) (by omega)]
    have := emod_inj this (by omega) (by omega)
    omega
  · intro e
    unfold sp
    rw [e, Int.add_zero, emod_id (by omega) (by omega)]
theorem mv_cases (hP : Pf n pf) (hb : 0 ≤ b) {c : Int} (hc : 0 ≤ c) (hcn : c < n) : (tkO (n + 1) b pf c (pf c) = -1 ∧ mv (n + 1) b pf c = 0) ∨ (tkO (n + 1) b pf c (pf c) ≠ -1 ∧ ∃ k, 1 ≤ k ∧ k ≤ b ∧ k < n + 1 ∧ mv (n + 1) b pf c = -k ∧ (∀ i, 1 ≤ i → i < k → tkO (n + 1) b pf c ((pf c - i) % (n + 1)) ≠ -1) ∧ tkO (n + 1) b pf c ((pf c - k) % (n + 1)) = -1) ∨ (tkO (n + 1) b pf c (pf c) ≠ -1 ∧ (∀ i, 1 ≤ i → i ≤ b → tkO (n + 1) b pf c ((pf c - i) % (n + 1)) ≠ -1) ∧ ∃ k, 1 ≤ k ∧ k < n + 1 ∧ mv (n + 1) b pf c = k ∧ (∀ i, 1 ≤ i → i < k → tkO (n + 1) b pf c ((pf c + i) % (n + 1)) ≠ -1) ∧ tkO (n + 1) b pf c ((pf c + k) % (n + 1)) = -1) := by
  obtain ⟨s, s1, s2, s3⟩ := tk_free (b := b) (pf := pf) (by omega : 0 ≤ n) hc (by omega)
  have hp := hP c hc hcn
  exact mvO_cases (b := b) (N := n + 1) (w := pf c) hb (by omega) (by omega : 0 ≤ s ∧ s < n + 1) s3
/-- TURN -/
def tn (n b : Int) (pf : Int → Int) : Int := n - fr (n + 1) b pf n
theorem tn_in (hn : 0 ≤ n) : 0 ≤ tn n b pf ∧ tn n b pf ≤ n := by
  have := fr_in (b := b) (pf := pf) hn hn (Int.le_refl n)
  unfold tn; omega
/-- a preference or a spot, turned -/
def tw (n b : Int) (pf : Int → Int) (c : Int) : Int := (pf c + tn n b pf) % (n + 1)
theorem tw_in (hn : 0 ≤ n) (c : Int) : 0 ≤ tw n b pf c ∧ tw n b pf c ≤ n := by
  have := emod_in (pf c + tn n b pf) (N := n + 1) (by omega)
  unfold tw; omega
/-- the takers as the line has them -/
def tL (n b : Int) (pf : Int → Int) (c s : Int) : Int := tkO (n + 1) b pf c ((s - tn n b pf) % (n + 1))
theorem tL_w (i c : Int) : tL n b pf c (tw n b pf c + i) = tkO (n + 1) b pf c ((pf c + i) % (n + 1)) := by
  unfold tL tw
  rw [show (pf c + tn n b pf) % (n + 1) + i - tn n b pf = (pf c + tn n b pf) % (n + 1) + (i - tn n b pf) by omega, emod_l]
  rw [show pf c + tn n b pf + (i - tn n b pf) = pf c + i by omega]
theorem tL_n (hP : Pf n pf) (hb : 0 ≤ b) {c : Int} (hc : 0 ≤ c) (hcn : c ≤ n) : tL n b pf c n = -1 := by
  have h := fr_in (b := b) (pf := pf) (by omega : 0 ≤ n) (by omega : 0 ≤ n) (Int.le_refl n)
  unfold tL tn
  rw [show n - (n - fr (n + 1) b pf n) = fr (n + 1) b pf n by omega, emod_id h.1 (by omega)]
  exact tk_free_before hP hb hc hcn (Int.le_refl n) h.2.2
theorem tL_m (hP : Pf n pf) (hb : 0 ≤ b) {c : Int} (hc : 0 ≤ c) (hcn : c ≤ n) : tL n b pf c (-1) = -1 := by
  refine Eq.trans ?_ (tL_n (b := b) hP hb hc hcn)
  unfold tL
  rw [emod_eq (a := -1 - tn n b pf) (b := n - tn n b pf) (N := n + 1) (-1) (by rw [Int.mul_neg, Int.mul_one]; omega)]
theorem sp_ne_gap (hP : Pf n pf) (hb : 0 ≤ b) {c : Int} (hc : 0 ≤ c) (hcn : c < n) {s : Int} (hs : sp (n + 1) b pf c = s % (n + 1)) : tL n b pf n (s + tn n b pf) ≠ -1 := by
  unfold tL
  rw [show s + tn n b pf - tn n b pf = s by omega, ← hs, tk_sp hP hb hc hcn (Int.le_refl n)]
  omega
/-- the line: each car comes to a spot as on the circle, and never to the ends -/
theorem ln_cases (hP : Pf n pf) (hb : 0 ≤ b) {c : Int} (hc : 0 ≤ c) (hcn : c < n) : 0 ≤ tw n b pf c ∧ tw n b pf c < n ∧ 0 ≤ tw n b pf c + mv (n + 1) b pf c ∧ tw n b pf c + mv (n + 1) b pf c < n ∧ tL n b pf c (tw n b pf c + mv (n + 1) b pf c) = -1 ∧
    ((tL n b pf c (tw n b pf c) = -1 ∧ mv (n + 1) b pf c = 0) ∨ (tL n b pf c (tw n b pf c) ≠ -1 ∧ ∃ k, 1 ≤ k ∧ k ≤ b ∧ k ≤ tw n b pf c ∧ mv (n + 1) b pf c = -k ∧ (∀ i, 1 ≤ i → i < k → tL n b pf c (tw n b pf c - i) ≠ -1) ∧ tL n b pf c (tw n b pf c - k) = -1) ∨ (tL n b pf c (tw n b pf c) ≠ -1 ∧ (∀ i, 1 ≤ i → i ≤ b → tL n b pf c (tw n b pf c - i) ≠ -1) ∧ ∃ k, 1 ≤ k ∧ tw n b pf c + k < n ∧ mv (n + 1) b pf c = k ∧ (∀ i, 1 ≤ i → i < k → tL n b pf c (tw n b pf c + i) ≠ -1) ∧ tL n b pf c (tw n b pf c + k) = -1)) := by
  have hw := tw_in (b := b) (pf := pf) (by omega : 0 ≤ n) c
  have hp := hP c hc hcn
  have e0 : ∀ i, tkO (n + 1) b pf c ((pf c + i) % (n + 1)) = tL n b pf c (tw n b pf c + i) := fun i => (tL_w i c).symm
  have e1 : ∀ i, tkO (n + 1) b pf c ((pf c - i) % (n + 1)) = tL n b pf c (tw n b pf c - i) := fun i => by
    have := e0 (-i)
    rwa [← Int.sub_eq_add_neg, ← Int.sub_eq_add_neg] at this
  have e2 : tkO (n + 1) b pf c (pf c) = tL n b pf c (tw n b pf c) := by
    have := e0 0
    rwa [Int.add_zero, Int.add_zero, emod_id hp.1 (by omega)] at this
  -- the end's spot is free for ever
  have hend : ∀ i, tw n b pf c + i = n ∨ tw n b pf c + i = -1 → sp (n + 1) b pf c ≠ (pf c + i) % (n + 1) := by
    intro i hi e
    have h1 := sp_ne_gap hP hb hc hcn e
    apply h1
    have h2 : tL n b pf n (pf c + i + tn n b pf) = tL n b pf n (tw n b pf c + i) := by
      unfold tL tw
      rw [show (pf c + tn n b pf) % (n + 1) + i - tn n b pf = (pf c + tn n b pf) % (n + 1) + (i - tn n b pf) by omega, emod_l]
      rw [show pf c + tn n b pf + (i - tn n b pf) = pf c + i + tn n b pf - tn n b pf by omega]
    rw [h2]
    rcases hi with q | q
    · rw [q]; exact tL_n hP hb (by omega) (Int.le_refl n)
    · rw [q]; exact tL_m hP hb (by omega) (Int.le_refl n)
  rcases mv_cases hP hb hc hcn with ⟨h1, h2⟩ | ⟨h1, k, k1, k2, k3, h2, h3, h4⟩ | ⟨h1, h5, k, k1, k2, h2, h3, h4⟩
  · have hlt : tw n b pf c < n := by
      rcases Int.lt_or_le (tw n b pf c) n with q | q
      · exact q
      · exfalso
        refine hend 0 (Or.inl (by omega)) ?_
        unfold sp
        rw [h2]
    rw [h2, Int.add_zero]
    rw [e2] at h1
    exact ⟨hw.1, hlt, hw.1, hlt, h1, Or.inl ⟨h1, rfl⟩⟩
  · rw [e2] at h1
    have hlt : tw n b pf c < n := by
      rcases Int.lt_or_le (tw n b pf c) n with q | q
      · exact q
      · exact absurd (by rw [show tw n b pf c = n by omega]; exact tL_n hP hb hc (by omega)) h1
    have hk : k ≤ tw n b pf c := by
      rcases Int.lt_or_le (tw n b pf c) k with q | q
      · exfalso
        rcases Int.lt_or_le (tw n b pf c + 1) k with q2 | q2
        · refine h3 (tw n b pf c + 1) (by omega) q2 ?_
          rw [e1, show tw n b pf c - (tw n b pf c + 1) = -1 by omega]
          exact tL_m hP hb hc (by omega)
        · refine hend (-k) (Or.inr (by omega)) ?_
          unfold sp
          rw [h2]
      · exact q
    rw [h2]
    rw [e1] at h4
    refine ⟨hw.1, hlt, by omega, by omega, by rw [← Int.sub_eq_add_neg]; exact h4, Or.inr (Or.inl ⟨h1, k, k1, k2, hk, rfl, fun i q1 q2 => by rw [← e1]; exact h3 i q1 q2, h4⟩)⟩
  · rw [e2] at h1
    have hlt : tw n b pf c < n := by
      rcases Int.lt_or_le (tw n b pf c) n with q | q
      · exact q
      · exact absurd (by rw [show tw n b pf c = n by omega]; exact tL_n hP hb hc (by omega)) h1
    have hk : tw n b pf c + k < n := by
      rcases Int.lt_or_le (tw n b pf c + k) n with q | q
      · exact q
      · exfalso
        rcases Int.lt_or_le n (tw n b pf c + k) with q2 | q2
        · refine h3 (n - tw n b pf c) (by omega) (by omega) ?_
          rw [e0, show tw n b pf c + (n - tw n b pf c) = n by omega]
          exact tL_n hP hb hc (by omega)
        · refine hend k (Or.inl (by omega)) ?_
          unfold sp
          rw [h2]
    rw [h2]
    rw [e0] at h4
    exact ⟨hw.1, hlt, by omega, hk, h4, Or.inr (Or.inr ⟨h1, fun i q1 q2 => by rw [← e1]; exact h5 i q1 q2, k, k1, hk, rfl, fun i q1 q2 => by rw [← e0]; exact h3 i q1 q2, h4⟩)⟩
/-- on the line the spot is the circle's, turned -/
theorem ln_sp (hP : Pf n pf) (hb : 0 ≤ b) {c : Int} (hc : 0 ≤ c) (hcn : c < n) : (tw n b pf c + mv (n + 1) b pf c - tn n b pf) % (n + 1) = sp (n + 1) b pf c := by
  unfold tw sp
  rw [show (pf c + tn n b pf) % (n + 1) + mv (n + 1) b pf c - tn n b pf = (pf c + tn n b pf) % (n + 1) + (mv (n + 1) b pf c - tn n b pf) by omega, emod_l]
  rw [show pf c + tn n b pf + (mv (n + 1) b pf c - tn n b pf) = pf c + mv (n + 1) b pf c by omega]
theorem tL_0 (s : Int) : tL n b pf 0 s = -1 := rfl
/-- the line's takers, a car further -/
theorem tL_s (hP : Pf n pf) (hb : 0 ≤ b) {c : Int} (hc : 0 ≤ c) (hcn : c < n) {s : Int} (hs : 0 ≤ s) (hsn : s ≤ n) : tL n b pf (c + 1) s = if s = tw n b pf c + mv (n + 1) b pf c then c else tL n b pf c s := by
  have hl := ln_cases hP hb hc hcn
  have e : ((s - tn n b pf) % (n + 1) = sp (n + 1) b pf c) ↔ (s = tw n b pf c + mv (n + 1) b pf c) := by
    rw [← ln_sp hP hb hc hcn]
    constructor
    · intro q
      have := emod_inj q (by omega) (by omega)
      omega
    · intro q; rw [q]
  unfold tL
  rw [tk_s _ _ _ hc]
  by_cases q : s = tw n b pf c + mv (n + 1) b pf c
  · rw [if_pos (e.mpr q), if_pos q]
  · rw [if_neg (fun z => q (e.mp z)), if_neg q]
/-- who has taken a spot, at the latest the car -/
def tkB (T : Int → Int) (c s : Int) : Bool := !decide (T s = -1) && decide (T s ≤ c)
/-- RUN -/
def rn (n b : Int) (pf : Int → Int) (c : Int) : Int := fnd (fun k => !tkB (tkO (n + 1) b pf n) c ((sp (n + 1) b pf c - k) % (n + 1))) (n + 1).toNat 0
theorem rn_in (hn : 0 ≤ n) (c : Int) : 0 ≤ rn n b pf c ∧ rn n b pf c ≤ n := by
  have g := fnd_ge (fun k => !tkB (tkO (n + 1) b pf n) c ((sp (n + 1) b pf c - k) % (n + 1))) (n + 1).toNat 0
  obtain ⟨s, s1, s2, s3⟩ := tk_free (b := b) (pf := pf) hn hn (Int.le_refl n)
  have hm := emod_in (sp (n + 1) b pf c - s) (N := n + 1) (by omega)
  refine ⟨g.1, ?_⟩
  rcases Int.lt_or_le ((sp (n + 1) b pf c - s) % (n + 1)) (rn n b pf c) with q | q
  · have := fnd_not (fun k => !tkB (tkO (n + 1) b pf n) c ((sp (n + 1) b pf c - k) % (n + 1))) (n + 1).toNat 0 _ hm.1 q
    simp only [emod_back (w := sp (n + 1) b pf c) s1 (show s < n + 1 by omega)] at this
    unfold tkB at this
    rw [s3] at this
    cases this
  · omega
theorem rn_at (hn : 0 ≤ n) {c : Int} : tkB (tkO (n + 1) b pf n) c ((sp (n + 1) b pf c - rn n b pf c) % (n + 1)) = false := by
  have h := rn_in (b := b) (pf := pf) hn c
  have := fnd_is (fun k => !tkB (tkO (n + 1) b pf n) c ((sp (n + 1) b pf c - k) % (n + 1))) (n + 1).toNat 0 (by unfold rn at h; omega)
  unfold rn
  simpa using this
theorem rn_before {c k : Int} (h1 : 0 ≤ k) (h2 : k < rn n b pf c) : tkB (tkO (n + 1) b pf n) c ((sp (n + 1) b pf c - k) % (n + 1)) = true := by
  have := fnd_not (fun k => !tkB (tkO (n + 1) b pf n) c ((sp (n + 1) b pf c - k) % (n + 1))) (n + 1).toNat 0 k h1 h2
  simpa using this
end
