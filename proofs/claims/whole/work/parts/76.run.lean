/-! bodies: the reference -/
/-- the heap behind what was done; rows 27 and 28 are kept below j -/
def PoM (h g : HD) (x : St3) (j : Int) : Prop := Fr sX9 h g ∧ SM g x.1 ∧ RwOk x.1.1 ∧ 0 ≤ x.2 ∧ x.2 ≤ 40 ∧ ∀ k : Nat, (k : Int) < j → gI g (7, 0, 27) k = gI h (7, 0, 27) k ∧ gI g (7, 0, 28) k = gI h (7, 0, 28) k
theorem PoM.tr {h g g2 : HD} {x y : St3} {j : Int} (a : PoM h g x j) (b : PoM g g2 y j) : PoM h g2 y j := ⟨a.1.tr b.1, b.2.1, b.2.2.1, b.2.2.2.1, b.2.2.2.2.1, fun k hk => ⟨(b.2.2.2.2.2 k hk).1.trans (a.2.2.2.2.2 k hk).1, (b.2.2.2.2.2 k hk).2.trans (a.2.2.2.2.2 k hk).2⟩⟩
theorem PoM.me {h g : HD} {x : St3} {j j2 : Int} (a : PoM h g x j) : PoM g g x j2 := ⟨Fr.rf, a.2.1, a.2.2.1, a.2.2.2.1, a.2.2.2.2.1, fun _ _ => ⟨rfl, rfl⟩⟩
theorem PoM.le {h g : HD} {x : St3} {j j2 : Int} (a : PoM h g x j) (hj : j2 ≤ j) : PoM h g x j2 := ⟨a.1, a.2.1, a.2.2.1, a.2.2.2.1, a.2.2.2.2.1, fun k hk => a.2.2.2.2.2 k (by omega)⟩
/-- from one place of the loop to another, or to its end -/
def RnM (h : HD) (x : St3) (j0 k0 j1 k1 N : Int) (q : Bool × St3) (jk : Int) : Prop := ∀ ans : Int32, ∃ (n : Nat) (g : HD), PoM h g q.2 jk ∧ ((q.1 = true ∧ q.2.2 < 40) → (n : Int) ≤ N ∧ ∃ ans2, ∀ f, jX9_doesAll_L12 (f + n) (iZ x.2) (iZ j0) (iZ k0) (iZ 1) ans h = jX9_doesAll_L12 f (iZ q.2.2) (iZ j1) (iZ k1) (iZ 1) ans2 g) ∧ (¬ (q.1 = true ∧ q.2.2 < 40) → (n : Int) ≤ N + 1 ∧ ∀ f, jX9_doesAll_L12 (f + n) (iZ x.2) (iZ j0) (iZ k0) (iZ 1) ans h = some (iZ q.2.2, g))
theorem RnM.seq {h : HD} {x : St3} {j0 k0 j1 k1 j2 k2 N1 N2 : Int} {q1 q2 : Bool × St3} {jk jk2 : Int} (a : RnM h x j0 k0 j1 k1 N1 q1 jk2) (hg : q1.1 = true ∧ q1.2.2 < 40) (hj : jk ≤ jk2) (b : ∀ g, PoM h g q1.2 jk2 → RnM g q1.2 j1 k1 j2 k2 N2 q2 jk) : RnM h x j0 k0 j2 k2 (N1 + N2) q2 jk := by
  intro ans
  obtain ⟨n1, g1, p1, a1, -⟩ := a ans
  obtain ⟨l1, ans2, e1⟩ := a1 hg
  obtain ⟨n2, g2, p2, b1, b2⟩ := b g1 p1 ans2
  refine ⟨n2 + n1, g2, (p1.le hj).tr p2, fun c => ?_, fun c => ?_⟩
  · obtain ⟨l2, ans3, e2⟩ := b1 c
    refine ⟨by omega, ans3, fun f => ?_⟩
    rw [show f + (n2 + n1) = f + n2 + n1 by omega, e1, e2]
  · obtain ⟨l2, e2⟩ := b2 c
    refine ⟨by omega, fun f => ?_⟩
    rw [show f + (n2 + n1) = f + n2 + n1 by omega, e1, e2]
theorem RnM.wk {h : HD} {x : St3} {j0 k0 j1 k1 N N2 : Int} {q : Bool × St3} {jk : Int} (a : RnM h x j0 k0 j1 k1 N q jk) (hN : N ≤ N2) : RnM h x j0 k0 j1 k1 N2 q jk := by
  intro ans
  obtain ⟨n, g, p, a1, a2⟩ := a ans
  exact ⟨n, g, p, fun c => ⟨by have := (a1 c).1; omega, (a1 c).2⟩, fun c => ⟨by have := (a2 c).1; omega, (a2 c).2⟩⟩
/-- it has come to its end -/
theorem RnM.out {h : HD} {x : St3} {j0 k0 j1 k1 j2 k2 N N2 : Int} {q q2 : Bool × St3} {jk jk2 : Int} (a : RnM h x j0 k0 j1 k1 N q jk) (hq : ¬ (q.1 = true ∧ q.2.2 < 40)) (hq2 : ¬ (q2.1 = true ∧ q2.2.2 < 40)) (e : q2.2 = q.2) (hN : N ≤ N2) (hj : jk2 ≤ jk) : RnM h x j0 k0 j2 k2 N2 q2 jk2 := by
  intro ans
  obtain ⟨n, g, p, -, a2⟩ := a ans
  obtain ⟨l, e1⟩ := a2 hq
  rw [e.symm] at p e1
  exact ⟨n, g, p.le hj, fun c => absurd c hq2, fun _ => ⟨by omega, e1⟩⟩
/-- one turn of the loop -/
theorem RnM.one {h g : HD} {x y : St3} {j0 k0 j1 k1 jk : Int} (hy : y.2 < 40) (p : PoM h g y jk) (st : ∀ ans, ∃ ans2, ∀ f, jX9_doesAll_L12 (f + 1) (iZ x.2) (iZ j0) (iZ k0) (iZ 1) ans h = jX9_doesAll_L12 f (iZ y.2) (iZ j1) (iZ k1) (iZ 1) ans2 g) : RnM h x j0 k0 j1 k1 1 (true, y) jk := by
  intro ans
  obtain ⟨ans2, e⟩ := st ans
  exact ⟨1, g, p, fun _ => ⟨by decide, ans2, e⟩, fun c => absurd ⟨rfl, hy⟩ c⟩
theorem RnM.cons {h g : HD} {x y : St3} {j0 k0 j1 k1 j2 k2 N jk : Int} {q : Bool × St3} (p : PoM h g y jk) (st : ∀ ans, ∃ ans2, ∀ f, jX9_doesAll_L12 (f + 1) (iZ x.2) (iZ j0) (iZ k0) (iZ 1) ans h = jX9_doesAll_L12 f (iZ y.2) (iZ j1) (iZ k1) (iZ 1) ans2 g) (b : RnM g y j1 k1 j2 k2 N q jk) : RnM h x j0 k0 j2 k2 (1 + N) q jk := by
  intro ans
  obtain ⟨ans2, e1⟩ := st ans
  obtain ⟨n2, g2, p2, b1, b2⟩ := b ans2
  refine ⟨n2 + 1, g2, p.tr p2, fun c => ?_, fun c => ?_⟩
  · obtain ⟨l2, ans3, e2⟩ := b1 c
    refine ⟨by omega, ans3, fun f => ?_⟩
    rw [show f + (n2 + 1) = f + n2 + 1 by omega, e1, e2]
  · obtain ⟨l2, e2⟩ := b2 c
    refine ⟨by omega, fun f => ?_⟩
    rw [show f + (n2 + 1) = f + n2 + 1 by omega, e1, e2]
section
variable {h : HD} {x : St3} {i sc jk : Int}
/-- forty commands were done -/
theorem m_forty (hs : gI h (7, 0, 0) 45 = iZ sc) (s0 : 0 ≤ sc) (s1 : sc ≤ 60) (hi : 0 ≤ i) (i1' : i ≤ 60) (h40 : x.2 = 40) {q : Bool × St3} (hq : q.2 = x) (hP : PoM h h x jk) {j0 j1 k1 N : Int} (hN : 0 ≤ N) : RnM h x j0 i j1 k1 N q jk := by
  intro ans
  rw [← hq] at hP
  refine ⟨1, h, hP, fun c => absurd c.2 (by rw [hq]; omega), fun _ => ⟨by omega, fun f => ?_⟩⟩
  rw [jX9_doesAll_L12, if_neg (show ¬ iZ 1 = 0 by decide), hs, hq, h40]
  by_cases c : sc ≤ i
  · rw [if_pos (le_y (by omega) (by omega) (by omega))]
  · rw [if_neg (le_n (by omega) (by omega) (by omega)), show (40 : Int32) = iZ 40 from rfl, if_pos (le_y (by decide) (by decide) (by decide))]
end
section
variable {ρ : Type}
/-- how many turns a body takes at most -/
def NtB (N : ρ → Int) : Bd ρ → Int
  | [] => 0
  | .inl _ :: r => 1 + NtB N r
  | .inr (_, b) :: r => 22 + 20 * N b + NtB N r
theorem NtB_nn {N : ρ → Int} (hN : ∀ b, 0 ≤ N b) (b : Bd ρ) : 0 ≤ NtB N b := by
  induction b with
  | nil => exact Int.le_refl 0
  | cons x r ih =>
    rcases x with c | ⟨n, q⟩
    · show 0 ≤ 1 + NtB N r; omega
    · have := hN q
      show 0 ≤ 22 + 20 * N q + NtB N r; omega
theorem exL_40 {ex : ρ → St3 → Bool × St3} (h40 : ∀ b x, x.2 = 40 → (ex b x).2 = x) (b : Bd ρ) (x : St3) (hx : x.2 = 40) : (exL ex b x).2 = x := by
  induction b with
  | nil => rfl
  | cons w r ih =>
    rcases w with c | ⟨n, q⟩
    · show (if 40 ≤ x.2 then (false, x) else _ : Bool × St3).2 = x
      rw [if_pos (by omega)]
    · have hr : ∀ k, (repN (ex q) k x).2 = x := fun k => by
        induction k with
        | zero => rfl
        | succ k ih2 =>
          show (if (ex q x).1 = true then repN (ex q) k (ex q x).2 else (false, (ex q x).2) : Bool × St3).2 = x
          rw [h40 q x hx]
          split
          · exact ih2
          · rfl
      show (if (repN (ex q) n.toNat x).1 = true then exL ex r (repN (ex q) n.toNat x).2 else (false, (repN (ex q) n.toNat x).2) : Bool × St3).2 = x
      rw [hr]
      split
      · exact ih
      · rfl
theorem repN_40 {σ : Type} {g : σ → Bool × σ} {x : σ} (h : (g x).2 = x) : ∀ k, (repN g k x).2 = x := by
  intro k
  induction k with
  | zero => rfl
  | succ k ih =>
    show (if (g x).1 = true then repN g k (g x).2 else (false, (g x).2) : Bool × σ).2 = x
    rw [h]
    split
    · exact ih
    · rfl
variable {ex : ρ → St3 → Bool × St3} {sz N : ρ → Int} {at' : HD → Int → ρ → Prop} {sc j : Int}
/-- the end of a lap: once more, or on -/
theorem m_lapse {g : HD} {y : St3} {sc j i e : Int} {m : Nat} (hsc : 0 ≤ sc ∧ sc ≤ 60) (hj : 0 ≤ j ∧ j < 2) (hi : 0 ≤ i) (he : i < e) (he2 : e < sc) (hm : (m : Int) ≤ 19) (hl : LapM g e) (h45 : gI g (7, 0, 0) 45 = iZ sc) (h27 : gI g (7, 0, 27) j.toNat = iZ i) (h28 : gI g (7, 0, 28) j.toNat = iZ (m + 1)) (hy : y.2 < 40) (y0 : 0 ≤ y.2) (f : Nat) (ans : Int32) : jX9_doesAll_L12 (f + 1) (iZ y.2) (iZ (j + 1)) (iZ e) (iZ 1) ans g = jX9_doesAll_L12 f (iZ y.2) (iZ (if m = 0 then j else j + 1)) (iZ (if m = 0 then e + 1 else i + 1)) (iZ 1) ans (sI g (7, 0, 28) j.toNat (iZ m)) := by
  have ek : (iZ e).toNatClampNeg = e.toNat := iZ_nat (by omega) (by omega)
  have ej : (iZ j).toNatClampNeg = j.toNat := iZ_nat (by omega) (by omega)
  have ib : inB (iZ e) 60 = true := inB_t (by omega) (by omega) (by omega)
  have jb : inB (iZ j) 2 = true := inB_t (by omega) (by omega) (by omega)
  have c25 : gI g (7, 0, 25) e.toNat = iZ 9 := hl
  rw [jX9_doesAll_L12, if_neg (show ¬ iZ 1 = 0 by decide), h45, if_neg (le_n (by omega) (by omega) (by omega)), show (40 : Int32) = iZ 40 from rfl, if_neg (le_n (by omega) (by omega) (by omega)), ib, if_pos rfl, ek, c25, if_neg (show ¬ iZ 9 = 8 by decide), if_pos rfl, if_pos (show iZ 9 = 9 from rfl), i1, iZ_sub, show j + 1 - 1 = j by omega, jb, if_pos rfl, if_pos rfl, ej, h28, iZ_sub, show (m : Int) + 1 - 1 = m by omega, lt_eq, if_pos rfl, gI_self, x9_truth, x9_truth]
  by_cases q : m = 0
  · rw [if_pos q, if_pos q, if_pos (show iZ (m : Int) ≤ 0 by rw [q]; decide), iZ_sub, iZ_add]
    show jX9_doesAll_L12 f (iZ y.2) (iZ (j + 1 - 1)) _ _ _ _ = _
    rw [show j + 1 - 1 = j by omega]
  · rw [if_neg q, if_neg q, if_neg (show ¬ iZ (m : Int) ≤ 0 from le_n (b := 0) (by omega) (by omega) (by omega)), if_pos rfl, gI_ne _ (by decide), h27, iZ_sub, iZ_add]
    show jX9_doesAll_L12 f (iZ y.2) (iZ (j + 1 - 0)) _ _ _ _ = _
    rw [show j + 1 - 0 = j + 1 by omega]
/-- the laps of a body -/
theorem m_laps (hsc : 0 ≤ sc ∧ sc ≤ 60) (hj : 0 ≤ j ∧ j < 2) (hsz : ∀ b, 0 ≤ sz b) (hN : ∀ b, 0 ≤ N b) (h40 : ∀ b x, x.2 = 40 → (ex b x).2 = x) (hm : ∀ h g, Fr sX9 h g → ∀ k x, at' h k x → at' g k x) (hrun : ∀ (b : ρ) (i : Int) (h : HD) (x : St3), at' h i b → 0 ≤ i → i + sz b ≤ sc → gI h (7, 0, 0) 45 = iZ sc → PoM h h x (j + 1) → RnM h x (j + 1) i (j + 1) (i + sz b) (N b) (ex b x) (j + 1)) (b : ρ) (i : Int) (hi : 0 ≤ i) (hi2 : i + 2 + sz b ≤ sc) : ∀ (m : Nat) (h : HD) (x : St3), (m : Int) ≤ 19 → at' h (i + 1) b → LapM h (i + 1 + sz b) → gI h (7, 0, 0) 45 = iZ sc → gI h (7, 0, 27) j.toNat = iZ i → gI h (7, 0, 28) j.toNat = iZ (m + 1) → x.2 < 40 → PoM h h x j → RnM h x (j + 1) (i + 1) j (i + 2 + sz b) ((m + 1) * (N b + 1)) (repN (ex b) (m + 1) x) j := by
  have hs := hsz b
  have hNb := hN b
  have mn1 : ∀ m : Nat, 0 ≤ (m : Int) * (N b + 1) := fun m => Int.mul_nonneg (by omega) (by omega)
  have ms : ∀ m : Nat, ((m : Int) + 1) * (N b + 1) = (m : Int) * (N b + 1) + (N b + 1) := fun m => by rw [Int.add_mul, Int.one_mul]
  intro m
  induction m with
  | zero =>
    intro h x hm1 hb hl h45 h27 h28 hx hP
    have a := hrun b (i + 1) h x hb (by omega) (by omega) h45 hP.me
    have hle : (ex b x).2.2 ≤ 40 := by
      obtain ⟨n, g, p, -, -⟩ := a 0
      exact p.2.2.2.2.1
    have e1 : repN (ex b) (0 + 1) x = if (ex b x).1 = true then (true, (ex b x).2) else (false, (ex b x).2) := rfl
    rw [e1, ms]
    have := mn1 0
    by_cases hg : (ex b x).1 = true ∧ (ex b x).2.2 < 40
    · rw [if_pos hg.1]
      refine RnM.wk (RnM.seq a hg (jk := j) (by omega) (N2 := 1) (q2 := (true, (ex b x).2)) (j2 := j) (k2 := i + 2 + sz b) (fun g p => ?_)) (by omega)
      have q := p.2.2.2.2.2 j.toNat (by omega)
      refine RnM.one (g := sI g (7, 0, 28) j.toNat (iZ ((0 : Nat) : Int))) hg.2 ⟨Fr.rf.sI rfl _, ?_, p.2.2.1, p.2.2.2.1, p.2.2.2.2.1, fun k hk => ⟨gI_ne _ (by decide) _ _ _, gI_nk _ _ _ (by omega) _⟩⟩ (fun ans => ⟨ans, fun f => ?_⟩)
      · exact p.2.1.fr (S := fun r _ => decide (r = (7, 0, 28))) (Fr.rf.sI rfl _) (fun _ => rfl) (fun _ => rfl) (fun _ => rfl) rfl
      · have := m_lapse (m := 0) (e := i + 1 + sz b) hsc hj hi (by omega) (by omega) (by decide) (hl.x9 p.1) ((p.1.1 _ _ rfl).trans h45) (q.1.trans h27) (q.2.trans h28) hg.2 p.2.2.2.1 f ans
        rw [if_pos rfl, if_pos rfl, show i + 1 + sz b + 1 = i + 2 + sz b by omega] at this
        exact this
    · by_cases q1 : (ex b x).1 = true
      · have h2 : ¬ (ex b x).2.2 < 40 := fun c => hg ⟨q1, c⟩
        rw [if_pos q1]
        exact RnM.out a hg (fun c => h2 c.2) rfl (by omega) (by omega)
      · rw [if_neg q1]
        exact RnM.out a hg (fun c => absurd c.1 Bool.false_ne_true) rfl (by omega) (by omega)
  | succ m ih =>
    intro h x hm1 hb hl h45 h27 h28 hx hP
    have a := hrun b (i + 1) h x hb (by omega) (by omega) h45 hP.me
    have hle : (ex b x).2.2 ≤ 40 := by
      obtain ⟨n, g, p, -, -⟩ := a 0
      exact p.2.2.2.2.1
    have e1 : repN (ex b) (m + 1 + 1) x = if (ex b x).1 = true then repN (ex b) (m + 1) (ex b x).2 else (false, (ex b x).2) := rfl
    rw [e1, ms]
    have := mn1 (m + 1)
    by_cases hg : (ex b x).1 = true ∧ (ex b x).2.2 < 40
    · rw [if_pos hg.1]
      refine RnM.wk (RnM.seq a hg (jk := j) (by omega) (N2 := 1 + ((m : Int) + 1) * (N b + 1)) (q2 := repN (ex b) (m + 1) (ex b x).2) (j2 := j) (k2 := i + 2 + sz b) (fun g p => ?_)) (by rw [show ((m + 1 : Nat) : Int) = (m : Int) + 1 by omega]; omega)
      have q := p.2.2.2.2.2 j.toNat (by omega)
      have pg : PoM g (sI g (7, 0, 28) j.toNat (iZ ((m + 1 : Nat) : Int))) (ex b x).2 j := ⟨Fr.rf.sI rfl _, p.2.1.fr (S := fun r _ => decide (r = (7, 0, 28))) (Fr.rf.sI rfl _) (fun _ => rfl) (fun _ => rfl) (fun _ => rfl) rfl, p.2.2.1, p.2.2.2.1, p.2.2.2.2.1, fun k hk => ⟨gI_ne _ (by decide) _ _ _, gI_nk _ _ _ (by omega) _⟩⟩
      refine RnM.cons (j1 := j + 1) (k1 := i + 1) pg (fun ans => ⟨ans, fun f => ?_⟩) ?_
      · have := m_lapse (m := m + 1) (e := i + 1 + sz b) hsc hj hi (by omega) (by omega) (by omega) (hl.x9 p.1) ((p.1.1 _ _ rfl).trans h45) (q.1.trans h27) (q.2.trans h28) hg.2 p.2.2.2.1 f ans
        rw [if_neg (by omega), if_neg (by omega)] at this
        exact this
      · have X2 : Fr sX9 h (sI g (7, 0, 28) j.toNat (iZ ((m + 1 : Nat) : Int))) := p.1.tr pg.1
        exact ih _ _ (by omega) (hm _ _ X2 _ _ hb) (hl.x9 X2) ((X2.1 _ _ rfl).trans h45) ((gI_ne _ (by decide) _ _ _).trans (q.1.trans h27)) (gI_self _ _ _ _) hg.2 pg.me
    · by_cases q1 : (ex b x).1 = true
      · have h2 : ¬ (ex b x).2.2 < 40 := fun c => hg ⟨q1, c⟩
        have e2 := repN_40 (h40 b (ex b x).2 (by omega)) (m + 1)
        rw [if_pos q1]
        exact RnM.out a hg (fun c => h2 (by rw [e2] at c; exact c.2)) e2 (by omega) (by omega)
      · rw [if_neg q1]
        exact RnM.out a hg (fun c => absurd c.1 Bool.false_ne_true) rfl (by omega) (by omega)
end
