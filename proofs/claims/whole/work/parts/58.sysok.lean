/-! a system that was read is a row -/
def RwP (n : Int) (R : Row) : Prop := ∀ c, 0 ≤ c → c < R.1 → 0 ≤ R.2.2.1 c ∧ R.2.2.1 c ≤ n
theorem numP_in {t : Tok} {a b v : Int} (h : numP t a b = .inr v) : a ≤ v ∧ v ≤ b := by
  unfold numP at h
  split at h
  · rename_i q
    cases h
    exact q.2
  · cases h
theorem carP_P {len : Int} {bs : Int → Int} {n : Int} {R R2 : Row} {t t2 : Tok} (hP : RwP n R) (h : carP len bs n R t = .inr (R2, t2)) : RwP n R2 := by
  unfold carP at h
  split at h
  · split at h
    · split at h
      · cases hn : numP (nx len bs (nx len bs t)) 0 n with
        | inl e => rw [hn] at h; cases h
        | inr v =>
          rw [hn] at h
          have hv := numP_in hn
          cases hm : mkP (nx len bs (nx len bs (nx len bs t))) 59 with
          | inl e => simp only [hm] at h; cases h
          | inr u =>
            simp only [hm] at h
            cases h
            intro c c0 c1
            replace c1 : c < R.1 + 1 := c1
            show 0 ≤ updP R.2.2.1 R.1 v c ∧ updP R.2.2.1 R.1 v c ≤ n
            unfold updP
            by_cases q : c = R.1
            · rw [if_pos q]; exact hv
            · rw [if_neg q]; exact hP c c0 (by omega)
      · cases h
    · cases h
  · cases h
theorem carsP_P {len : Int} {bs : Int → Int} {n : Int} : ∀ (d : Nat) (R R2 : Row) (t t2 : Tok), RwP n R → carsP len bs n d R t = .inr (R2, t2) → RwP n R2 ∧ R2.1 = R.1 + d ∧ R2.2.1 = R.2.1 := by
  intro d
  induction d with
  | zero =>
    intro R R2 t t2 hP h
    cases h
    exact ⟨hP, by omega, rfl⟩
  | succ d ih =>
    intro R R2 t t2 hP h
    unfold carsP at h
    cases hc : carP len bs n R t with
    | inl e => rw [hc] at h; cases h
    | inr rt =>
      obtain ⟨R1, t1⟩ := rt
      rw [hc] at h
      have h1 := carP_n hc
      obtain ⟨a, b, c⟩ := ih R1 R2 t1 t2 (carP_P hP hc) h
      exact ⟨a, by omega, c.trans h1.2⟩
theorem carsE_P {len : Int} {bs : Int → Int} {n b : Int} {R2 : Row} {t : Tok} (hn : 0 ≤ n ∧ n ≤ 11) (hb : 0 ≤ b ∧ b ≤ 5) (h : carsE len bs n (0, b, fun _ => 0, fun _ => []) t = .inr R2) : PrOk R2.1 R2.2.1 R2.2.2.1 := by
  unfold carsE at h
  cases hc : carsP len bs n n.toNat (0, b, fun _ => 0, fun _ => []) t with
  | inl e => rw [hc] at h; cases h
  | inr rt =>
    obtain ⟨R1, t1⟩ := rt
    rw [hc] at h
    obtain ⟨p1, p2, p3⟩ := carsP_P n.toNat _ R1 t t1 (fun c c0 c1 => absurd c1 (by show ¬ c < 0; omega)) hc
    have he : endP R1 t1 = .inr R2 := h
    have : R2 = R1 := by
      unfold endP at he
      split at he
      · cases he
      · split at he
        · cases he; rfl
        · cases he
    subst this
    replace p2 : R2.1 = 0 + (n.toNat : Int) := p2
    replace p3 : R2.2.1 = b := p3
    refine ⟨by omega, by omega, by omega, by omega, fun c c0 c1 => ?_⟩
    have := p1 c c0 c1
    omega
theorem sysP_ok {len : Int} {bs : Int → Int} {R : Row} (h : sysP len bs = .inr R) : PrOk R.1 R.2.1 R.2.2.1 := by
  unfold sysP at h
  split at h
  · cases hn : numP (nx len bs (tok len bs 0)) 0 11 with
    | inl e => rw [hn] at h; cases h
    | inr n =>
      rw [hn] at h
      have hv := numP_in hn
      cases hm : mkP (nx len bs (nx len bs (tok len bs 0))) 59 with
      | inl e => simp only [hm] at h; cases h
      | inr u =>
        simp only [hm] at h
        unfold backE at h
        split at h
        · cases hb : bk1 len bs (nx len bs (nx len bs (nx len bs (tok len bs 0)))) with
          | inl e => rw [hb] at h; cases h
          | inr rt =>
            obtain ⟨b, t2⟩ := rt
            rw [hb] at h
            have hbb : 0 ≤ b ∧ b ≤ 5 := by
              unfold bk1 at hb
              cases hn2 : numP (nx len bs (nx len bs (nx len bs (nx len bs (tok len bs 0))))) 0 5 with
              | inl e => rw [hn2] at hb; cases hb
              | inr v =>
                rw [hn2] at hb
                have := numP_in hn2
                cases hm2 : mkP (nx len bs (nx len bs (nx len bs (nx len bs (nx len bs (tok len bs 0)))))) 59 with
                | inl e => simp only [hm2] at hb; cases hb
                | inr u => simp only [hm2] at hb; cases hb; exact this
            exact carsE_P hv hbb h
        · exact carsE_P hv ⟨by decide, by decide⟩ h
  · cases h
