/-! RUNS, ROWS OF SPOTS, THE LINE: the class's way and the reference's -/
def rwN (N : Int) (T : Int → Int) (s : Int) : Int := fnd (fun k => decide (T ((s + k) % N) = -1)) N.toNat 0
def lgN (N : Int) (T : Int → Int) (z : Int) : Int := itr (fun s m => if m < rwN N T s then rwN N T s else m) 0 z
theorem rwN_in {N : Int} (hN : 0 ≤ N) (T : Int → Int) (s : Int) : 0 ≤ rwN N T s ∧ rwN N T s ≤ N := by
  have := fnd_ge (fun k => decide (T ((s + k) % N) = -1)) N.toNat 0
  unfold rwN; omega
theorem lgN_in {N : Int} (hN : 0 ≤ N) (T : Int → Int) {z : Int} (hz : 0 ≤ z) : 0 ≤ lgN N T z ∧ lgN N T z ≤ N := by
  refine ind_Z (P := fun z => 0 ≤ lgN N T z ∧ lgN N T z ≤ N) (by unfold lgN; rw [itr_0]; omega) (fun y h1 _ ih => ?_) hz
  have := rwN_in hN T y
  unfold lgN at ih ⊢
  rw [itr_s _ _ h1]
  split <;> omega
theorem b1_in (x : Bool) : 0 ≤ b1 x ∧ b1 x ≤ 1 := by cases x <;> decide
section
variable {h : HD} {n b : Int} {pf : Int → Int}
theorem x4_taken {o : Nat} {N : Int} {T : Int → Int} (h4 : gI h (2, o, 0) 4 = iZ N) (hN : N ≤ 12) (hT : IsA h (2, o, 4) N T) (hB : TB T) {s c : Int} (h1 : 0 ≤ s) (h2 : s < N) (hc : -1000 ≤ c ∧ c ≤ 1000) : jX4_isTakenBy o (iZ s) (iZ c) h = some (tkB T c s) := by
  have hb := hB s
  unfold jX4_isTakenBy tkB
  rw [x4_takerOf h4 hN (by omega) hT h1 h2, Option.bind_some, im1]
  by_cases q : T s = -1
  · rw [if_pos (by rw [q]), decide_eq_true q]; rfl
  · rw [if_neg (eq_n (by omega) (by omega) (by omega) (by omega) (by omega)), decide_eq_false q]
    by_cases q2 : T s ≤ c
    · rw [if_neg (lt_n (by omega) (by omega) (by omega)), decide_eq_true q2]; rfl
    · rw [if_pos (lt_y (by omega) (by omega) (by omega)), decide_eq_false q2]; rfl
theorem x4_run (hK : Pk h 0 n b pf n) (hok : PrOk n b pf) {z : Int} (h1 : 0 ≤ z) (h2 : z < n) : jX4_runOf 0 (iZ z) h = some (iZ (rn n b pf z)) := by
  have hn := hok.2.1
  have hn0 := hok.1
  have hr := rn_in (b := b) (pf := pf) hn0 z
  have hs := sp_in (b := b) (pf := pf) hn0 z
  have hB := tk_B (b := b) (pf := pf) hn0 hn0 (show n ≤ 12 by omega)
  unfold jX4_runOf
  rw [x4_spotOf hK.1 ⟨hn0, hn⟩ h1 h2, Option.bind_some]
  have tk : ∀ k, jX4_isTakenBy 0 (iZ ((sp (n + 1) b pf z - k) % (n + 1))) (iZ z) h = some (tkB (tkO (n + 1) b pf n) z ((sp (n + 1) b pf z - k) % (n + 1))) := fun k => by
    have e := emod_in (sp (n + 1) b pf z - k) (N := n + 1) (by omega)
    exact x4_taken hK.1.1 (by omega) hK.1.2.2.2.2.2.2.2 hB e.1 e.2 ⟨by omega, by omega⟩
  refine loopN (fun f (x : Int32) => jX4_runOf_L8 0 (iZ z) (iZ (sp (n + 1) b pf z)) h f x) iZ (a := 0) (b := rn n b pf z) hr.1 (fun f k q1 q2 => ?_) (fun f => ?_) FU (FU_gt (by omega))
  · show jX4_runOf_L8 0 (iZ z) _ h (f + 1) (iZ k) = _
    rw [jX4_runOf_L8, hK.1.1, if_neg (le_n (by omega) (by omega) (by omega)), iZ_sub, w_wrapped h (by omega) (by omega) (by omega) (by omega), Option.bind_some, tk, rn_before q1 q2, Option.bind_some, if_pos rfl, i1, iZ_add]
  · show jX4_runOf_L8 0 (iZ z) _ h (f + 1) (iZ (rn n b pf z)) = _
    rw [jX4_runOf_L8, hK.1.1, if_neg (le_n (by omega) (by omega) (by omega)), iZ_sub, w_wrapped h (by omega) (by omega) (by omega) (by omega), Option.bind_some, tk, rn_at hn0, Option.bind_some, if_neg (by decide)]
theorem x9_taken {N : Int} {T : Int → Int} (hN : N ≤ 12) (hT : IsA h (7, 0, 13) N T) (hB : TB T) {s c : Int} (h1 : 0 ≤ s) (h2 : s < N) (hc : -1000 ≤ c ∧ c ≤ 1000) : jX9_isTakenBy (iZ s) (iZ c) h = some (tkB T c s) := by
  have hb := hB s
  unfold jX9_isTakenBy tkB
  rw [inB_t (by omega) (by omega) (by omega), if_pos rfl, iZ_nat (by omega) (by omega), hT s h1 h2, iZ_j (by omega) (by omega), iZ_j (by omega) (by omega), show (0 : Int64) = jZ 0 from rfl, jZ_is (by omega) (by omega) (by omega) (by omega) (by omega) (by omega)]
  by_cases q : T s = -1
  · rw [decide_eq_true q, decide_eq_false (by omega)]; rfl
  · rw [decide_eq_false q]
    by_cases q2 : T s ≤ c
    · rw [decide_eq_true q2, decide_eq_true (by omega)]; rfl
    · rw [decide_eq_false q2, decide_eq_false (by omega)]; rfl
theorem x9_run (hR : PrM h n b pf) (hK : PkM h n b pf n) (hok : PrOk n b pf) {z : Int} (h1 : 0 ≤ z) (h2 : z < n) : jX9_runOf (iZ z) h = some (iZ (rn n b pf z)) := by
  have hn := hok.2.1
  have hn0 := hok.1
  have hr := rn_in (b := b) (pf := pf) hn0 z
  have hs := sp_in (b := b) (pf := pf) hn0 z
  have hB := tk_B (b := b) (pf := pf) hn0 hn0 (show n ≤ 12 by omega)
  have tk : ∀ k, jX9_isTakenBy (iZ ((sp (n + 1) b pf z - k) % (n + 1))) (iZ z) h = some (tkB (tkO (n + 1) b pf n) z ((sp (n + 1) b pf z - k) % (n + 1))) := fun k => by
    have e := emod_in (sp (n + 1) b pf z - k) (N := n + 1) (by omega)
    exact x9_taken (by omega) hK.1 hB e.1 e.2 ⟨by omega, by omega⟩
  refine loopN (fun f (x : Int32) => jX9_runOf_L2 (iZ z) h f x) iZ (a := 0) (b := rn n b pf z) hr.1 (fun f k q1 q2 => ?_) (fun f => ?_) FU (FU_gt (by omega))
  · show jX9_runOf_L2 (iZ z) h (f + 1) (iZ k) = _
    rw [jX9_runOf_L2, hR.1, if_neg (le_n (by omega) (by omega) (by omega)), inB_t (by omega) (by omega) (by omega), if_pos rfl, iZ_nat (by omega) (by omega), hK.2.1 z h1 h2, iZ_sub, x9_round hR ⟨hn0, hn⟩ (by omega) (by omega), Option.bind_some, tk, rn_before q1 q2, Option.bind_some, if_pos rfl, i1, iZ_add]
  · show jX9_runOf_L2 (iZ z) h (f + 1) (iZ (rn n b pf z)) = _
    rw [jX9_runOf_L2, hR.1]
    by_cases q : n ≤ rn n b pf z
    · rw [if_pos (le_y (by omega) (by omega) (by omega))]
    · rw [if_neg (le_n (by omega) (by omega) (by omega)), inB_t (by omega) (by omega) (by omega), if_pos rfl, iZ_nat (by omega) (by omega), hK.2.1 z h1 h2, iZ_sub, x9_round hR ⟨hn0, hn⟩ (by omega) (by omega), Option.bind_some, tk, rn_at hn0, Option.bind_some, if_neg (by decide)]
theorem x4_longest {c : Int} (hK : Pk h 0 n b pf c) (hok : PrOk n b pf) (hc : 0 ≤ c) (hcn : c ≤ n) : jX4_longestRow 0 h = some (iZ (lgN (n + 1) (tkO (n + 1) b pf c) (n + 1))) := by
  have hn := hok.2.1
  have hn0 := hok.1
  have hB := tk_B (b := b) (pf := pf) hn0 hc (show c ≤ 12 by omega)
  refine loopN (fun f (x : Int32 × Int32) => jX4_longestRow_L4 0 h f x.1 x.2) (fun z => (iZ (lgN (n + 1) (tkO (n + 1) b pf c) z), iZ z)) (a := 0) (b := n + 1) (by omega) (fun f z h1 h2 => ?_) (fun f => ?_) FU (FU_gt (by omega))
  · show jX4_longestRow_L4 0 h (f + 1) _ (iZ z) = jX4_longestRow_L4 0 h f _ _
    have hr := rwN_in (show 0 ≤ n + 1 by omega) (tkO (n + 1) b pf c) z
    have hl := lgN_in (show 0 ≤ n + 1 by omega) (tkO (n + 1) b pf c) h1
    have step : ∀ k, jX8_wrapped (iZ z + iZ k) (iZ (n + 1)) h = some (iZ ((z + k) % (n + 1))) ∨ ¬ (0 ≤ k ∧ k ≤ n) := fun k => by
      by_cases q : 0 ≤ k ∧ k ≤ n
      · left; rw [iZ_add, w_wrapped h (by omega) (by omega) (by omega) (by omega)]
      · right; exact q
    rw [jX4_longestRow_L4, hK.1.1, if_neg (le_n (by omega) (by omega) (by omega))]
    have key : ∀ K : Int32 → Option Int32, jX4_longestRow_L14 0 (iZ (lgN (n + 1) (tkO (n + 1) b pf c) z)) (iZ z) h K FU 0 = K (iZ (rwN (n + 1) (tkO (n + 1) b pf c) z)) := by
      intro K
      refine loopN (fun f (x : Int32) => jX4_longestRow_L14 0 (iZ (lgN (n + 1) (tkO (n + 1) b pf c) z)) (iZ z) h K f x) iZ (a := 0) (b := rwN (n + 1) (tkO (n + 1) b pf c) z) hr.1 (fun f k q1 q2 => ?_) (fun f => ?_) FU (FU_gt (by omega))
      · have e := emod_in (z + k) (N := n + 1) (by omega)
        have hne := of_decide_eq_false (fnd_not (fun k => decide (tkO (n + 1) b pf c ((z + k) % (n + 1)) = -1)) (n + 1).toNat 0 k q1 q2)
        have hb := hB ((z + k) % (n + 1))
        show jX4_longestRow_L14 0 _ (iZ z) h K (f + 1) (iZ k) = _
        rw [jX4_longestRow_L14, hK.1.1, if_neg (le_n (by omega) (by omega) (by omega)), iZ_add, w_wrapped h (by omega) (by omega) (by omega) (by omega), Option.bind_some, x4_takerOf hK.1.1 (by omega) (by omega) hK.1.2.2.2.2.2.2.2 e.1 e.2, Option.bind_some, im1, if_neg (eq_n (by omega) (by omega) (by omega) (by omega) (by omega)), i1, iZ_add]
      · have e := emod_in (z + rwN (n + 1) (tkO (n + 1) b pf c) z) (N := n + 1) (by omega)
        show jX4_longestRow_L14 0 _ (iZ z) h K (f + 1) (iZ (rwN (n + 1) (tkO (n + 1) b pf c) z)) = _
        rw [jX4_longestRow_L14, hK.1.1]
        by_cases q : n + 1 ≤ rwN (n + 1) (tkO (n + 1) b pf c) z
        · rw [if_pos (le_y (by omega) (by omega) (by omega))]
        · have his := of_decide_eq_true (fnd_is (fun k => decide (tkO (n + 1) b pf c ((z + k) % (n + 1)) = -1)) (n + 1).toNat 0 (show rwN (n + 1) (tkO (n + 1) b pf c) z < 0 + ((n + 1).toNat : Int) by omega))
          replace his : tkO (n + 1) b pf c ((z + rwN (n + 1) (tkO (n + 1) b pf c) z) % (n + 1)) = -1 := his
          rw [if_neg (le_n (by omega) (by omega) (by omega)), iZ_add, w_wrapped h (by omega) (by omega) (by omega) (by omega), Option.bind_some, x4_takerOf hK.1.1 (by omega) (by omega) hK.1.2.2.2.2.2.2.2 e.1 e.2, Option.bind_some, im1, if_pos (by rw [his])]
    rw [key]
    have e2 : lgN (n + 1) (tkO (n + 1) b pf c) (z + 1) = if lgN (n + 1) (tkO (n + 1) b pf c) z < rwN (n + 1) (tkO (n + 1) b pf c) z then rwN (n + 1) (tkO (n + 1) b pf c) z else lgN (n + 1) (tkO (n + 1) b pf c) z := itr_s _ _ h1
    rw [e2, i1, iZ_add]
    by_cases q : lgN (n + 1) (tkO (n + 1) b pf c) z < rwN (n + 1) (tkO (n + 1) b pf c) z
    · rw [if_pos q, if_pos (lt_y (by omega) (by omega) (by omega))]
    · rw [if_neg q, if_neg (lt_n (by omega) (by omega) (by omega))]
  · show jX4_longestRow_L4 0 h (f + 1) _ (iZ (n + 1)) = _
    rw [jX4_longestRow_L4, hK.1.1, if_pos (le_y (by omega) (by omega) (by omega))]
theorem x9_row {c : Int} (hR : PrM h n b pf) (hK : PkM h n b pf c) (hok : PrOk n b pf) (hc : 0 ≤ c) (hcn : c ≤ n) {z : Int} (h1 : 0 ≤ z) (h2 : z < n + 1) : jX9_rowFrom (iZ z) h = some (iZ (rwN (n + 1) (tkO (n + 1) b pf c) z)) := by
  have hn := hok.2.1
  have hn0 := hok.1
  have hB := tk_B (b := b) (pf := pf) hn0 hc (show c ≤ 12 by omega)
  have hr := rwN_in (show 0 ≤ n + 1 by omega) (tkO (n + 1) b pf c) z
  refine loopN (fun f (x : Int32) => jX9_rowFrom_L2 (iZ z) h f x) iZ (a := 0) (b := rwN (n + 1) (tkO (n + 1) b pf c) z) hr.1 (fun f k q1 q2 => ?_) (fun f => ?_) FU (FU_gt (by omega))
  · have e := emod_in (z + k) (N := n + 1) (by omega)
    have hne := of_decide_eq_false (fnd_not (fun k => decide (tkO (n + 1) b pf c ((z + k) % (n + 1)) = -1)) (n + 1).toNat 0 k q1 q2)
    have hb := hB ((z + k) % (n + 1))
    show jX9_rowFrom_L2 (iZ z) h (f + 1) (iZ k) = _
    rw [jX9_rowFrom_L2, x9_spots hR, Option.bind_some, if_neg (le_n (by omega) (by omega) (by omega)), iZ_add, x9_round hR ⟨hn0, hn⟩ (by omega) (by omega), Option.bind_some, inB_t (by omega) (by omega) (by omega), if_pos rfl, iZ_nat (by omega) (by omega), hK.1 _ e.1 e.2, im1, if_neg (eq_n (by omega) (by omega) (by omega) (by omega) (by omega)), i1, iZ_add]
  · have e := emod_in (z + rwN (n + 1) (tkO (n + 1) b pf c) z) (N := n + 1) (by omega)
    show jX9_rowFrom_L2 (iZ z) h (f + 1) (iZ (rwN (n + 1) (tkO (n + 1) b pf c) z)) = _
    rw [jX9_rowFrom_L2, x9_spots hR, Option.bind_some]
    by_cases q : n + 1 ≤ rwN (n + 1) (tkO (n + 1) b pf c) z
    · rw [if_pos (le_y (by omega) (by omega) (by omega))]
    · have his := of_decide_eq_true (fnd_is (fun k => decide (tkO (n + 1) b pf c ((z + k) % (n + 1)) = -1)) (n + 1).toNat 0 (show rwN (n + 1) (tkO (n + 1) b pf c) z < 0 + ((n + 1).toNat : Int) by omega))
      replace his : tkO (n + 1) b pf c ((z + rwN (n + 1) (tkO (n + 1) b pf c) z) % (n + 1)) = -1 := his
      rw [if_neg (le_n (by omega) (by omega) (by omega)), iZ_add, x9_round hR ⟨hn0, hn⟩ (by omega) (by omega), Option.bind_some, inB_t (by omega) (by omega) (by omega), if_pos rfl, iZ_nat (by omega) (by omega), hK.1 _ e.1 e.2, im1, if_pos (by rw [his])]
theorem x9_longest {c : Int} (p : Int32) (hR : PrM h n b pf) (hK : PkM h n b pf c) (hok : PrOk n b pf) (hc : 0 ≤ c) (hcn : c ≤ n) : jX9_longestAfter_L23 p h FU 0 0 = some (iZ (lgN (n + 1) (tkO (n + 1) b pf c) (n + 1)), h) := by
  have hn := hok.2.1
  have hn0 := hok.1
  refine loopN (fun f (x : Int32 × Int32) => jX9_longestAfter_L23 p h f x.1 x.2) (fun z => (iZ (lgN (n + 1) (tkO (n + 1) b pf c) z), iZ z)) (a := 0) (b := n + 1) (by omega) (fun f z h1 h2 => ?_) (fun f => ?_) FU (FU_gt (by omega))
  · show jX9_longestAfter_L23 p h (f + 1) _ (iZ z) = jX9_longestAfter_L23 p h f _ _
    have hr := rwN_in (show 0 ≤ n + 1 by omega) (tkO (n + 1) b pf c) z
    have hl := lgN_in (show 0 ≤ n + 1 by omega) (tkO (n + 1) b pf c) h1
    have e2 : lgN (n + 1) (tkO (n + 1) b pf c) (z + 1) = if lgN (n + 1) (tkO (n + 1) b pf c) z < rwN (n + 1) (tkO (n + 1) b pf c) z then rwN (n + 1) (tkO (n + 1) b pf c) z else lgN (n + 1) (tkO (n + 1) b pf c) z := itr_s _ _ h1
    rw [jX9_longestAfter_L23, x9_spots hR, Option.bind_some, if_neg (le_n (by omega) (by omega) (by omega)), x9_row hR hK hok hc hcn h1 h2, Option.bind_some, e2, i1, iZ_add]
    by_cases q : lgN (n + 1) (tkO (n + 1) b pf c) z < rwN (n + 1) (tkO (n + 1) b pf c) z
    · rw [if_pos q, if_neg (le_n (by omega) (by omega) (by omega))]
    · rw [if_neg q, if_pos (le_y (by omega) (by omega) (by omega))]
  · show jX9_longestAfter_L23 p h (f + 1) _ (iZ (n + 1)) = _
    rw [jX9_longestAfter_L23, x9_spots hR, Option.bind_some, if_pos (le_y (by omega) (by omega) (by omega))]
theorem tL_B (hn : 0 ≤ n) {c : Int} (hc : 0 ≤ c) (hc2 : c ≤ 12) : TB (tL n b pf c) := fun _ => tk_B hn hc hc2 _
/-- the class's line -/
theorem x4_line (hK : Pk h 0 n b pf n) (hok : PrOk n b pf) : ∃ h2, jX4_comeInLine 1 0 h = some h2 ∧ Fr (sPk 1) h h2 ∧ PkC h2 1 n b 0 (tw n b pf) (tL n b pf n) (mv (n + 1) b pf) (fun c => tw n b pf c + mv (n + 1) b pf c) n := by
  have hn := hok.2.1
  have hn0 := hok.1
  have hb := hok.2.2.1
  have hb5 := hok.2.2.2.1
  have hP := hok.2.2.2.2
  have s0 : ∀ j k, sPk 1 (2, 0, j) k = false := fun j k => decide_eq_false (fun e => by have := e.2; simp at this)
  have keepK : ∀ h2, Fr (sPk 1) h h2 → Pk h2 0 n b pf n := fun h2 hF => ⟨⟨(hF.1 _ _ (s0 _ _)).trans hK.1.1, (hF.1 _ _ (s0 _ _)).trans hK.1.2.1, (hF.1 _ _ (s0 _ _)).trans hK.1.2.2.1, (hF.1 _ _ (s0 _ _)).trans hK.1.2.2.2.1, hK.1.2.2.2.2.1.fr hF (s0 _), hK.1.2.2.2.2.2.1.fr hF (s0 _), hK.1.2.2.2.2.2.2.1.fr hF (s0 _), hK.1.2.2.2.2.2.2.2.fr hF (s0 _)⟩, (hF.1 _ _ (s0 _ _)).trans hK.2⟩
  unfold jX4_comeInLine
  rw [hK.1.2.2.2.1, hK.1.2.1]
  obtain ⟨h2, e2, f2, p2⟩ := x4_open h 1 (N := n) (b := b) false (tw n b pf) (mv (n + 1) b pf) (fun c => tw n b pf c + mv (n + 1) b pf c) (by omega) hn0
  rw [e2, Option.bind_some]
  refine loopI (fun f (x : Int32 × HD) => jX4_comeInLine_L15 1 0 (fun h4 => (jX4_findFree 1 h4).bind fun q5 => some q5) f x.1 x.2) (fun z x => x.1 = iZ z ∧ Fr (sPk 1) h x.2 ∧ PkC x.2 1 n b 0 (tw n b pf) (tL n b pf z) (mv (n + 1) b pf) (fun c => tw n b pf c + mv (n + 1) b pf c) z) (a := 0) (b := n) (fun y => ∃ h2, y = some h2 ∧ Fr (sPk 1) h h2 ∧ PkC h2 1 n b 0 (tw n b pf) (tL n b pf n) (mv (n + 1) b pf) (fun c => tw n b pf c + mv (n + 1) b pf c) n) hn0 ?_ ?_ FU (iZ 0, h2) (FU_gt (by omega)) ⟨rfl, f2, p2⟩
  · intro f z x z0 z1 hI
    obtain ⟨x1, h4⟩ := x
    obtain ⟨e, hF, hL⟩ := hI
    replace e : x1 = iZ z := e
    replace hF : Fr (sPk 1) h h4 := hF
    replace hL : PkC h4 1 n b 0 (tw n b pf) (tL n b pf z) (mv (n + 1) b pf) (fun c => tw n b pf c + mv (n + 1) b pf c) z := hL
    subst e
    have hK4 := keepK h4 hF
    obtain ⟨w0, w1, s0', s1', hfree, hcs⟩ := ln_cases hP hb z0 z1
    have hmove := x4_moveL (o := 1) (w := tw n b pf z) (m := mv (n + 1) b pf z) hL.1 hL.2.1 hL.2.2.1 hn ⟨hb, hb5⟩ hL.2.2.2.2.2.2.2 (tL_B hn0 z0 (by omega)) ⟨w0, w1⟩ (hcs.imp id (Or.imp id (fun q => ⟨q.1, fun i q1 q2 _ => q.2.1 i q1 q2, q.2.2⟩)))
    obtain ⟨h5, e5, f5, p5⟩ := x4_bring hL (by omega) hn0 z0 (by omega) (tL_B hn0 z0 (by omega)) rfl rfl rfl s0' s1' hfree hmove (by rw [iZ_add]; exact x4_spotL hL.2.2.1)
    refine ⟨(iZ (z + 1), h5), ?_, rfl, hF.tr f5, ?_⟩
    · show jX4_comeInLine_L15 1 0 _ (f + 1) (iZ z) h4 = _
      rw [jX4_comeInLine_L15, hK4.1.2.2.2.1, if_neg (le_n (by omega) (by omega) (by omega)), x4_turned hK4 hok z0 z1, Option.bind_some, e5, Option.bind_some, i1, iZ_add]
    · obtain ⟨a1, a2, a3, a4, a5, a6, a7, a8⟩ := p5
      exact ⟨a1, a2, a3, a4, a5, a6, a7, a8.eq (fun s q1 q2 => (tL_s hP hb z0 z1 q1 (by omega)).symm)⟩
  · intro f x hI
    obtain ⟨x1, h4⟩ := x
    obtain ⟨e, hF, hL⟩ := hI
    replace e : x1 = iZ n := e
    replace hF : Fr (sPk 1) h h4 := hF
    subst e
    obtain ⟨h5, e5, f5, p5, -⟩ := x4_findFree hL (by omega) hn0 (tL_B hn0 hn0 (by omega))
    refine ⟨h5, ?_, hF.tr f5, p5⟩
    show jX4_comeInLine_L15 1 0 _ (f + 1) (iZ n) h4 = _
    rw [jX4_comeInLine_L15, (keepK h4 hF).1.2.2.2.1, if_pos (le_y (by omega) (by omega) (by omega)), e5]
    rfl
theorem x8_spotInLine (hR : PrC h 0 n b pf) (hK : Pk h 0 n b pf n) (hok : PrOk n b pf) (hL : PkC h 1 n b 0 (tw n b pf) (tL n b pf n) (mv (n + 1) b pf) (fun c => tw n b pf c + mv (n + 1) b pf c) n) {z : Int} (h1 : 0 ≤ z) (h2 : z < n) : jX8_spotInLine (iZ z) h = some (iZ (sp (n + 1) b pf z)) := by
  have hn := hok.2.1
  have hn0 := hok.1
  have ht := tn_in (b := b) (pf := pf) hn0
  obtain ⟨w0, w1, s0, s1, hfree, hcs⟩ := ln_cases hok.2.2.2.2 hok.2.2.1 h1 h2
  unfold jX8_spotInLine jX2_spots
  rw [x4_spotOf hL ⟨hn0, hn⟩ h1 h2, Option.bind_some, im1]
  show (if iZ (tw n b pf z + mv (n + 1) b pf z) = iZ (-1) then _ else _) = _
  rw [if_neg (eq_n (by omega) (by omega) (by omega) (by omega) (by omega)), x4_turn hK, hR.1, i1, iZ_sub, iZ_add, w_wrapped h (by omega) (by omega) (by omega) (by omega), Option.bind_some, ln_sp hok.2.2.2.2 hok.2.2.1 h1 h2]
/-- the reference's line -/
def sPl : Rf → Nat → Bool := fun r _ => decide (r = (7, 0, 13) ∨ r = (7, 0, 14) ∨ r = (7, 0, 15) ∨ r = (7, 0, 16) ∨ r = (7, 0, 17))
theorem x9_lineFor (hR : PrM h n b pf) (hok : PrOk n b pf) {z : Int} (h1 : 0 ≤ z) (h2 : z < n) (hT : IsA h (7, 0, 16) (n + 1) (tL n b pf z)) : jX9_lineFor (iZ (tw n b pf z)) h = some (iZ (tw n b pf z + mv (n + 1) b pf z)) := by
  have hn := hok.2.1
  have hn0 := hok.1
  have hb5 := hok.2.2.2.1
  have hB := tL_B (b := b) (pf := pf) hn0 h1 (show z ≤ 12 by omega)
  obtain ⟨w0, w1, s0, s1, hfree, hcs⟩ := ln_cases hok.2.2.2.2 hok.2.2.1 h1 h2
  generalize hw : tw n b pf z = w at *
  generalize hm : mv (n + 1) b pf z = m at *
  have hbw := hB w
  have back : ∀ (K : Option Int32) (f : Nat) (i : Int), 1 ≤ i → i ≤ b → i ≤ w → tL n b pf z (w - i) ≠ -1 → jX9_lineFor_L14 (iZ w) h K (f + 1) (iZ i) = jX9_lineFor_L14 (iZ w) h K f (iZ (i + 1)) := by
    intro K f i q1 q2 q3 q4
    have hb2 := hB (w - i)
    rw [jX9_lineFor_L14, hR.2.1, if_neg (lt_n (by omega) (by omega) (by omega)), if_neg (lt_n (by omega) (by omega) (by omega)), iZ_sub, inB_t (by omega) (by omega) (by omega), if_pos rfl, iZ_nat (by omega) (by omega), hT _ (by omega) (by omega), im1, if_neg (eq_n (by omega) (by omega) (by omega) (by omega) (by omega)), i1, iZ_add]
  unfold jX9_lineFor
  rw [inB_t (by omega) (by omega) (by omega), if_pos rfl, iZ_nat (by omega) (by omega), hT w w0 (by omega), im1]
  rcases hcs with ⟨g1, g2⟩ | ⟨g1, k, k1, k2, k3, g2, g3, g4⟩ | ⟨g1, g5, k, k1, k2, g2, g3, g4⟩
  · rw [if_pos (by rw [g1]), g2, Int.add_zero]
  · rw [if_neg (eq_n (by omega) (by omega) (by omega) (by omega) (by omega)), g2]
    refine loopN (fun f (x : Int32) => jX9_lineFor_L14 (iZ w) h (jX9_lineFor_L53 (iZ w) h FU (iZ w)) f x) iZ (a := 1) (b := k) k1 (fun f i q1 q2 => back _ f i q1 (by omega) (by omega) (g3 i q1 q2)) (fun f => ?_) FU (FU_gt (by omega))
    show jX9_lineFor_L14 (iZ w) h _ (f + 1) (iZ k) = _
    rw [jX9_lineFor_L14, hR.2.1, if_neg (lt_n (by omega) (by omega) (by omega)), if_neg (lt_n (by omega) (by omega) (by omega)), iZ_sub, inB_t (by omega) (by omega) (by omega), if_pos rfl, iZ_nat (by omega) (by omega), hT _ (by omega) (by omega), im1, if_pos (by rw [g4]), Int.sub_eq_add_neg]
  · rw [if_neg (eq_n (by omega) (by omega) (by omega) (by omega) (by omega)), g2]
    have hon : jX9_lineFor_L53 (iZ w) h FU (iZ w) = some (iZ (w + k)) := by
      refine loopN (fun f (x : Int32) => jX9_lineFor_L53 (iZ w) h f x) iZ (a := w) (b := w + k) (by omega) (fun f i q1 q2 => ?_) (fun f => ?_) FU (FU_gt (by omega))
      · have hb2 := hB i
        have hne : tL n b pf z i ≠ -1 := by
          by_cases e : i = w
          · rw [e]; exact g1
          · have := g3 (i - w) (by omega) (by omega)
            rwa [show w + (i - w) = i by omega] at this
        show jX9_lineFor_L53 (iZ w) h (f + 1) (iZ i) = _
        rw [jX9_lineFor_L53, inB_t (by omega) (by omega) (by omega), if_pos rfl, iZ_nat (by omega) (by omega), hT _ (by omega) (by omega), im1, if_neg (eq_n (by omega) (by omega) (by omega) (by omega) (by omega)), i1, iZ_add]
      · show jX9_lineFor_L53 (iZ w) h (f + 1) (iZ (w + k)) = _
        rw [jX9_lineFor_L53, inB_t (by omega) (by omega) (by omega), if_pos rfl, iZ_nat (by omega) (by omega), hT _ (by omega) (by omega), im1, if_pos (by rw [g4])]
    rw [hon]
    obtain ⟨e, he⟩ : ∃ e, e = if b ≤ w then b + 1 else w + 1 := ⟨_, rfl⟩
    have hb0 := hok.2.2.1
    have e1 : 1 ≤ e := by rw [he]; split <;> omega
    have e2 : ∀ i, i < e → i ≤ b ∧ i ≤ w := fun i hi => by rw [he] at hi; split at hi <;> omega
    have e3 : b < e ∨ w < e := by rw [he]; split <;> omega
    have e4 : e ≤ 20 := by rw [he]; split <;> omega
    refine loopN (fun f (x : Int32) => jX9_lineFor_L14 (iZ w) h (some (iZ (w + k))) f x) iZ (a := 1) (b := e) e1 (fun f i q1 q2 => back _ f i q1 (e2 i q2).1 (e2 i q2).2 (g5 i q1 (e2 i q2).1)) (fun f => ?_) FU (FU_gt (by omega))
    show jX9_lineFor_L14 (iZ w) h _ (f + 1) (iZ e) = _
    rw [jX9_lineFor_L14, hR.2.1]
    by_cases q : b < e
    · rw [if_pos (lt_y (by omega) (by omega) (by omega))]
    · rw [if_neg (lt_n (by omega) (by omega) (by omega)), if_pos (lt_y (by omega) (by omega) (by omega))]
theorem x9_line (hR : PrM h n b pf) (hok : PrOk n b pf) : ∃ h2, jX9_parksByLine h = some h2 ∧ Fr sPl h h2 ∧ PkM h2 n b pf n ∧ IsA h2 (7, 0, 17) n (sp (n + 1) b pf) := by
  have hn := hok.2.1
  have hn0 := hok.1
  have hP := hok.2.2.2.2
  have hb := hok.2.2.1
  have ht := tn_in (b := b) (pf := pf) hn0
  obtain ⟨h1, e1, f1, k1⟩ := x9_parks hR hok hn0 (Int.le_refl n)
  have m1 : ∀ r k, sPl r k = false → sPm r k = false := fun r k q => by
    have := of_decide_eq_false q
    exact decide_eq_false (fun z => this (by rcases z with z | z | z <;> simp [z]))
  have f1' : Fr sPl h h1 := f1.mono m1
  have s2 : ∀ k, sPl (7, 0, 2) k = false := fun k => rfl
  have s6 : ∀ k, sPl (7, 0, 16) k = true := fun k => rfl
  have s7 : ∀ k, sPl (7, 0, 17) k = true := fun k => rfl
  have hR1 := hR.fr f1 (fun k => rfl)
  unfold jX9_parksByLine
  rw [hR.1, e1, Option.bind_some, x9_turn hR1 k1 ⟨hn0, hn⟩, Option.bind_some]
  let I2 : HD → Prop := fun h2 => Fr sPl h h2 ∧ PkM h2 n b pf n
  have cars : ∀ h3, I2 h3 → IsA h3 (7, 0, 16) (n + 1) (fun _ => -1) → ∃ h2, jX9_parksByLine_L40 (iZ (tn n b pf)) FU (iZ 0) h3 = some h2 ∧ Fr sPl h h2 ∧ PkM h2 n b pf n ∧ IsA h2 (7, 0, 17) n (sp (n + 1) b pf) := by
    intro h3 i3 a3
    refine loopI (fun f (x : Int32 × HD) => jX9_parksByLine_L40 (iZ (tn n b pf)) f x.1 x.2) (fun z x => x.1 = iZ z ∧ I2 x.2 ∧ IsA x.2 (7, 0, 16) (n + 1) (tL n b pf z) ∧ IsA x.2 (7, 0, 17) z (sp (n + 1) b pf)) (a := 0) (b := n) (fun y => ∃ h2, y = some h2 ∧ Fr sPl h h2 ∧ PkM h2 n b pf n ∧ IsA h2 (7, 0, 17) n (sp (n + 1) b pf)) hn0 ?_ ?_ FU (iZ 0, h3) (FU_gt (by omega)) ⟨rfl, i3, a3, fun z q1 q2 => by omega⟩
    · intro f z x z0 z1 hI
      obtain ⟨x1, h4⟩ := x
      obtain ⟨e, ⟨hF, hK⟩, hT, hS⟩ := hI
      replace e : x1 = iZ z := e
      replace hF : Fr sPl h h4 := hF
      replace hT : IsA h4 (7, 0, 16) (n + 1) (tL n b pf z) := hT
      replace hS : IsA h4 (7, 0, 17) z (sp (n + 1) b pf) := hS
      replace hK : PkM h4 n b pf n := hK
      subst e
      have hR4 := hR.fr hF s2
      have f5 : Fr sPl h (sI h4 (7, 0, 16) (tw n b pf z + mv (n + 1) b pf z).toNat (iZ z)) := hF.sI (s6 _) _
      have hR5 := hR.fr f5 s2
      obtain ⟨w0, w1, s0, s1, hfree, hcs⟩ := ln_cases hP hb z0 z1
      refine ⟨(iZ (z + 1), sI (sI h4 (7, 0, 16) (tw n b pf z + mv (n + 1) b pf z).toNat (iZ z)) (7, 0, 17) z.toNat (iZ (sp (n + 1) b pf z))), ?_, rfl, ⟨f5.sI (s7 _) _, ?_⟩, ?_, ?_⟩
      · show jX9_parksByLine_L40 _ (f + 1) (iZ z) h4 = _
        rw [jX9_parksByLine_L40, hR4.1, if_neg (le_n (by omega) (by omega) (by omega)), x9_twish hR4 hok z0 z1, Option.bind_some, x9_lineFor hR4 hok z0 z1 hT, Option.bind_some, inB_t (by omega) (by omega) (by omega), if_pos rfl, lt_eq, iZ_nat (by omega) (by omega), iZ_sub, x9_round hR5 ⟨hn0, hn⟩ (by omega) (by omega), Option.bind_some, ln_sp hP hb z0 z1, inB_t (by omega) (by omega) (by omega), if_pos rfl, lt_eq, iZ_nat (by omega) (by omega), i1, iZ_add]
      · exact ⟨(hK.1.ne (by decide) _ _).ne (by decide) _ _, (hK.2.1.ne (by decide) _ _).ne (by decide) _ _, (hK.2.2.ne (by decide) _ _).ne (by decide) _ _⟩
      · refine IsA.ne ?_ (by decide) _ _
        refine (hT.put s0 z).eq (fun s q1 q2 => ?_)
        rw [tL_s hP hb z0 z1 q1 (by omega)]
      · exact (hS.ne (by decide) _ _).snoc z0 rfl
    · intro f x hI
      obtain ⟨x1, h4⟩ := x
      obtain ⟨e, ⟨hF, hK⟩, hT, hS⟩ := hI
      replace e : x1 = iZ n := e
      replace hF : Fr sPl h h4 := hF
      subst e
      refine ⟨h4, ?_, hF, hK, hS⟩
      show jX9_parksByLine_L40 _ (f + 1) (iZ n) h4 = _
      rw [jX9_parksByLine_L40, (hR.fr hF s2).1, if_pos (le_y (by omega) (by omega) (by omega))]
  refine loopI (fun f (x : Int32 × HD) => jX9_parksByLine_L17 (iZ (tn n b pf)) (fun h6 => jX9_parksByLine_L40 (iZ (tn n b pf)) FU (0 : Int32) h6) f x.1 x.2) (fun z x => x.1 = iZ z ∧ I2 x.2 ∧ IsA x.2 (7, 0, 16) z (fun _ => -1)) (a := 0) (b := n + 1) (fun y => ∃ h2, y = some h2 ∧ Fr sPl h h2 ∧ PkM h2 n b pf n ∧ IsA h2 (7, 0, 17) n (sp (n + 1) b pf)) (by omega) ?_ ?_ FU (iZ 0, h1) (FU_gt (by omega)) ⟨rfl, ⟨f1', k1⟩, fun z q1 q2 => by omega⟩
  · intro f z x z0 z1 hI
    obtain ⟨x1, h4⟩ := x
    obtain ⟨e, ⟨hF, hK⟩, hT⟩ := hI
    replace e : x1 = iZ z := e
    replace hF : Fr sPl h h4 := hF
    replace hK : PkM h4 n b pf n := hK
    subst e
    refine ⟨(iZ (z + 1), sI h4 (7, 0, 16) z.toNat (iZ (-1))), ?_, rfl, ⟨hF.sI (s6 _) _, ⟨hK.1.ne (by decide) _ _, hK.2.1.ne (by decide) _ _, hK.2.2.ne (by decide) _ _⟩⟩, IsA.snoc hT z0 rfl⟩
    show jX9_parksByLine_L17 _ _ (f + 1) (iZ z) h4 = _
    rw [jX9_parksByLine_L17, x9_spots (hR.fr hF s2), Option.bind_some, if_neg (le_n (by omega) (by omega) (by omega)), inB_t (by omega) (by omega) (by omega), if_pos rfl, lt_eq, iZ_nat (by omega) (by omega), im1, i1, iZ_add]
  · intro f x hI
    obtain ⟨x1, h4⟩ := x
    obtain ⟨e, hI2, hT⟩ := hI
    replace e : x1 = iZ (n + 1) := e
    subst e
    obtain ⟨h5, e5, r5⟩ := cars h4 hI2 hT
    refine ⟨h5, ?_, r5⟩
    show jX9_parksByLine_L17 _ _ (f + 1) (iZ (n + 1)) h4 = _
    rw [jX9_parksByLine_L17, x9_spots (hR.fr hI2.1 s2), Option.bind_some, if_pos (le_y (by omega) (by omega) (by omega))]
    exact e5
end
