/-! CALLS ON THE TREE: code, edge, degree, leaves -/
theorem te {n : Int} {pf : Int → Int} (hn : 0 ≤ n) {i : Int} (i0 : 0 ≤ i) (i1 : i < n) : (0 ≤ lF n (mR n) (cdR n pf) i ∧ lF n (mR n) (cdR n pf) i ≤ n) ∧ (0 ≤ eS n (mR n) (cdR n pf) i ∧ eS n (mR n) (cdR n pf) i ≤ n) ∧ lF n (mR n) (cdR n pf) i ≠ eS n (mR n) (cdR n pf) i := by
  have hmk := mR_ok hn
  have hmi := mR_in hn
  have hcd : ∀ i, 0 ≤ i → i < mR n → 0 ≤ cdR n pf i ∧ cdR n pf i ≤ n := fun i _ _ => cdR_in hn pf i
  have h1 : 1 ≤ n := by omega
  have hm1 := (hmk.resolve_left (by omega)).2
  have hL := tr_L hn hmi.1 hmi.2 hcd i0 (show i ≤ mR n by omega)
  have hE := tr_e h1 hm1 hcd i0 (show i ≤ mR n by omega)
  exact ⟨hL.1, hE.1, hE.2.2⟩
theorem both_grown {h : HD} (hR : Rel h) : ∃ (R : Row) (h1 h2 : HD), RCur h R ∧ jX7_grow 0 h = some h1 ∧ jX8_grown h = some h1 ∧ Fr sTr h h1 ∧ GC h1 R.1 (mR R.1) (cdR R.1 R.2.2.1) R.1 ∧ PrM (c0 h1 0) R.1 R.2.1 R.2.2.1 ∧ jX9_grows (c0 h1 0) = some h2 ∧ Fr sTm (c0 h1 0) h2 ∧ TM h2 R.1 (mR R.1) (cdR R.1 R.2.2.1) R.1 ∧ PrM h2 R.1 R.2.1 R.2.2.1 ∧ Fr scr h (c0 h1 0) ∧ Fr scr h h2 := by
  obtain ⟨⟨R, hok, hC, hM⟩, -⟩ := id hR
  obtain ⟨h1, e1, f1, g1⟩ := x7_grow hC.1 hok.1
  have F1 : Fr scr h (c0 h1 0) := (sTr_scr f1).tr (c0_fr h1 0)
  have hQ1 : PrM (c0 h1 0) R.1 R.2.1 R.2.2.1 := hM.pr.fr F1 (fun _ => rfl)
  obtain ⟨h2, e2, f2, t2⟩ := x9_grows hQ1 hok.1
  refine ⟨R, h1, h2, ⟨hok, hC, hM⟩, e1, ?_, f1, g1, hQ1, e2, f2, t2, hQ1.fr f2 (fun _ => rfl), F1, F1.tr (sTm_scr f2)⟩
  unfold jX8_grown
  rw [e1]
  rfl
theorem p_code {h : HD} (hR : Rel h) (p : Int32) : PV (jX8_code p h) (jX9_code p) := by
  obtain ⟨R, h1, h2, ⟨hok, hC, hM⟩, e0, e1, f1, g1, hQ1, -, -, -, -, F1, -⟩ := both_grown hR
  have hn : 0 ≤ R.1 ∧ R.1 ≤ 11 := ⟨hok.1.1, hok.1.2.1⟩
  have hmi := mR_in hn.1
  obtain ⟨z, z1, z2, rfl⟩ := iZ_ex p
  refine ⟨iZ (if 0 ≤ z ∧ z < mR R.1 then cdR R.1 R.2.2.1 z else -1), h1, c0 h1 0, ?_, ?_, hR.fr F1⟩
  · unfold jX8_code
    rw [e1, Option.bind_some]
    have k : jX7_numberAt (iZ z) h1 = some (iZ (if 0 ≤ z ∧ z < mR R.1 then cdR R.1 R.2.2.1 z else -1)) := by
      exact x7_numAt g1.2.1 ⟨hmi.1, by omega⟩ g1.2.2.2.1 z1 z2
    rw [k]
    rfl
  · unfold jX9_code
    rw [lt_eq, c0_def, x9_codes hQ1 hn, Option.bind_some, i1, iZ_sub, iZ_j (by omega) (by omega), iZ_j (by omega) (by omega), show (0 : Int64) = jZ 0 from rfl, jZ_is (by omega) (by omega) (by omega) (by omega) (by omega) (by omega)]
    by_cases q : 0 ≤ z ∧ z < mR R.1
    · rw [decide_eq_true (by omega), if_pos rfl, x9_codeAt hQ1 hok.1 q.1 q.2, if_pos q]
      rfl
    · rw [decide_eq_false (by omega), if_neg Bool.false_ne_true, if_neg q]
      rfl
theorem p_edge {h : HD} (hR : Rel h) (p : Int32) : PV (jX8_edge p h) (jX9_edge p) := by
  obtain ⟨R, h1, h2, ⟨hok, hC, hM⟩, e0, e1, f1, g1, hQ1, e2, f2, t2, hQ2, F1, F2⟩ := both_grown hR
  have hn : 0 ≤ R.1 ∧ R.1 ≤ 11 := ⟨hok.1.1, hok.1.2.1⟩
  obtain ⟨z, z1, z2, rfl⟩ := iZ_ex p
  refine ⟨iZ (if 0 ≤ z ∧ z < R.1 then 100 * lo R.1 (mR R.1) (cdR R.1 R.2.2.1) z + hi R.1 (mR R.1) (cdR R.1 R.2.2.1) z else -1), h1, h2, ?_, ?_, hR.fr F2⟩
  · unfold jX8_edge
    rw [e1, Option.bind_some]
    have k : jX7_edgeAt (iZ z) h1 = some (iZ (if 0 ≤ z ∧ z < R.1 then 100 * lo R.1 (mR R.1) (cdR R.1 R.2.2.1) z + hi R.1 (mR R.1) (cdR R.1 R.2.2.1) z else -1)) := by
      unfold jX7_edgeAt
      rw [x7_isEdge g1.2.2.1 hn z1 z2]
      by_cases q1 : z < 0
      · rw [decide_eq_false (by omega), if_neg Bool.false_ne_true, if_neg (by omega)]; rfl
      · by_cases q2 : z < R.1
        · have ht := te (pf := R.2.2.1) hn.1 (show 0 ≤ z by omega) q2
          rw [decide_eq_true (by omega), if_pos rfl, inB_t (by omega) (by omega) (by omega), if_pos rfl, if_pos rfl, if_pos rfl, if_pos rfl, iZ_nat (by omega) (by omega), g1.2.2.2.2.1 z (by omega) q2, g1.2.2.2.2.2 z (by omega) q2, if_pos (show 0 ≤ z ∧ z < R.1 by omega)]
          unfold lo hi
          generalize lF R.1 (mR R.1) (cdR R.1 R.2.2.1) z = l at ht ⊢
          generalize eS R.1 (mR R.1) (cdR R.1 R.2.2.1) z = s at ht ⊢
          by_cases r : l < s
          · rw [if_pos (lt_y (a := l) (b := s) (by omega) (by omega) (by omega)), if_neg (lt_n (a := s) (b := l) (by omega) (by omega) (by omega)), if_pos r, if_pos r, i100, iZ_mul, iZ_add]
          · rw [if_neg (lt_n (a := l) (b := s) (by omega) (by omega) (by omega)), if_pos (lt_y (a := s) (b := l) (by omega) (by omega) (by omega)), if_neg r, if_neg r, i100, iZ_mul, iZ_add]
        · rw [decide_eq_false (by omega), if_neg Bool.false_ne_true, if_neg (by omega)]; rfl
    rw [k]
    rfl
  · unfold jX9_edge
    rw [lt_eq, c0_def, e2, Option.bind_some, t2.1, i1, iZ_sub, iZ_j (by omega) (by omega), iZ_j (by omega) (by omega), show (0 : Int64) = jZ 0 from rfl, jZ_is (by omega) (by omega) (by omega) (by omega) (by omega) (by omega)]
    by_cases q : 0 ≤ z ∧ z < R.1
    · rw [decide_eq_true (by omega), if_pos rfl, inB_t (by omega) (by omega) (by omega), if_pos rfl, if_pos rfl, iZ_nat (by omega) (by omega), t2.2.1 z q.1 q.2, t2.2.2 z q.1 q.2, i100, iZ_mul, iZ_add, if_pos q]
    · rw [decide_eq_false (by omega), if_neg Bool.false_ne_true, if_neg q]
      rfl
/-- the edges at a node -/
def eg (n : Int) (pf : Int → Int) (v z : Int) : Int := sm_ (fun i => b1 (decide (lF n (mR n) (cdR n pf) i = v ∨ eS n (mR n) (cdR n pf) i = v))) z
theorem eg_in {n : Int} {pf : Int → Int} {v z : Int} (hz : 0 ≤ z) : 0 ≤ eg n pf v z ∧ eg n pf v z ≤ z := by
  have := sm_bound (f := fun i => b1 (decide (lF n (mR n) (cdR n pf) i = v ∨ eS n (mR n) (cdR n pf) i = v))) (m := 1) hz (fun c _ _ => b1_in _)
  unfold eg
  omega
theorem eg_s {n : Int} {pf : Int → Int} {v z : Int} (hz : 0 ≤ z) : eg n pf v (z + 1) = eg n pf v z + (if lF n (mR n) (cdR n pf) z = v ∨ eS n (mR n) (cdR n pf) z = v then 1 else 0) := by
  unfold eg
  rw [sm_s _ hz, b1_d]
section
variable {h : HD} {n b : Int} {pf : Int → Int}
theorem x7_edgesAt (hn : 0 ≤ n ∧ n ≤ 11) (hG : GC h n (mR n) (cdR n pf) n) {v : Int} (v0 : 0 ≤ v) (v1 : v ≤ n) : jX7_edgesAt (iZ v) h = some (iZ (eg n pf v n)) := by
  unfold jX7_edgesAt
  rw [i0]
  refine loopN (fun f (x : Int32 × Int32) => jX7_edgesAt_L4 (iZ v) h f x.1 x.2) (fun z => (iZ (eg n pf v z), iZ z)) (a := 0) (b := n) hn.1 (fun f z z0 z1 => ?_) (fun f => ?_) FU (FU_gt (by omega))
  · show jX7_edgesAt_L4 (iZ v) h (f + 1) (iZ (eg n pf v z)) (iZ z) = jX7_edgesAt_L4 (iZ v) h f (iZ (eg n pf v (z + 1))) (iZ (z + 1))
    have ht := te (pf := pf) hn.1 z0 z1
    rw [jX7_edgesAt_L4, hG.2.2.1, if_neg (le_n (by omega) (by omega) (by omega)), x7_isAtEdge hn hG z0 z1 ht.1 ht.2.1 (by omega) v1, Option.bind_some, i1, iZ_add, iZ_add, eg_s z0]
    by_cases q1 : lF n (mR n) (cdR n pf) z = v ∨ eS n (mR n) (cdR n pf) z = v
    · rw [decide_eq_true q1, if_pos rfl, if_pos q1]
    · rw [decide_eq_false q1, if_neg Bool.false_ne_true, if_neg q1, Int.add_zero]
  · show jX7_edgesAt_L4 (iZ v) h (f + 1) (iZ (eg n pf v n)) (iZ n) = _
    rw [jX7_edgesAt_L4, hG.2.2.1, if_pos (le_y (by omega) (by omega) (by omega))]
theorem x9_isAt {m : Int} {cd : Int → Int} (hT : TM h n m cd n) (hn : 0 ≤ n ∧ n ≤ 11) {z v : Int} (z0 : 0 ≤ z) (z1 : z < n) (hl : 0 ≤ lF n m cd z ∧ lF n m cd z ≤ n) (hs : 0 ≤ eS n m cd z ∧ eS n m cd z ≤ n) (v0 : -1 ≤ v) (v1 : v ≤ n) : jX9_isAt (iZ z) (iZ v) h = some (decide (lF n m cd z = v ∨ eS n m cd z = v)) := by
  have hlh := lohi n m cd z
  unfold jX9_isAt
  rw [inB_t (by omega) (by omega) (by omega), if_pos rfl, if_pos rfl, iZ_nat (by omega) (by omega), hT.2.1 z z0 z1, hT.2.2 z z0 z1]
  by_cases q1 : lo n m cd z = v
  · rw [if_pos (by rw [q1]), decide_eq_true (by omega)]
  · rw [if_neg (eq_n (by omega) (by omega) (by omega) (by omega) (by omega))]
    by_cases q2 : hi n m cd z = v
    · rw [if_pos (by rw [q2]), decide_eq_true (by omega)]
    · rw [if_neg (eq_n (by omega) (by omega) (by omega) (by omega) (by omega)), decide_eq_false (by omega)]
theorem x9_degreeOf (hn : 0 ≤ n ∧ n ≤ 11) (hT : TM h n (mR n) (cdR n pf) n) {v : Int} (v0 : 0 ≤ v) (v1 : v ≤ n) : jX9_degreeOf (iZ v) h = some (iZ (eg n pf v n)) := by
  unfold jX9_degreeOf
  rw [i0]
  refine loopN (fun f (x : Int32 × Int32) => jX9_degreeOf_L4 (iZ v) h f x.1 x.2) (fun z => (iZ (eg n pf v z), iZ z)) (a := 0) (b := n) hn.1 (fun f z z0 z1 => ?_) (fun f => ?_) FU (FU_gt (by omega))
  · show jX9_degreeOf_L4 (iZ v) h (f + 1) (iZ (eg n pf v z)) (iZ z) = jX9_degreeOf_L4 (iZ v) h f (iZ (eg n pf v (z + 1))) (iZ (z + 1))
    have ht := te (pf := pf) hn.1 z0 z1
    rw [jX9_degreeOf_L4, hT.1, if_neg (le_n (by omega) (by omega) (by omega)), x9_isAt hT hn z0 z1 ht.1 ht.2.1 (by omega) v1, Option.bind_some, x9_truth, iZ_add, i1, iZ_add, eg_s z0, b1_d]
  · show jX9_degreeOf_L4 (iZ v) h (f + 1) (iZ (eg n pf v n)) (iZ n) = _
    rw [jX9_degreeOf_L4, hT.1, if_pos (le_y (by omega) (by omega) (by omega))]
end
theorem p_degree {h : HD} (hR : Rel h) (p : Int32) : PP [2] (jX8_degree p h) (jX9_degree p) := by
  obtain ⟨R, h1, h2, ⟨hok, hC, hM⟩, e0, e1, f1, g1, hQ1, e2, f2, t2, hQ2, F1, F2⟩ := both_grown hR
  have hn : 0 ≤ R.1 ∧ R.1 ≤ 11 := ⟨hok.1.1, hok.1.2.1⟩
  obtain ⟨z, z1, z2, rfl⟩ := iZ_ex p
  by_cases q : 0 ≤ z ∧ z ≤ R.1
  · refine PP.ok (v := iZ (eg R.1 R.2.2.1 z R.1)) (h1 := h1) (h2 := h2) ?_ ?_ (hR.fr F2) ((f2.1 _ _ rfl).trans (c0_0 _ _))
    · unfold jX8_degree
      rw [x8_needNode hC.1 hn z1 z2, if_pos q, Option.bind_some, sm_r, e1, Option.bind_some, x7_edgesAt hn g1 q.1 q.2]
      rfl
    · unfold jX9_degree
      rw [x9_isSpot (hM.pr.fr (sTr_scr f1) (fun _ => rfl)) hn z1 z2, decide_eq_true q, Option.bind_some, x9_goes, Option.bind_some, if_pos rfl]
      show (jX9_grows (c0 h1 0)).bind _ = _
      rw [e2, Option.bind_some, x9_degreeOf hn t2 q.1 q.2]
      rfl
  · refine PP.ex (h1 := h) (h2 := c0 h 1) (w := 0) 0 (e := 2) ?_ ?_ (hR.fr (c0_fr h 1)) rfl (c0_0 _ _)
    · unfold jX8_degree
      rw [x8_needNode hC.1 hn z1 z2, if_neg q]
      rfl
    · unfold jX9_degree
      rw [x9_isSpot hM.pr hn z1 z2, decide_eq_false q, Option.bind_some, x9_goes]
      rfl
def lvN (n : Int) (pf : Int → Int) (z : Int) : Int := sm_ (fun v => b1 (decide (eg n pf v n = 1))) z
theorem p_leaves {h : HD} (hR : Rel h) : PV (jX8_leaves h) jX9_leaves := by
  obtain ⟨R, h1, h2, ⟨hok, hC, hM⟩, e0, e1, f1, g1, hQ1, e2, f2, t2, hQ2, F1, F2⟩ := both_grown hR
  obtain ⟨n, b, pf, nm⟩ := R
  have hn : 0 ≤ n ∧ n ≤ 11 := ⟨hok.1.1, hok.1.2.1⟩
  have ls : ∀ z, 0 ≤ z → lvN n pf (z + 1) = lvN n pf z + (if eg n pf z n = 1 then 1 else 0) := fun z hz => by
    unfold lvN
    rw [sm_s _ hz, b1_d]
  replace g1 : GC h1 n (mR n) (cdR n pf) n := g1
  replace t2 : TM h2 n (mR n) (cdR n pf) n := t2
  replace hQ2 : PrM h2 n b pf := hQ2
  refine ⟨iZ (lvN n pf (n + 1)), h1, h2, ?_, ?_, hR.fr F2⟩
  · unfold jX8_leaves
    have k : jX7_nodesWithOneEdge h1 = some (iZ (lvN n pf (n + 1))) := by
      unfold jX7_nodesWithOneEdge
      rw [i0]
      refine loopN (fun f (x : Int32 × Int32) => jX7_nodesWithOneEdge_L4 h1 f x.1 x.2) (fun z => (iZ (lvN n pf z), iZ z)) (a := 0) (b := n + 1) (by omega) (fun f z z0 z1 => ?_) (fun f => ?_) FU (FU_gt (by omega))
      · show jX7_nodesWithOneEdge_L4 h1 (f + 1) (iZ (lvN n pf z)) (iZ z) = jX7_nodesWithOneEdge_L4 h1 f (iZ (lvN n pf (z + 1))) (iZ (z + 1))
        have he := eg_in (n := n) (pf := pf) (v := z) hn.1
        rw [jX7_nodesWithOneEdge_L4, g1.1, if_neg (le_n (by omega) (by omega) (by omega)), x7_edgesAt hn g1 z0 (by omega), Option.bind_some, i1, iZ_add, iZ_add, ls z z0]
        by_cases q : eg n pf z n = 1
        · rw [if_pos (by rw [q]), if_pos q]
        · rw [if_neg (eq_n (by omega) (by omega) (by omega) (by omega) (by omega)), if_neg q, Int.add_zero]
      · show jX7_nodesWithOneEdge_L4 h1 (f + 1) (iZ (lvN n pf (n + 1))) (iZ (n + 1)) = _
        rw [jX7_nodesWithOneEdge_L4, g1.1, if_pos (le_y (by omega) (by omega) (by omega))]
    rw [e1, Option.bind_some, k]
    rfl
  · unfold jX9_leaves
    rw [lt_eq, c0_def, e2, Option.bind_some, i0]
    refine loopN (fun f (x : Int32 × Int32) => jX9_leaves_L13 h2 f x.1 x.2) (fun z => (iZ (lvN n pf z), iZ z)) (a := 0) (b := n + 1) (by omega) (fun f z z0 z1 => ?_) (fun f => ?_) FU (FU_gt (by omega))
    · show jX9_leaves_L13 h2 (f + 1) (iZ (lvN n pf z)) (iZ z) = jX9_leaves_L13 h2 f (iZ (lvN n pf (z + 1))) (iZ (z + 1))
      have he := eg_in (n := n) (pf := pf) (v := z) hn.1
      rw [jX9_leaves_L13, x9_spots hQ2, Option.bind_some, if_neg (le_n (by omega) (by omega) (by omega)), x9_degreeOf hn t2 z0 (by omega), Option.bind_some, x9_truth, x9_truth, i1, iZ_add, iZ_add, iZ_add, ls z z0]
      by_cases q : eg n pf z n = 1
      · rw [if_pos (by rw [q]), if_pos q]; rfl
      · rw [if_neg (eq_n (by omega) (by omega) (by omega) (by omega) (by omega)), if_neg q]; rfl
    · show jX9_leaves_L13 h2 (f + 1) (iZ (lvN n pf (n + 1))) (iZ (n + 1)) = _
      rw [jX9_leaves_L13, x9_spots hQ2, Option.bind_some, if_pos (le_y (by omega) (by omega) (by omega))]
