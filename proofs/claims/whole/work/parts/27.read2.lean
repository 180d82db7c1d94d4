/-! MORE CALLS THAT READ -/
section
variable {h : HD} {n b : Int} {pf : Int → Int}
theorem x9_areaBy (hR : PrM h n b pf) (hK : PkM h n b pf n) (ho : PrOk n b pf) : jX9_areaByLine h = some (iZ (alN n b pf)) := by
  have hn := ho.2.1
  have hn0 := ho.1
  have hh := half_in (n := n) ⟨hn0, hn⟩
  unfold jX9_areaByLine
  rw [x9_turn hR hK ⟨hn0, hn⟩, Option.bind_some, hR.1, i1, iZ_sub, iZ_mul, i2, iZ_div hh.1 (by omega) (by decide) (by decide)]
  have e0 : n * (n - 1) / 2 = n * (n - 1) / 2 - sm_ (tw n b pf) 0 := by rw [sm_0, Int.sub_zero]
  rw [e0, i0]
  refine loopN (fun f (x : Int32 × Int32) => jX9_areaByLine_L25 (iZ (tn n b pf)) h f x.1 x.2) (fun z => (iZ (n * (n - 1) / 2 - sm_ (tw n b pf) z), iZ z)) (a := 0) (b := n) hn0 (fun f z q1 q2 => ?_) (fun f => ?_) FU (FU_gt (by omega))
  · show jX9_areaByLine_L25 _ h (f + 1) _ (iZ z) = jX9_areaByLine_L25 _ h f _ _
    rw [jX9_areaByLine_L25, hR.1, if_neg (le_n (by omega) (by omega) (by omega)), x9_twish hR ho q1 q2, Option.bind_some, sm_s _ q1, i1, iZ_add, iZ_sub, Int.sub_sub]
  · show jX9_areaByLine_L25 _ h (f + 1) _ (iZ n) = _
    rw [jX9_areaByLine_L25, hR.1, if_pos (le_y (by omega) (by omega) (by omega))]
    rfl
theorem alN_in (ho : PrOk n b pf) : -1000 ≤ alN n b pf ∧ alN n b pf ≤ 1000 := by
  have hh := half_in (n := n) ⟨ho.1, ho.2.1⟩
  have := sm_bound (f := tw n b pf) (m := 11) ho.1 (fun c _ _ => by have := tw_in (b := b) (pf := pf) ho.1 c; have := ho.2.1; omega)
  have := ho.2.1
  have := ho.1
  unfold alN; omega
theorem arN_in (ho : PrOk n b pf) : -1000 ≤ arN n b pf ∧ arN n b pf ≤ 1000 := by
  have := sm_bound2 (f := fun c => mv (n + 1) b pf c) (m := 11) ho.1 (fun c q1 q2 => by have := mv_in ho.2.2.2.2 ho.2.2.1 q1 q2; have := ho.2.1; omega)
  have := ho.2.1
  have := ho.1
  unfold arN; omega
end
theorem p_gap {h : HD} (hR : Rel h) : PV (jX8_gap h) jX9_gap := by
  obtain ⟨⟨⟨n, b, pf, nm⟩, hok, hC, hM⟩, -⟩ := id hR
  have ho : PrOk n b pf := hok.1
  have hP : PrC h 0 n b pf := hC.1
  have hQ : PrM h n b pf := hM.pr
  have hn : 0 ≤ n ∧ n ≤ 11 := ⟨ho.1, ho.2.1⟩
  obtain ⟨h1, h2, e1, k1, hP1, l1, hQ1, e2, F, k2, l2, hQ2, g0⟩ := both_line hP hQ ho
  have ha := arN_in ho
  have hl := alN_in ho
  have loop8 : ∀ v : Int32, jX8_gap_L36 h1 FU v 0 = some (v, h1) := by
    intro v
    rw [i0]
    refine loopN (fun f (x : Int32 × Int32) => jX8_gap_L36 h1 f x.1 x.2) (fun z => (v, iZ z)) (a := 0) (b := n) hn.1 (fun f z q1 q2 => ?_) (fun f => ?_) FU (FU_gt (by omega))
    · show jX8_gap_L36 h1 (f + 1) v (iZ z) = jX8_gap_L36 h1 f v (iZ (z + 1))
      rw [jX8_gap_L36]
      unfold jX2_count
      rw [hP1.1, if_neg (le_n (by omega) (by omega) (by omega)), x8_spotInLine hP1 k1 ho l1 q1 q2, Option.bind_some, x4_spotOf k1.1 hn q1 q2, Option.bind_some, if_pos rfl, i1, iZ_add]
    · show jX8_gap_L36 h1 (f + 1) v (iZ n) = _
      rw [jX8_gap_L36]
      unfold jX2_count
      rw [hP1.1, if_pos (le_y (by omega) (by omega) (by omega))]
  have loop9 : ∀ v : Int32, jX9_gap_L31 h2 FU v 0 = some (v, h2) := by
    intro v
    rw [i0]
    refine loopN (fun f (x : Int32 × Int32) => jX9_gap_L31 h2 f x.1 x.2) (fun z => (v, iZ z)) (a := 0) (b := n) hn.1 (fun f z q1 q2 => ?_) (fun f => ?_) FU (FU_gt (by omega))
    · show jX9_gap_L31 h2 (f + 1) v (iZ z) = jX9_gap_L31 h2 f v (iZ (z + 1))
      rw [jX9_gap_L31, hQ2.1, if_neg (le_n (by omega) (by omega) (by omega)), inB_t (by omega) (by omega) (by omega), if_pos rfl, if_pos rfl, iZ_nat (by omega) (by omega), k2.2.1 z q1 q2, l2 z q1 q2, if_pos rfl, x9_truth, i1, iZ_add, show b1 false = 0 from rfl, show v + iZ 0 = v from by rw [← i0]; exact Int32.add_zero v]
    · show jX9_gap_L31 h2 (f + 1) v (iZ n) = _
      rw [jX9_gap_L31, hQ2.1, if_pos (le_y (by omega) (by omega) (by omega))]
  refine ⟨iZ (if arN n b pf = alN n b pf then 0 else 1), h1, h2, ?_, ?_, hR.fr F⟩
  · unfold jX8_gap
    rw [bind_a (f := fun q1 => jX4_comeInLine 1 0 q1) (g := fun q2 => (jX4_area 0 q2).bind fun q3 => (jX4_areaByPreferences 0 q2).bind fun q4 => (if q3 = q4 then jX8_gap_L36 q2 FU (0 : Int32) (0 : Int32) else jX8_gap_L36 q2 FU (1 : Int32) (0 : Int32))), e1, Option.bind_some, x4_area k1 ho, Option.bind_some, x4_areaBy k1 ho, Option.bind_some]
    by_cases q : arN n b pf = alN n b pf
    · rw [if_pos (by rw [q]), if_pos q, loop8]; rfl
    · rw [if_neg (eq_n (by omega) (by omega) (by omega) (by omega) (by omega)), if_neg q, loop8]; rfl
  · unfold jX9_gap
    rw [lt_eq, c0_def, e2, Option.bind_some, x9_area hQ2 k2 ho, Option.bind_some, x9_areaBy hQ2 k2 ho, Option.bind_some]
    by_cases q : arN n b pf = alN n b pf
    · rw [if_pos (by rw [q]), if_pos q, loop9, x9_truth]; rfl
    · rw [if_neg (eq_n (by omega) (by omega) (by omega) (by omega) (by omega)), if_neg q, loop9, x9_truth]; rfl
theorem p_isParking {h : HD} (hR : Rel h) : PV (jX8_isParking h) jX9_isParking := by
  obtain ⟨⟨⟨n, b, pf, nm⟩, hok, hC, hM⟩, -⟩ := id hR
  have ho : PrOk n b pf := hok.1
  have hP : PrC h 0 n b pf := hC.1
  have hQ : PrM h n b pf := hM.pr
  have hn : 0 ≤ n ∧ n ≤ 11 := ⟨ho.1, ho.2.1⟩
  obtain ⟨h1, h2, e1, f1, k1, hP1, e2, F, f2, k2, hQ2, g0, hQ1⟩ := both_parked hP hQ ho ho.1 (Int.le_refl n)
  have hf := fr_in (b := b) (pf := pf) hn.1 hn.1 (Int.le_refl n)
  refine ⟨decide (tn n b pf = 0), h1, h2, ?_, ?_, hR.fr F⟩
  · unfold jX8_isParking
    rw [parked_of hP e1, Option.bind_some, x4_turn k1]
    have ht := tn_in (b := b) (pf := pf) hn.1
    by_cases q : tn n b pf = 0
    · rw [if_pos (show iZ (tn n b pf) = 0 by rw [q]; rfl), decide_eq_true q]
    · rw [i0, if_neg (eq_n (by omega) (by omega) (by omega) (by omega) (by omega)), decide_eq_false q]
  · unfold jX9_isParking
    rw [lt_eq, c0_def, hQ1.1, e2, Option.bind_some, x9_gap k2 hn hn.1 (Int.le_refl n), Option.bind_some, hQ2.1]
    unfold tn
    by_cases q : fr (n + 1) b pf n = n
    · rw [if_pos (by rw [q]), decide_eq_true (by omega)]
    · rw [if_neg (eq_n (by omega) (by omega) (by omega) (by omega) (by omega)), decide_eq_false (by omega)]
theorem i32_sub0 (x y : Int32) : x - y = 0 ↔ x = y := by
  constructor
  · intro e
    have := congrArg (fun t => t + y) e
    simpa [Int32.sub_add_cancel] using this
  · intro e; rw [e]; exact Int32.sub_self y
theorem p_breakAt {h : HD} (hR : Rel h) (w : Int32) : PV (jX8_breakAt w h) (jX9_breakAt w) := by
  obtain ⟨⟨⟨n, b, pf, nm⟩, hok, hC, hM⟩, -⟩ := id hR
  have ho : PrOk n b pf := hok.1
  have hP : PrC h 0 n b pf := hC.1
  have hQ : PrM h n b pf := hM.pr
  have hn : 0 ≤ n ∧ n ≤ 11 := ⟨ho.1, ho.2.1⟩
  obtain ⟨h1, h2, e1, f1, k1, hP1, e2, F, f2, k2, hQ2, g0, hQ1⟩ := both_parked hP hQ ho ho.1 (Int.le_refl n)
  let cn : Int → Int := fun z => sm_ (fun k => b1 (isB n b pf (k + 1))) z
  let P : Int → Bool := fun z => isB n b pf (z + 1) && decide (iZ (cn z) = w)
  obtain ⟨g, hg⟩ : ∃ g, fnd P n.toNat 0 = g := ⟨_, rfl⟩
  have g1 := fnd_ge P n.toNat 0
  have g2 : ∀ z, 0 ≤ z → z < g → (isB n b pf (z + 1) && decide (iZ (cn z) = w)) = false := fun z q1 q2 => fnd_not P n.toNat 0 z q1 (by omega)
  have g3 : g < n → (isB n b pf (g + 1) && decide (iZ (cn g) = w)) = true := fun q => by
    have := fnd_is P n.toNat 0 (by omega)
    rw [hg] at this
    exact this
  have cs : ∀ z, 0 ≤ z → cn (z + 1) = cn z + b1 (isB n b pf (z + 1)) := fun z q => sm_s _ q
  refine ⟨iZ (if g < n then g + 1 else -1), h1, h2, ?_, ?_, hR.fr F⟩
  · unfold jX8_breakAt
    rw [parked_of hP e1, Option.bind_some, i0, i1]
    refine loopN (fun f (x : Int32 × Int32) => jX8_breakAt_L10 w h1 f x.1 x.2) (fun z => (iZ (cn z), iZ (z + 1))) (a := 0) (b := g) (by omega) (fun f z q1 q2 => ?_) (fun f => ?_) FU (FU_gt (by omega))
    · show jX8_breakAt_L10 w h1 (f + 1) (iZ (cn z)) (iZ (z + 1)) = jX8_breakAt_L10 w h1 f (iZ (cn (z + 1))) (iZ (z + 1 + 1))
      rw [jX8_breakAt_L10]
      unfold jX2_count
      have hgz := g2 z q1 q2
      rw [hP1.1, if_neg (lt_n (by omega) (by omega) (by omega)), x4_isBreak k1 ho (by omega) (by omega), Option.bind_some, cs z q1, i1, iZ_add, iZ_add]
      cases hb : isB n b pf (z + 1)
      · rw [if_neg (by decide), show b1 false = 0 from rfl, Int.add_zero]
      · rw [hb, Bool.true_and] at hgz
        rw [if_pos rfl, if_neg (of_decide_eq_false hgz)]
        rfl
    · show jX8_breakAt_L10 w h1 (f + 1) (iZ (cn g)) (iZ (g + 1)) = _
      rw [jX8_breakAt_L10]
      unfold jX2_count
      rw [hP1.1]
      by_cases q : g < n
      · have hgz := g3 q
        rw [Bool.and_eq_true] at hgz
        rw [if_neg (lt_n (by omega) (by omega) (by omega)), x4_isBreak k1 ho (by omega) (by omega), Option.bind_some, hgz.1, if_pos rfl, if_pos (of_decide_eq_true hgz.2), if_pos q]
      · rw [if_pos (lt_y (by omega) (by omega) (by omega)), if_neg q, im1]
  · unfold jX9_breakAt
    have ew : w = w - iZ (cn 0) := by
      show w = w - iZ 0
      rw [← i0]; exact (Int32.sub_zero w).symm
    rw [lt_eq, c0_def, hQ1.1, e2, Option.bind_some, i1]
    suffices hh : jX9_breakAt_L19 w h2 FU (w - iZ (cn 0)) (iZ (0 + 1)) = some (iZ (if g < n then g + 1 else -1), h2) by
      rw [← ew] at hh; exact hh
    refine loopN (fun f (x : Int32 × Int32) => jX9_breakAt_L19 w h2 f x.1 x.2) (fun z => (w - iZ (cn z), iZ (z + 1))) (a := 0) (b := g) (by omega) (fun f z q1 q2 => ?_) (fun f => ?_) FU (FU_gt (by omega))
    · show jX9_breakAt_L19 w h2 (f + 1) (w - iZ (cn z)) (iZ (z + 1)) = jX9_breakAt_L19 w h2 f (w - iZ (cn (z + 1))) (iZ (z + 1 + 1))
      have hgz := g2 z q1 q2
      rw [jX9_breakAt_L19, hQ2.1, if_neg (lt_n (by omega) (by omega) (by omega)), x9_isBreak hQ2 k2 ho (by omega) (by omega), Option.bind_some, cs z q1]
      cases hb : isB n b pf (z + 1)
      · rw [if_neg (by decide), show b1 false = 0 from rfl, Int.add_zero, i1, iZ_add]
      · rw [hb, Bool.true_and] at hgz
        rw [if_pos rfl, if_neg (fun e => of_decide_eq_false hgz (((i32_sub0 _ _).mp e).symm))]
        rw [im1, i1, iZ_add (z + 1), show b1 true = 1 from rfl, ← iZ_add (cn z) 1, show iZ (-1) = -iZ 1 from (iZ_neg 1).symm]
        rw [Int32.sub_eq_add_neg, Int32.sub_eq_add_neg, Int32.neg_add, Int32.add_assoc, Int32.sub_eq_add_neg]
    · show jX9_breakAt_L19 w h2 (f + 1) (w - iZ (cn g)) (iZ (g + 1)) = _
      rw [jX9_breakAt_L19, hQ2.1]
      by_cases q : g < n
      · have hgz := g3 q
        rw [Bool.and_eq_true] at hgz
        rw [if_neg (lt_n (by omega) (by omega) (by omega)), x9_isBreak hQ2 k2 ho (by omega) (by omega), Option.bind_some, hgz.1, if_pos rfl, if_pos ((i32_sub0 _ _).mpr (of_decide_eq_true hgz.2).symm), if_pos q]
      · rw [if_pos (lt_y (by omega) (by omega) (by omega)), if_neg q, im1]
theorem x8_parkedAfter {h h1 : HD} {n b : Int} {pf : Int → Int} (hP : PrC h 0 n b pf) (hn : 0 ≤ n ∧ n ≤ 11) {z : Int} (z1 : -2147483648 ≤ z) (z2 : z < 2147483648) (e : 0 ≤ z ∧ z ≤ n → jX4_comeRound 0 0 (iZ z) h = some h1) : jX8_parkedAfter (iZ z) h = if 0 ≤ z ∧ z ≤ n then some (.inr (), h1) else some (.inl 1, h) := by
  unfold jX8_parkedAfter jX2_count
  rw [hP.1, i0]
  by_cases q1 : z < 0
  · rw [if_pos (lt_y (by omega) (by omega) (by omega)), if_neg (by omega)]
  · rw [if_neg (lt_n (by omega) (by omega) (by omega))]
    by_cases q2 : z ≤ n
    · rw [if_pos (le_y (by omega) (by omega) (by omega)), if_pos (by omega), e (by omega)]; rfl
    · rw [if_neg (le_n (by omega) (by omega) (by omega)), if_neg (by omega)]
theorem p_whoAfter {h : HD} (hR : Rel h) (p w : Int32) : PP [2, 1] (jX8_whoAfter p w h) (jX9_whoAfter p w) := by
  obtain ⟨⟨⟨n, b, pf, nm⟩, hok, hC, hM⟩, -⟩ := id hR
  have ho : PrOk n b pf := hok.1
  have hP : PrC h 0 n b pf := hC.1
  have hQ : PrM h n b pf := hM.pr
  have hn : 0 ≤ n ∧ n ≤ 11 := ⟨ho.1, ho.2.1⟩
  obtain ⟨z, z1, z2, rfl⟩ := iZ_ex p
  obtain ⟨s, s1, s2, rfl⟩ := iZ_ex w
  by_cases q : 0 ≤ s ∧ s ≤ n
  · by_cases qz : 0 ≤ z ∧ z ≤ n
    · obtain ⟨h1, h2, e1, f1, k1, hP1, e2, F, f2, k2, hQ2, g0, hQ1⟩ := both_parked hP hQ ho qz.1 qz.2
      refine PP.ok (v := iZ (tkO (n + 1) b pf z s)) (h1 := h1) (h2 := h2) ?_ ?_ (hR.fr F) g0
      · unfold jX8_whoAfter
        rw [x8_needSpot hP hn s1 s2, if_pos q, Option.bind_some, x8_parkedAfter hP hn z1 z2 (fun _ => e1), if_pos qz]
        show (jX4_takerOf 0 (iZ s) h1).bind _ = _
        rw [x4_takerOf k1.1.1 (by omega) (by omega) k1.1.2.2.2.2.2.2.2 q.1 (by omega)]
        rfl
      · have hQ1' := hQ.fr (sPk_scr f1) (fun _ => rfl)
        unfold jX9_whoAfter
        rw [x9_isSpot hQ1' hn s1 s2, decide_eq_true q, Option.bind_some, x9_areCars hQ1' hn z1 z2, decide_eq_true qz, Option.bind_some, x9_both, Option.bind_some, Bool.and_self, if_pos rfl]
        show (jX9_parks (iZ z) (c0 h1 0)).bind _ = _
        rw [e2, Option.bind_some, inB_t (by omega) (by omega) (by omega), if_pos rfl, iZ_nat (by omega) (by omega), k2.1 s q.1 (by omega)]
    · refine PP.ex (h1 := h) (h2 := c0 h 2) (w := 0) 1 (e := 1) ?_ ?_ (hR.fr (c0_fr h 2)) rfl (c0_0 _ _)
      · unfold jX8_whoAfter
        rw [x8_needSpot hP hn s1 s2, if_pos q, Option.bind_some, x8_parkedAfter hP hn z1 z2 (h1 := h) (fun e => absurd e qz), if_neg qz]
        rfl
      · unfold jX9_whoAfter
        rw [x9_isSpot hQ hn s1 s2, decide_eq_true q, Option.bind_some, x9_areCars hQ hn z1 z2, decide_eq_false qz, Option.bind_some, x9_both]
        rfl
  · refine PP.ex (h1 := h) (h2 := c0 h 1) (w := 0) 0 (e := 2) ?_ ?_ (hR.fr (c0_fr h 1)) rfl (c0_0 _ _)
    · unfold jX8_whoAfter
      rw [x8_needSpot hP hn s1 s2, if_neg q]; rfl
    · unfold jX9_whoAfter
      rw [x9_isSpot hQ hn s1 s2, decide_eq_false q, Option.bind_some, x9_areCars hQ hn z1 z2, Option.bind_some, x9_both]
      rfl
theorem p_longestAfter {h : HD} (hR : Rel h) (p : Int32) : PP [1] (jX8_longestAfter p h) (jX9_longestAfter p) := by
  obtain ⟨⟨⟨n, b, pf, nm⟩, hok, hC, hM⟩, -⟩ := id hR
  have ho : PrOk n b pf := hok.1
  have hP : PrC h 0 n b pf := hC.1
  have hQ : PrM h n b pf := hM.pr
  have hn : 0 ≤ n ∧ n ≤ 11 := ⟨ho.1, ho.2.1⟩
  obtain ⟨z, z1, z2, rfl⟩ := iZ_ex p
  by_cases qz : 0 ≤ z ∧ z ≤ n
  · obtain ⟨h1, h2, e1, f1, k1, hP1, e2, F, f2, k2, hQ2, g0, hQ1⟩ := both_parked hP hQ ho qz.1 qz.2
    refine PP.ok (v := iZ (lgN (n + 1) (tkO (n + 1) b pf z) (n + 1))) (h1 := h1) (h2 := h2) ?_ ?_ (hR.fr F) g0
    · unfold jX8_longestAfter
      rw [x8_parkedAfter hP hn z1 z2 (fun _ => e1), if_pos qz]
      show (jX4_longestRow 0 h1).bind _ = _
      rw [x4_longest k1 ho qz.1 qz.2]
      rfl
    · have hQ1' := hQ.fr (sPk_scr f1) (fun _ => rfl)
      unfold jX9_longestAfter
      rw [x9_areCars hQ1' hn z1 z2, decide_eq_true qz, Option.bind_some, x9_goes, Option.bind_some, if_pos rfl]
      show (jX9_parks (iZ z) (c0 h1 0)).bind _ = _
      rw [e2, Option.bind_some]
      exact x9_longest _ hQ2 k2 ho qz.1 qz.2
  · refine PP.ex (h1 := h) (h2 := c0 h 1) (w := 0) 0 (e := 1) ?_ ?_ (hR.fr (c0_fr h 1)) rfl (c0_0 _ _)
    · unfold jX8_longestAfter
      rw [x8_parkedAfter hP hn z1 z2 (h1 := h) (fun e => absurd e qz), if_neg qz]
      rfl
    · unfold jX9_longestAfter
      rw [x9_areCars hQ hn z1 z2, decide_eq_false qz, Option.bind_some, x9_goes]
      rfl
theorem p_inWay {h : HD} (hR : Rel h) (p : Int32) : PP [1] (jX8_inWay p h) (jX9_inWay p) := by
  obtain ⟨⟨⟨n, b, pf, nm⟩, hok, hC, hM⟩, -⟩ := id hR
  have ho : PrOk n b pf := hok.1
  have hP : PrC h 0 n b pf := hC.1
  have hQ : PrM h n b pf := hM.pr
  have hn : 0 ≤ n ∧ n ≤ 11 := ⟨ho.1, ho.2.1⟩
  obtain ⟨z, z1, z2, rfl⟩ := iZ_ex p
  by_cases qz : 0 ≤ z ∧ z ≤ n
  · obtain ⟨h1, h2, e1, f1, k1, hP1, e2, F, f2, k2, hQ2, g0, hQ1⟩ := both_parked hP hQ ho qz.1 qz.2
    have hQ1' := hQ.fr (sPk_scr f1) (fun _ => rfl)
    have a8 : jX8_inWay (iZ z) h = (if jX2_hasCar 0 (iZ z) h1 = true then (jX2_preferenceOf 0 (iZ z) h1).bind fun q3 => (jX4_takerOf 0 q3 h1).bind fun q4 => some (.inr q4, h1) else some (.inr (-1 : Int32), h1)) := by
      unfold jX8_inWay
      rw [x8_parkedAfter hP hn z1 z2 (fun _ => e1), if_pos qz]
      rfl
    have a9 : jX9_inWay (iZ z) h1 = (if iZ z = gI (c0 h1 0) (7, 0, 2) 0 then some ((-1 : Int32), c0 h1 0) else (jX9_parks (iZ z) (c0 h1 0)).bind fun q3 => (jX9_wishOf (iZ z) q3).bind fun q4 => if inB q4 12 = true then some (gI q3 (7, 0, 13) q4.toNatClampNeg, q3) else none) := by
      unfold jX9_inWay
      rw [x9_areCars hQ1' hn z1 z2, decide_eq_true qz, Option.bind_some, x9_goes]
      rfl
    by_cases q : z < n
    · have hp := ho.2.2.2.2 z qz.1 q
      refine PP.ok (v := iZ (tkO (n + 1) b pf z (pf z))) (h1 := h1) (h2 := h2) ?_ ?_ (hR.fr F) g0
      · rw [a8, x2_hasCar hP1.1 hn z1 z2, decide_eq_true ⟨qz.1, q⟩, if_pos rfl, x2_pref hP1 hn qz.1 q, Option.bind_some, x4_takerOf k1.1.1 (by omega) (by omega) k1.1.2.2.2.2.2.2.2 hp.1 (by omega)]
        rfl
      · rw [a9, hQ1.1, if_neg (eq_n (by omega) (by omega) (by omega) (by omega) (by omega)), e2, Option.bind_some, x9_wish hQ2 hn qz.1 q, Option.bind_some, inB_t (by omega) (by omega) (by omega), if_pos rfl, iZ_nat (by omega) (by omega), k2.1 _ hp.1 (by omega)]
    · refine PP.ok (v := -1) (h1 := h1) (h2 := c0 h1 0) ?_ ?_ (hR.fr ((sPk_scr f1).tr (c0_fr h1 0))) (c0_0 _ _)
      · rw [a8, x2_hasCar hP1.1 hn z1 z2, decide_eq_false (by omega), if_neg (by decide)]
      · rw [a9, hQ1.1, if_pos (by rw [show z = n by omega])]
  · refine PP.ex (h1 := h) (h2 := c0 h 1) (w := 0) 0 (e := 1) ?_ ?_ (hR.fr (c0_fr h 1)) rfl (c0_0 _ _)
    · unfold jX8_inWay
      rw [x8_parkedAfter hP hn z1 z2 (h1 := h) (fun e => absurd e qz), if_neg qz]
      rfl
    · unfold jX9_inWay
      rw [x9_areCars hQ hn z1 z2, decide_eq_false qz, Option.bind_some, x9_goes]
      rfl
