/-! CALLS THAT READ -/
theorem both_parked {h : HD} {n b : Int} {pf : Int → Int} (hP : PrC h 0 n b pf) (hQ : PrM h n b pf) (ho : PrOk n b pf) {c : Int} (hc : 0 ≤ c) (hcn : c ≤ n) : ∃ h1 h2, jX4_comeRound 0 0 (iZ c) h = some h1 ∧ Fr (sPk 0) h h1 ∧ Pk h1 0 n b pf c ∧ PrC h1 0 n b pf ∧ jX9_parks (iZ c) (c0 h1 0) = some h2 ∧ Fr scr h h2 ∧ Fr sPm (c0 h1 0) h2 ∧ PkM h2 n b pf c ∧ PrM h2 n b pf ∧ gI h2 (7, 0, 0) 0 = iZ 0 ∧ PrM (c0 h1 0) n b pf := by
  obtain ⟨h1, e1, f1, k1⟩ := x4_comeRound 0 0 hP ho hc hcn
  have hQ1 : PrM (c0 h1 0) n b pf := (hQ.fr (sPk_scr f1) (fun _ => rfl)).c0 0
  obtain ⟨h2, e2, f2, k2⟩ := x9_parks hQ1 ho hc hcn
  exact ⟨h1, h2, e1, f1, k1, hP.fr f1 (sPk_1 0 0), e2, ((sPk_scr f1).tr (c0_fr h1 0)).tr (sPm_scr f2), f2, k2, hQ1.fr f2 (fun _ => rfl), by rw [f2.1 _ _ rfl]; exact c0_0 _ _, hQ1⟩
theorem parked_of {h h1 : HD} {n b : Int} {pf : Int → Int} (hP : PrC h 0 n b pf) (e : jX4_comeRound 0 0 (iZ n) h = some h1) : jX8_parked h = some h1 := by
  unfold jX8_parked jX2_count
  rw [hP.1, e]
  rfl
theorem p_car {h : HD} (hR : Rel h) (p w : Int32) : PP [2, 1] (jX8_car p w h) (jX9_car p w) := by
  obtain ⟨⟨⟨n, b, pf, nm⟩, hok, hC, hM⟩, -⟩ := id hR
  have ho : PrOk n b pf := hok.1
  have hP : PrC h 0 n b pf := hC.1
  have hQ : PrM h n b pf := hM.pr
  have hn : 0 ≤ n ∧ n ≤ 11 := ⟨ho.1, ho.2.1⟩
  obtain ⟨z, z1, z2, rfl⟩ := iZ_ex p
  obtain ⟨v, v1, v2, rfl⟩ := iZ_ex w
  have hset : ∀ h3, jX9_isIn (iZ v).toInt64 (0 : Int64) (5 : Int64) h3 = decide (0 ≤ v ∧ v ≤ 5) := fun h3 => by
    rw [iZ_j (by omega) (by omega), show (0 : Int64) = jZ 0 from rfl, show (5 : Int64) = jZ 5 from rfl, jZ_is (by omega) (by omega) (by omega) (by omega) (by omega) (by omega)]
  by_cases q : 0 ≤ z ∧ z < n
  · obtain ⟨h1, h2, e1, f1, k1, hP1, e2, F, f2, k2, hQ2, g0, hQ1⟩ := both_parked hP hQ ho ho.1 (Int.le_refl n)
    have a8 : ∀ X, X = jX8_car (iZ z) (iZ v) h → X = (if iZ v = 0 then some (.inr (iZ (pf z)), h1) else if iZ v = 1 then some (.inr (iZ (sp (n + 1) b pf z)), h1) else if iZ v = 2 then some (.inr (iZ (mv (n + 1) b pf z)), h1) else if iZ v = 3 then some (.inr (iZ (b1 (decide (mv (n + 1) b pf z = 0)))), h1) else if iZ v = 4 then some (.inr (iZ (rn n b pf z)), h1) else if iZ v = 5 then some (.inr (iZ (tw n b pf z)), h1) else some (.inl 1, h1)) := by
      intro X hX
      rw [hX]
      unfold jX8_car
      rw [x8_needCar (o := 0) hP hn z1 z2, if_pos q, Option.bind_some]
      show (jX8_parked h).bind _ = _
      rw [parked_of hP e1, Option.bind_some, x2_pref hP1 hn q.1 q.2, x4_spotOf k1.1 hn q.1 q.2, x4_movedOf k1.1 hn q.1 q.2, x4_isLucky k1 ho q.1 q.2, x4_run k1 ho q.1 q.2, x4_turned k1 ho q.1 q.2]
      simp only [Option.bind_some]
      cases decide (mv (n + 1) b pf z = 0) <;> rfl
    by_cases qv : 0 ≤ v ∧ v ≤ 5
    · have a9 : ∀ X, X = jX9_car (iZ z) (iZ v) h1 → X = (if iZ v = 0 then some (iZ (pf z), h2) else if iZ v = 1 then some (iZ (sp (n + 1) b pf z), h2) else if iZ v = 2 then some (iZ (mv (n + 1) b pf z), h2) else if iZ v = 3 then some (iZ (b1 (decide (mv (n + 1) b pf z = 0))), h2) else if iZ v = 4 then some (iZ (rn n b pf z), h2) else some (iZ (tw n b pf z), h2)) := by
        intro X hX
        rw [hX]
        unfold jX9_car
        have hm := mv_in ho.2.2.2.2 ho.2.2.1 q.1 q.2
        rw [x9_isCar (hQ.fr (sPk_scr f1) (fun _ => rfl)) hn z1 z2, decide_eq_true q, Option.bind_some, hset, decide_eq_true qv, x9_both, Option.bind_some, Bool.and_self, if_pos rfl]
        show (jX9_parks (gI (c0 h1 0) (7, 0, 2) 0) (c0 h1 0)).bind _ = _
        rw [hQ1.1, e2, Option.bind_some, x9_wish hQ2 hn q.1 q.2, inB_t (by omega) (by omega) (by omega), if_pos rfl, if_pos rfl, if_pos rfl, iZ_nat (by omega) (by omega), k2.2.1 z q.1 q.2, k2.2.2 z q.1 q.2, x9_truth, x9_truth, x9_run hQ2 k2 ho q.1 q.2, x9_turn hQ2 k2 hn]
        simp only [Option.bind_some]
        rw [x9_twish hQ2 ho q.1 q.2]
        simp only [Option.bind_some]
        by_cases qm : mv (n + 1) b pf z = 0
        · rw [if_pos (show iZ (mv (n + 1) b pf z) = 0 by rw [qm]; rfl), decide_eq_true qm]
        · rw [i0, if_neg (eq_n (a := mv (n + 1) b pf z) (by omega) (by omega) (by omega) (by omega) (by omega)), decide_eq_false qm]
      have cs : v = 0 ∨ v = 1 ∨ v = 2 ∨ v = 3 ∨ v = 4 ∨ v = 5 := by omega
      rcases cs with rfl | rfl | rfl | rfl | rfl | rfl
      · exact PP.ok (v := iZ (pf z)) (h1 := h1) (h2 := h2) (a8 _ rfl) (a9 _ rfl) (hR.fr F) g0
      · exact PP.ok (v := iZ (sp (n + 1) b pf z)) (h1 := h1) (h2 := h2) (a8 _ rfl) (a9 _ rfl) (hR.fr F) g0
      · exact PP.ok (v := iZ (mv (n + 1) b pf z)) (h1 := h1) (h2 := h2) (a8 _ rfl) (a9 _ rfl) (hR.fr F) g0
      · exact PP.ok (v := iZ (b1 (decide (mv (n + 1) b pf z = 0)))) (h1 := h1) (h2 := h2) (a8 _ rfl) (a9 _ rfl) (hR.fr F) g0
      · exact PP.ok (v := iZ (rn n b pf z)) (h1 := h1) (h2 := h2) (a8 _ rfl) (a9 _ rfl) (hR.fr F) g0
      · exact PP.ok (v := iZ (tw n b pf z)) (h1 := h1) (h2 := h2) (a8 _ rfl) (a9 _ rfl) (hR.fr F) g0
    · refine PP.ex (h1 := h1) (h2 := c0 h1 2) (w := 0) 1 (e := 1) ?_ ?_ (hR.fr ((sPk_scr f1).tr (c0_fr h1 2))) rfl (c0_0 _ _)
      · rw [a8 _ rfl, i0, if_neg (eq_n (by omega) (by omega) (by omega) (by omega) (by omega)), i1, if_neg (eq_n (by omega) (by omega) (by omega) (by omega) (by omega)), i2, if_neg (eq_n (by omega) (by omega) (by omega) (by omega) (by omega)), i3, if_neg (eq_n (by omega) (by omega) (by omega) (by omega) (by omega)), i4, if_neg (eq_n (by omega) (by omega) (by omega) (by omega) (by omega)), i5, if_neg (eq_n (by omega) (by omega) (by omega) (by omega) (by omega))]
      · unfold jX9_car
        rw [x9_isCar (hQ.fr (sPk_scr f1) (fun _ => rfl)) hn z1 z2, decide_eq_true q, Option.bind_some, hset, decide_eq_false qv, x9_both]
        rfl
  · refine PP.ex (h1 := h) (h2 := c0 h 1) (w := 0) 0 (e := 2) ?_ ?_ (hR.fr (c0_fr h 1)) rfl (c0_0 _ _)
    · unfold jX8_car
      rw [x8_needCar (o := 0) hP hn z1 z2, if_neg q]; rfl
    · unfold jX9_car
      rw [x9_isCar hQ hn z1 z2, decide_eq_false q, Option.bind_some, x9_both]
      rfl
theorem p_who {h : HD} (hR : Rel h) (p : Int32) : PP [2] (jX8_who p h) (jX9_who p) := by
  obtain ⟨⟨⟨n, b, pf, nm⟩, hok, hC, hM⟩, -⟩ := id hR
  have ho : PrOk n b pf := hok.1
  have hP : PrC h 0 n b pf := hC.1
  have hQ : PrM h n b pf := hM.pr
  have hn : 0 ≤ n ∧ n ≤ 11 := ⟨ho.1, ho.2.1⟩
  obtain ⟨z, z1, z2, rfl⟩ := iZ_ex p
  by_cases q : 0 ≤ z ∧ z ≤ n
  · obtain ⟨h1, h2, e1, f1, k1, hP1, e2, F, f2, k2, hQ2, g0, hQ1⟩ := both_parked hP hQ ho ho.1 (Int.le_refl n)
    refine PP.ok (v := iZ (tkO (n + 1) b pf n z)) (h1 := h1) (h2 := h2) ?_ ?_ (hR.fr F) g0
    · unfold jX8_who
      rw [x8_needSpot hP hn z1 z2, if_pos q, Option.bind_some]
      show (jX8_parked h).bind _ = _
      rw [parked_of hP e1, Option.bind_some, x4_takerOf k1.1.1 (by omega) (by omega) k1.1.2.2.2.2.2.2.2 q.1 (by omega)]
      rfl
    · unfold jX9_who
      rw [x9_isSpot (hQ.fr (sPk_scr f1) (fun _ => rfl)) hn z1 z2, decide_eq_true q, Option.bind_some, x9_goes, Option.bind_some, if_pos rfl]
      show (jX9_parks (gI (c0 h1 0) (7, 0, 2) 0) (c0 h1 0)).bind _ = _
      rw [hQ1.1, e2, Option.bind_some, inB_t (by omega) (by omega) (by omega), if_pos rfl, iZ_nat (by omega) (by omega), k2.1 z q.1 (by omega)]
  · refine PP.ex (h1 := h) (h2 := c0 h 1) (w := 0) 0 (e := 2) ?_ ?_ (hR.fr (c0_fr h 1)) rfl (c0_0 _ _)
    · unfold jX8_who
      rw [x8_needSpot hP hn z1 z2, if_neg q]; rfl
    · unfold jX9_who
      rw [x9_isSpot hQ hn z1 z2, decide_eq_false q, Option.bind_some, x9_goes]
      rfl
/-- a method of the class that changes nothing -/
def nh {τ : Type} (h : HD) (X : Option τ) : Option (τ × HD) := X.map (fun r => (r, h))
theorem p_wanted {h : HD} (hR : Rel h) (p : Int32) : PP [2] (nh h (jX8_wanted p h)) (jX9_wanted p) := by
  obtain ⟨⟨⟨n, b, pf, nm⟩, hok, hC, hM⟩, -⟩ := id hR
  have ho : PrOk n b pf := hok.1
  have hP : PrC h 0 n b pf := hC.1
  have hQ : PrM h n b pf := hM.pr
  have hn : 0 ≤ n ∧ n ≤ 11 := ⟨ho.1, ho.2.1⟩
  obtain ⟨z, z1, z2, rfl⟩ := iZ_ex p
  by_cases q : 0 ≤ z ∧ z ≤ n
  · refine PP.ok (v := iZ (wsN n pf z)) (h1 := h) (h2 := c0 h 0) ?_ ?_ (hR.fr (c0_fr h 0)) (c0_0 _ _)
    · unfold jX8_wanted nh
      rw [x8_needSpot hP hn z1 z2, if_pos q, Option.bind_some]
      show Option.map _ ((jX2_wishesFor 0 (iZ z) h).bind _) = _
      rw [x2_wishes hP ho (by omega) (by omega)]
      rfl
    · unfold jX9_wanted
      rw [x9_isSpot hQ hn z1 z2, decide_eq_true q, Option.bind_some, x9_goes, Option.bind_some, if_pos rfl]
      show (jX9_wants (iZ z) (c0 h 0)).bind _ = _
      rw [x9_wants (hQ.c0 0) ho (by omega) (by omega)]
      rfl
  · refine PP.ex (h1 := h) (h2 := c0 h 1) (w := 0) 0 (e := 2) ?_ ?_ (hR.fr (c0_fr h 1)) rfl (c0_0 _ _)
    · unfold jX8_wanted nh
      rw [x8_needSpot hP hn z1 z2, if_neg q]; rfl
    · unfold jX9_wanted
      rw [x9_isSpot hQ hn z1 z2, decide_eq_false q, Option.bind_some, x9_goes]
      rfl
/-- RANK -/
def rkN (n : Int) (pf : Int → Int) (z : Int) : Int := sm_ (fun c => b1 (decide (pf c < pf z ∨ (pf c = pf z ∧ c < z)))) n
theorem rkN_in {n : Int} {pf : Int → Int} (hn : 0 ≤ n) (z : Int) : 0 ≤ rkN n pf z ∧ rkN n pf z ≤ n := by
  have := sm_bound (f := fun c => b1 (decide (pf c < pf z ∨ (pf c = pf z ∧ c < z)))) (m := 1) hn (fun c _ _ => b1_in _)
  unfold rkN; omega
section
variable {h : HD} {n b : Int} {pf : Int → Int}
theorem x2_rank {o : Nat} (hR : PrC h o n b pf) (ho : PrOk n b pf) {z : Int} (h1 : 0 ≤ z) (h2 : z < n) : jX2_rankOf o (iZ z) h = some (iZ (rkN n pf z)) := by
  have hn := ho.2.1
  have hn0 := ho.1
  have hz := ho.2.2.2.2 z h1 h2
  unfold jX2_rankOf
  rw [x2_hasCar hR.1 ⟨hn0, hn⟩ (by omega) (by omega), decide_eq_true ⟨h1, h2⟩, if_pos rfl, inB_t (by omega) (by omega) (by omega), if_pos rfl, iZ_nat (by omega) (by omega), hR.2.2 z h1 h2]
  refine loopN (fun f (x : Int32 × Int32) => jX2_rankOf_L22 o (iZ z) (iZ (pf z)) h f x.1 x.2) (fun y => (iZ (sm_ (fun c => b1 (decide (pf c < pf z ∨ (pf c = pf z ∧ c < z)))) y), iZ y)) (a := 0) (b := n) hn0 (fun f y q1 q2 => ?_) (fun f => ?_) FU (FU_gt (by omega))
  · show jX2_rankOf_L22 o (iZ z) (iZ (pf z)) h (f + 1) _ (iZ y) = jX2_rankOf_L22 o (iZ z) (iZ (pf z)) h f _ _
    have hy := ho.2.2.2.2 y q1 q2
    rw [jX2_rankOf_L22, hR.1, if_neg (le_n (by omega) (by omega) (by omega)), i11, if_neg (le_n (by omega) (by omega) (by omega)), inB_t (by omega) (by omega) (by omega), if_pos rfl, if_pos rfl, iZ_nat (by omega) (by omega), hR.2.2 y q1 q2, sm_s _ q1, i1, iZ_add, iZ_add]
    by_cases c1 : pf y < pf z
    · rw [if_pos (lt_y (by omega) (by omega) (by omega)), decide_eq_true (Or.inl c1)]; rfl
    · rw [if_neg (lt_n (by omega) (by omega) (by omega))]
      by_cases c2 : pf y = pf z
      · rw [if_pos (by rw [c2])]
        by_cases c3 : y < z
        · rw [if_neg (le_n (by omega) (by omega) (by omega)), decide_eq_true (Or.inr ⟨c2, c3⟩)]; rfl
        · rw [if_pos (le_y (by omega) (by omega) (by omega)), decide_eq_false (by omega), show b1 false = 0 from rfl, Int.add_zero]
      · rw [if_neg (eq_n (by omega) (by omega) (by omega) (by omega) (by omega)), decide_eq_false (by omega), show b1 false = 0 from rfl, Int.add_zero]
  · show jX2_rankOf_L22 o (iZ z) (iZ (pf z)) h (f + 1) _ (iZ n) = _
    rw [jX2_rankOf_L22, hR.1, if_pos (le_y (by omega) (by omega) (by omega))]
    rfl
theorem x9_rank (hR : PrM h n b pf) (ho : PrOk n b pf) {z : Int} (h1 : 0 ≤ z) (h2 : z < n) : jX9_rankOf (iZ z) h = some (iZ (rkN n pf z)) := by
  have hn := ho.2.1
  have hn0 := ho.1
  have hz := ho.2.2.2.2 z h1 h2
  refine loopN (fun f (x : Int32 × Int32) => jX9_rankOf_L4 (iZ z) h f x.1 x.2) (fun y => (iZ (sm_ (fun c => b1 (decide (pf c < pf z ∨ (pf c = pf z ∧ c < z)))) y), iZ y)) (a := 0) (b := n) hn0 (fun f y q1 q2 => ?_) (fun f => ?_) FU (FU_gt (by omega))
  · show jX9_rankOf_L4 (iZ z) h (f + 1) _ (iZ y) = jX9_rankOf_L4 (iZ z) h f _ _
    have hy := ho.2.2.2.2 y q1 q2
    rw [jX9_rankOf_L4, hR.1, if_neg (le_n (by omega) (by omega) (by omega)), x9_wish hR ⟨hn0, hn⟩ q1 q2, x9_wish hR ⟨hn0, hn⟩ h1 h2]
    simp only [Option.bind_some]
    rw [x9_truth, x9_truth, sm_s _ q1, i1, iZ_add, iZ_add, iZ_add]
    by_cases c1 : pf y < pf z
    · rw [if_pos (lt_y (by omega) (by omega) (by omega)), decide_eq_true (Or.inl c1)]
    · rw [if_neg (lt_n (by omega) (by omega) (by omega))]
      by_cases c2 : pf y = pf z
      · rw [if_pos (by rw [c2])]
        by_cases c3 : y < z
        · rw [if_neg (le_n (by omega) (by omega) (by omega)), decide_eq_true (Or.inr ⟨c2, c3⟩)]
        · rw [if_pos (le_y (by omega) (by omega) (by omega)), decide_eq_false (by omega)]
      · rw [if_neg (eq_n (by omega) (by omega) (by omega) (by omega) (by omega)), decide_eq_false (by omega)]
  · show jX9_rankOf_L4 (iZ z) h (f + 1) _ (iZ n) = _
    rw [jX9_rankOf_L4, hR.1, if_pos (le_y (by omega) (by omega) (by omega))]
    rfl
/-- the first car of which P holds; -1 if of none -/
def fcar (P : Int → Bool) (n : Int) : Int := if fnd P n.toNat 0 < n then fnd P n.toNat 0 else -1
end
theorem p_ranked {h : HD} (hR : Rel h) (w : Int32) : PV (nh h (jX8_ranked w h)) (jX9_ranked w) := by
  obtain ⟨⟨⟨n, b, pf, nm⟩, hok, hC, hM⟩, -⟩ := id hR
  have ho : PrOk n b pf := hok.1
  have hP : PrC h 0 n b pf := hC.1
  have hQ : PrM (c0 h 0) n b pf := hM.pr.c0 0
  have hn := ho.2.1
  have hn0 := ho.1
  obtain ⟨g, hg⟩ : ∃ g, fnd (fun c => decide (iZ (rkN n pf c) = w)) n.toNat 0 = g := ⟨_, rfl⟩
  have g1 := fnd_ge (fun c => decide (iZ (rkN n pf c) = w)) n.toNat 0
  have g2 : ∀ z, 0 ≤ z → z < g → ¬ iZ (rkN n pf z) = w := fun z q1 q2 => of_decide_eq_false (fnd_not (fun c => decide (iZ (rkN n pf c) = w)) n.toNat 0 z q1 (by omega))
  have g3 : g < n → iZ (rkN n pf g) = w := fun q => by
    have := fnd_is (fun c => decide (iZ (rkN n pf c) = w)) n.toNat 0 (by omega)
    rw [hg] at this
    exact of_decide_eq_true this
  refine ⟨iZ (if g < n then g else -1), h, c0 h 0, ?_, ?_, hR.fr (c0_fr h 0)⟩
  · have : jX8_ranked w h = some (iZ (if g < n then g else -1)) := by
      unfold jX8_ranked
      rw [i0]
      refine loopN (fun f (x : Int32) => jX8_ranked_L2 w h f x) iZ (a := 0) (b := g) (by omega) (fun f z q1 q2 => ?_) (fun f => ?_) FU (FU_gt (by omega))
      · show jX8_ranked_L2 w h (f + 1) (iZ z) = _
        rw [jX8_ranked_L2]
        unfold jX2_count
        rw [hP.1, if_neg (le_n (by omega) (by omega) (by omega)), x2_rank hP ho q1 (by omega), Option.bind_some, if_neg (g2 z q1 q2), i1, iZ_add]
      · show jX8_ranked_L2 w h (f + 1) (iZ g) = _
        rw [jX8_ranked_L2]
        unfold jX2_count
        rw [hP.1]
        by_cases q : g < n
        · rw [if_neg (le_n (by omega) (by omega) (by omega)), x2_rank hP ho (by omega) q, Option.bind_some, if_pos (g3 q), if_pos q]
        · rw [if_pos (le_y (by omega) (by omega) (by omega)), if_neg q]; rfl
    unfold nh
    rw [this]
    rfl
  · unfold jX9_ranked
    rw [lt_eq, c0_def, i0]
    refine loopN (fun f (x : Int32) => jX9_ranked_L7 w (c0 h 0) f x) iZ (a := 0) (b := g) (by omega) (fun f z q1 q2 => ?_) (fun f => ?_) FU (FU_gt (by omega))
    · show jX9_ranked_L7 w (c0 h 0) (f + 1) (iZ z) = _
      rw [jX9_ranked_L7, hQ.1, if_neg (le_n (by omega) (by omega) (by omega)), x9_rank hQ ho q1 (by omega), Option.bind_some, if_neg (g2 z q1 q2), i1, iZ_add]
    · show jX9_ranked_L7 w (c0 h 0) (f + 1) (iZ g) = _
      rw [jX9_ranked_L7, hQ.1]
      by_cases q : g < n
      · rw [if_neg (le_n (by omega) (by omega) (by omega)), x9_rank hQ ho (by omega) q, Option.bind_some, if_pos (g3 q), if_pos q]
      · rw [if_pos (le_y (by omega) (by omega) (by omega)), if_neg q]; rfl
theorem both_line {h : HD} {n b : Int} {pf : Int → Int} (hP : PrC h 0 n b pf) (hQ : PrM h n b pf) (ho : PrOk n b pf) : ∃ h1 h2, ((jX8_parked h).bind fun q3 => jX4_comeInLine 1 0 q3) = some h1 ∧ Pk h1 0 n b pf n ∧ PrC h1 0 n b pf ∧ PkC h1 1 n b 0 (tw n b pf) (tL n b pf n) (mv (n + 1) b pf) (fun c => tw n b pf c + mv (n + 1) b pf c) n ∧ PrM h1 n b pf ∧ jX9_parksByLine (c0 h1 0) = some h2 ∧ Fr scr h h2 ∧ PkM h2 n b pf n ∧ IsA h2 (7, 0, 17) n (sp (n + 1) b pf) ∧ PrM h2 n b pf ∧ gI h2 (7, 0, 0) 0 = iZ 0 := by
  obtain ⟨h0, e0, f0, k0⟩ := x8_parked hP ho
  obtain ⟨h1, e1, f1, k1⟩ := x4_line k0 ho
  have s0 : ∀ j k, sPk 1 (2, 0, j) k = false := fun j k => decide_eq_false (fun e => by have := e.2; simp at this)
  have kk : Pk h1 0 n b pf n := ⟨⟨(f1.1 _ _ (s0 _ _)).trans k0.1.1, (f1.1 _ _ (s0 _ _)).trans k0.1.2.1, (f1.1 _ _ (s0 _ _)).trans k0.1.2.2.1, (f1.1 _ _ (s0 _ _)).trans k0.1.2.2.2.1, k0.1.2.2.2.2.1.fr f1 (s0 _), k0.1.2.2.2.2.2.1.fr f1 (s0 _), k0.1.2.2.2.2.2.2.1.fr f1 (s0 _), k0.1.2.2.2.2.2.2.2.fr f1 (s0 _)⟩, (f1.1 _ _ (s0 _ _)).trans k0.2⟩
  have F1 : Fr scr h h1 := (sPk_scr f0).tr (sPk_scr f1)
  have hQ1 : PrM h1 n b pf := hQ.fr F1 (fun _ => rfl)
  obtain ⟨h2, e2, f2, k2, l2⟩ := x9_line (hQ1.c0 0) ho
  refine ⟨h1, h2, by rw [e0]; exact e1, kk, hP.fr F1 (scr_1 (by decide)), k1, hQ1, e2, (F1.tr (c0_fr h1 0)).tr (sPl_scr f2), k2, l2, (hQ1.c0 0).fr f2 (fun _ => rfl), by rw [f2.1 _ _ rfl]; exact c0_0 _ _⟩
theorem bind_a {α β γ : Type} (x : Option α) (f : α → Option β) (g : β → Option γ) : (x.bind fun a => (f a).bind g) = (x.bind f).bind g := by cases x <;> rfl
theorem p_spotByLine {h : HD} (hR : Rel h) (p : Int32) : PP [2] (jX8_spotByLine p h) (jX9_spotByLine p) := by
  obtain ⟨⟨⟨n, b, pf, nm⟩, hok, hC, hM⟩, -⟩ := id hR
  have ho : PrOk n b pf := hok.1
  have hP : PrC h 0 n b pf := hC.1
  have hQ : PrM h n b pf := hM.pr
  have hn : 0 ≤ n ∧ n ≤ 11 := ⟨ho.1, ho.2.1⟩
  obtain ⟨z, z1, z2, rfl⟩ := iZ_ex p
  by_cases q : 0 ≤ z ∧ z < n
  · obtain ⟨h1, h2, e1, k1, hP1, l1, hQ1, e2, F, k2, l2, hQ2, g0⟩ := both_line hP hQ ho
    refine PP.ok (v := iZ (sp (n + 1) b pf z)) (h1 := h1) (h2 := h2) ?_ ?_ (hR.fr F) g0
    · unfold jX8_spotByLine
      rw [x8_needCar (o := 0) hP hn z1 z2, if_pos q, Option.bind_some]
      show ((jX8_parked h).bind fun q3 => (jX4_comeInLine 1 0 q3).bind _) = _
      rw [bind_a, e1, Option.bind_some, x8_spotInLine hP1 k1 ho l1 q.1 q.2]
      rfl
    · unfold jX9_spotByLine
      rw [x9_isCar hQ1 hn z1 z2, decide_eq_true q, Option.bind_some, x9_goes, Option.bind_some, if_pos rfl]
      show (jX9_parksByLine (c0 h1 0)).bind _ = _
      rw [e2, Option.bind_some, inB_t (by omega) (by omega) (by omega), if_pos rfl, iZ_nat (by omega) (by omega), l2 z q.1 q.2]
  · refine PP.ex (h1 := h) (h2 := c0 h 1) (w := 0) 0 (e := 2) ?_ ?_ (hR.fr (c0_fr h 1)) rfl (c0_0 _ _)
    · unfold jX8_spotByLine
      rw [x8_needCar (o := 0) hP hn z1 z2, if_neg q]; rfl
    · unfold jX9_spotByLine
      rw [x9_isCar hQ hn z1 z2, decide_eq_false q, Option.bind_some, x9_goes]
      rfl
/-- the AREA the second way -/
def alN (n b : Int) (pf : Int → Int) : Int := n * (n - 1) / 2 - sm_ (tw n b pf) n
section
variable {h : HD} {n b : Int} {pf : Int → Int}
theorem half_in (hn : 0 ≤ n ∧ n ≤ 11) : 0 ≤ n * (n - 1) ∧ n * (n - 1) ≤ 110 := by
  have h1 : n * (n - 1) ≤ 11 * (n - 1) ∨ n = 0 := by
    by_cases q : n = 0
    · exact Or.inr q
    · exact Or.inl (Int.mul_le_mul_of_nonneg_right hn.2 (by omega))
  by_cases q : n = 0
  · rw [q]; decide
  · have h2 : 0 ≤ n * (n - 1) := Int.mul_nonneg hn.1 (by omega)
    omega
theorem x4_areaBy (hK : Pk h 0 n b pf n) (ho : PrOk n b pf) : jX4_areaByPreferences 0 h = some (iZ (alN n b pf)) := by
  have hn := ho.2.1
  have hn0 := ho.1
  have h7 := hK.1.2.2.2.1
  have hh := half_in (n := n) ⟨hn0, hn⟩
  unfold jX4_areaByPreferences
  rw [h7, i1, iZ_sub, iZ_mul, i2, iZ_div hh.1 (by omega) (by decide) (by decide)]
  have e0 : n * (n - 1) / 2 = n * (n - 1) / 2 - sm_ (tw n b pf) 0 := by rw [sm_0, Int.sub_zero]
  rw [e0, i0]
  refine loopN (fun f (x : Int32 × Int32) => jX4_areaByPreferences_L16 0 h f x.1 x.2) (fun z => (iZ (n * (n - 1) / 2 - sm_ (tw n b pf) z), iZ z)) (a := 0) (b := n) hn0 (fun f z q1 q2 => ?_) (fun f => ?_) FU (FU_gt (by omega))
  · show jX4_areaByPreferences_L16 0 h (f + 1) _ (iZ z) = jX4_areaByPreferences_L16 0 h f _ _
    rw [jX4_areaByPreferences_L16, h7, if_neg (le_n (by omega) (by omega) (by omega)), x4_turned hK ho q1 q2, Option.bind_some, sm_s _ q1, i1, iZ_add, iZ_sub, Int.sub_sub]
  · show jX4_areaByPreferences_L16 0 h (f + 1) _ (iZ n) = _
    rw [jX4_areaByPreferences_L16, h7, if_pos (le_y (by omega) (by omega) (by omega))]
    rfl
end
