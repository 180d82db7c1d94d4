/-! COUNTS, MEANS, ACCOUNTS -/
theorem p_fibre {h : HD} (hR : Rel h) : PV (jX8_fibre h) jX9_fibre := by
  obtain ⟨⟨⟨n, b, pf, nm⟩, hok, hC, hM⟩, -⟩ := id hR
  have ho : PrOk n b pf := hok.1
  have hP : PrC h 0 n b pf := hC.1
  have hQ : PrM h n b pf := hM.pr
  have hn : 0 ≤ n ∧ n ≤ 11 := ⟨ho.1, ho.2.1⟩
  obtain ⟨h1, h2, e1, f1, k1, hP1, e2, F, f2, k2, hQ2, g0, hQ1⟩ := both_parked hP hQ ho ho.1 (Int.le_refl n)
  refine ⟨itr (fun c p => p * jZ (rn n b pf c)) 1 n, h1, h2, ?_, ?_, hR.fr F⟩
  · unfold jX8_fibre
    rw [parked_of hP e1, Option.bind_some, i0]
    refine loopN (fun f (x : Int64 × Int32) => jX8_fibre_L10 h1 f x.1 x.2) (fun z => (itr (fun c p => p * jZ (rn n b pf c)) 1 z, iZ z)) (a := 0) (b := n) hn.1 (fun f z q1 q2 => ?_) (fun f => ?_) FU (FU_gt (by omega))
    · show jX8_fibre_L10 h1 (f + 1) _ (iZ z) = jX8_fibre_L10 h1 f _ _
      have hr := rn_in (b := b) (pf := pf) hn.1 z
      rw [jX8_fibre_L10]
      unfold jX2_count
      rw [hP1.1, if_neg (le_n (by omega) (by omega) (by omega)), x4_run k1 ho q1 q2, Option.bind_some, iZ_j (by omega) (by omega), itr_s _ _ q1, i1, iZ_add]
    · show jX8_fibre_L10 h1 (f + 1) _ (iZ n) = _
      rw [jX8_fibre_L10]
      unfold jX2_count
      rw [hP1.1, if_pos (le_y (by omega) (by omega) (by omega))]
  · unfold jX9_fibre
    rw [lt_eq, c0_def, hQ1.1, e2, Option.bind_some, i0]
    refine loopN (fun f (x : Int64 × Int32) => jX9_fibre_L19 h2 f x.1 x.2) (fun z => (itr (fun c p => p * jZ (rn n b pf c)) 1 z, iZ z)) (a := 0) (b := n) hn.1 (fun f z q1 q2 => ?_) (fun f => ?_) FU (FU_gt (by omega))
    · show jX9_fibre_L19 h2 (f + 1) _ (iZ z) = jX9_fibre_L19 h2 f _ _
      have hr := rn_in (b := b) (pf := pf) hn.1 z
      rw [jX9_fibre_L19, hQ2.1, if_neg (le_n (by omega) (by omega) (by omega)), x9_run hQ2 k2 ho q1 q2, Option.bind_some, iZ_j (by omega) (by omega), itr_s _ _ q1, i1, iZ_add]
    · show jX9_fibre_L19 h2 (f + 1) _ (iZ n) = _
      rw [jX9_fibre_L19, hQ2.1, if_pos (le_y (by omega) (by omega) (by omega))]
/-- n! -/
def fcN (n : Int) : Int64 := itr (fun c p => p * jZ (c + 2)) 1 (n - 1)
theorem x8_fact (h : HD) {n : Int} (h1 : 0 ≤ n) (h2 : n ≤ 20) : jX8_factorial (iZ n) h = some (fcN n) := by
  obtain ⟨e, he⟩ : ∃ e, e = if n < 2 then 2 else n + 1 := ⟨_, rfl⟩
  have e1 : 2 ≤ e ∧ e ≤ 100 ∧ n < e ∧ ∀ z, 2 ≤ z → z < e → z ≤ n := by rw [he]; split <;> exact ⟨by omega, by omega, by omega, fun z _ _ => by omega⟩
  have e2 : itr (fun c p => p * jZ (c + 2)) (1 : Int64) (e - 2) = fcN n := by
    unfold fcN itr
    rw [show (e - 2).toNat = (n - 1).toNat by rw [he]; split <;> omega]
  unfold jX8_factorial
  rw [i2, ← e2]
  have e0 : (1 : Int64) = itr (fun c p => p * jZ (c + 2)) (1 : Int64) (2 - 2) := rfl
  suffices hh : jX8_factorial_L4 (iZ n) h FU (itr (fun c p => p * jZ (c + 2)) (1 : Int64) (2 - 2)) (iZ 2) = some (itr (fun c p => p * jZ (c + 2)) (1 : Int64) (e - 2)) from hh
  refine loopN (fun f (x : Int64 × Int32) => jX8_factorial_L4 (iZ n) h f x.1 x.2) (fun z => (itr (fun c p => p * jZ (c + 2)) (1 : Int64) (z - 2), iZ z)) (a := 2) (b := e) e1.1 (fun f z q1 q2 => ?_) (fun f => ?_) FU (FU_gt (by omega))
  · show jX8_factorial_L4 (iZ n) h (f + 1) _ (iZ z) = jX8_factorial_L4 (iZ n) h f _ _
    have := e1.2.2.2 z q1 q2
    rw [jX8_factorial_L4, if_neg (lt_n (by omega) (by omega) (by omega)), iZ_j (by omega) (by omega), show z + 1 - 2 = (z - 2) + 1 by omega, itr_s _ _ (show 0 ≤ z - 2 by omega), i1, iZ_add, show z - 2 + 2 = z by omega]
  · show jX8_factorial_L4 (iZ n) h (f + 1) _ (iZ e) = _
    rw [jX8_factorial_L4, if_pos (lt_y (by omega) (by omega) (by omega))]
theorem x9_fact (h : HD) {n : Int} (h1 : 0 ≤ n) (h2 : n ≤ 20) : jX9_factorial (iZ n) h = some (fcN n) := by
  obtain ⟨e, he⟩ : ∃ e, e = if n < 2 then 2 else n + 1 := ⟨_, rfl⟩
  have e1 : 2 ≤ e ∧ e ≤ 100 ∧ n < e ∧ ∀ z, 2 ≤ z → z < e → z ≤ n := by rw [he]; split <;> exact ⟨by omega, by omega, by omega, fun z _ _ => by omega⟩
  have e2 : itr (fun c p => p * jZ (c + 2)) (1 : Int64) (e - 2) = fcN n := by
    unfold fcN itr
    rw [show (e - 2).toNat = (n - 1).toNat by rw [he]; split <;> omega]
  unfold jX9_factorial
  rw [i2, ← e2]
  suffices hh : jX9_factorial_L4 (iZ n) h FU (itr (fun c p => p * jZ (c + 2)) (1 : Int64) (2 - 2)) (iZ 2) = some (itr (fun c p => p * jZ (c + 2)) (1 : Int64) (e - 2)) from hh
  refine loopN (fun f (x : Int64 × Int32) => jX9_factorial_L4 (iZ n) h f x.1 x.2) (fun z => (itr (fun c p => p * jZ (c + 2)) (1 : Int64) (z - 2), iZ z)) (a := 2) (b := e) e1.1 (fun f z q1 q2 => ?_) (fun f => ?_) FU (FU_gt (by omega))
  · show jX9_factorial_L4 (iZ n) h (f + 1) _ (iZ z) = jX9_factorial_L4 (iZ n) h f _ _
    have := e1.2.2.2 z q1 q2
    rw [jX9_factorial_L4, if_neg (lt_n (by omega) (by omega) (by omega)), iZ_j (by omega) (by omega), show z + 1 - 2 = (z - 2) + 1 by omega, itr_s _ _ (show 0 ≤ z - 2 by omega), i1, iZ_add, show z - 2 + 2 = z by omega]
  · show jX9_factorial_L4 (iZ n) h (f + 1) _ (iZ e) = _
    rw [jX9_factorial_L4, if_pos (lt_y (by omega) (by omega) (by omega))]
theorem fc_all : ∀ k : Nat, k < 12 → (decide (fcN (k : Int) = 0) = false ∧ (decide (lg_cmp (fcN (k : Int)) 1 ≤ 0) = true → fcN (k : Int) = 1)) := by decide +kernel
theorem fc_ok {n : Int} (h1 : 0 ≤ n) (h2 : n ≤ 11) : fcN n ≠ 0 ∧ (lg_cmp (fcN n) 1 ≤ 0 → fcN n = 1) := by
  have := fc_all n.toNat (by omega)
  rw [show ((n.toNat : Nat) : Int) = n by omega] at this
  exact ⟨of_decide_eq_false this.1, fun q => this.2 (decide_eq_true q)⟩
theorem p_arrangements {h : HD} (hR : Rel h) : PV (nh h (jX8_arrangements h)) jX9_arrangements := by
  obtain ⟨⟨⟨n, b, pf, nm⟩, hok, hC, hM⟩, -⟩ := id hR
  have ho : PrOk n b pf := hok.1
  have hP : PrC h 0 n b pf := hC.1
  have hQ : PrM (c0 h 0) n b pf := hM.pr.c0 0
  have hn : 0 ≤ n ∧ n ≤ 11 := ⟨ho.1, ho.2.1⟩
  have hw := fun s => wsN_in (n := n) (pf := pf) (s := s) hn.1
  refine ⟨itr (fun s p => p / fcN (wsN n pf s)) (fcN n) (n + 1), h, c0 h 0, ?_, ?_, hR.fr (c0_fr h 0)⟩
  · have : jX8_arrangements h = some (itr (fun s p => p / fcN (wsN n pf s)) (fcN n) (n + 1)) := by
      unfold jX8_arrangements jX2_count
      rw [hP.1, x8_fact h hn.1 (by omega), Option.bind_some, i0]
      refine loopN (fun f (x : Int64 × Int32) => jX8_arrangements_L13 h f x.1 x.2) (fun z => (itr (fun s p => p / fcN (wsN n pf s)) (fcN n) z, iZ z)) (a := 0) (b := n + 1) (by omega) (fun f z q1 q2 => ?_) (fun f => ?_) FU (FU_gt (by omega))
      · show jX8_arrangements_L13 h (f + 1) _ (iZ z) = jX8_arrangements_L13 h f _ _
        have hwz := hw z
        have hfc := fc_ok hwz.1 (by omega)
        rw [jX8_arrangements_L13]
        unfold jX2_spots
        rw [hP.1, i1, iZ_add, if_neg (le_n (by omega) (by omega) (by omega)), x2_wishes hP ho (by omega) (by omega), Option.bind_some, x8_fact h hwz.1 (by omega), Option.bind_some, itr_s _ _ q1, iZ_add]
        by_cases q : lg_cmp (fcN (wsN n pf z)) 1 ≤ 0
        · rw [if_pos q, hfc.2 q, Int64.div_one]
        · rw [if_neg q, if_neg hfc.1]
      · show jX8_arrangements_L13 h (f + 1) _ (iZ (n + 1)) = _
        rw [jX8_arrangements_L13]
        unfold jX2_spots
        rw [hP.1, i1, iZ_add, if_pos (le_y (by omega) (by omega) (by omega))]
    unfold nh
    rw [this]
    rfl
  · unfold jX9_arrangements
    rw [lt_eq, c0_def, hQ.1, x9_fact _ hn.1 (by omega), Option.bind_some, i0]
    refine loopN (fun f (x : Int64 × Int32) => jX9_arrangements_L17 (c0 h 0) f x.1 x.2) (fun z => (itr (fun s p => p / fcN (wsN n pf s)) (fcN n) z, iZ z)) (a := 0) (b := n + 1) (by omega) (fun f z q1 q2 => ?_) (fun f => ?_) FU (FU_gt (by omega))
    · show jX9_arrangements_L17 (c0 h 0) (f + 1) _ (iZ z) = jX9_arrangements_L17 (c0 h 0) f _ _
      have hwz := hw z
      have hfc := fc_ok hwz.1 (by omega)
      rw [jX9_arrangements_L17, x9_spots hQ, Option.bind_some, if_neg (le_n (by omega) (by omega) (by omega)), x9_wants hQ ho (by omega) (by omega), Option.bind_some, x9_fact _ hwz.1 (by omega), Option.bind_some, if_neg hfc.1, itr_s _ _ q1, i1, iZ_add]
    · show jX9_arrangements_L17 (c0 h 0) (f + 1) _ (iZ (n + 1)) = _
      rw [jX9_arrangements_L17, x9_spots hQ, Option.bind_some, if_pos (le_y (by omega) (by omega) (by omega))]
theorem p_all {h : HD} (hR : Rel h) : PV (nh h (jX8_all h)) jX9_all := by
  obtain ⟨⟨⟨n, b, pf, nm⟩, hok, hC, hM⟩, -⟩ := id hR
  have ho : PrOk n b pf := hok.1
  have hP : PrC h 0 n b pf := hC.1
  have hQ : PrM (c0 h 0) n b pf := hM.pr.c0 0
  have hn : 0 ≤ n ∧ n ≤ 11 := ⟨ho.1, ho.2.1⟩
  obtain ⟨e, he⟩ : ∃ e, e = if n < 1 then 1 else n := ⟨_, rfl⟩
  have e1 : 1 ≤ e ∧ e ≤ 11 ∧ n ≤ e ∧ ∀ z, 1 ≤ z → z < e → z < n := by rw [he]; split <;> exact ⟨by omega, by omega, by omega, fun z _ _ => by omega⟩
  refine ⟨itr (fun _ p => p * jZ (n + 1)) 1 (e - 1), h, c0 h 0, ?_, ?_, hR.fr (c0_fr h 0)⟩
  · have : jX8_all h = some (itr (fun _ p => p * jZ (n + 1)) 1 (e - 1)) := by
      unfold jX8_all
      suffices hh : jX8_all_L4 h FU (itr (fun _ p => p * jZ (n + 1)) 1 (1 - 1)) (iZ 1) = some (itr (fun _ p => p * jZ (n + 1)) 1 (e - 1)) from hh
      refine loopN (fun f (x : Int64 × Int32) => jX8_all_L4 h f x.1 x.2) (fun z => (itr (fun _ p => p * jZ (n + 1)) 1 (z - 1), iZ z)) (a := 1) (b := e) e1.1 (fun f z q1 q2 => ?_) (fun f => ?_) FU (FU_gt (by omega))
      · show jX8_all_L4 h (f + 1) _ (iZ z) = jX8_all_L4 h f _ _
        have := e1.2.2.2 z q1 q2
        rw [jX8_all_L4]
        unfold jX2_count jX2_spots
        rw [hP.1, if_neg (le_n (by omega) (by omega) (by omega)), i1, iZ_add, iZ_add, iZ_j (by omega) (by omega), show z + 1 - 1 = (z - 1) + 1 by omega, itr_s _ _ (show 0 ≤ z - 1 by omega)]
      · show jX8_all_L4 h (f + 1) _ (iZ e) = _
        rw [jX8_all_L4]
        unfold jX2_count
        rw [hP.1, if_pos (le_y (by omega) (by omega) (by omega))]
    unfold nh
    rw [this]
    rfl
  · unfold jX9_all
    rw [lt_eq, c0_def]
    suffices hh : jX9_all_L9 (c0 h 0) FU (itr (fun _ p => p * jZ (n + 1)) 1 (1 - 1)) (iZ 1) = some (itr (fun _ p => p * jZ (n + 1)) 1 (e - 1), c0 h 0) from hh
    refine loopN (fun f (x : Int64 × Int32) => jX9_all_L9 (c0 h 0) f x.1 x.2) (fun z => (itr (fun _ p => p * jZ (n + 1)) 1 (z - 1), iZ z)) (a := 1) (b := e) e1.1 (fun f z q1 q2 => ?_) (fun f => ?_) FU (FU_gt (by omega))
    · show jX9_all_L9 (c0 h 0) (f + 1) _ (iZ z) = jX9_all_L9 (c0 h 0) f _ _
      have := e1.2.2.2 z q1 q2
      rw [jX9_all_L9, hQ.1, if_neg (le_n (by omega) (by omega) (by omega)), x9_spots hQ, Option.bind_some, i1, iZ_add, iZ_j (by omega) (by omega), show z + 1 - 1 = (z - 1) + 1 by omega, itr_s _ _ (show 0 ≤ z - 1 by omega)]
    · show jX9_all_L9 (c0 h 0) (f + 1) _ (iZ e) = _
      rw [jX9_all_L9, hQ.1, if_pos (le_y (by omega) (by omega) (by omega))]
theorem sm_add (f g : Int → Int) {z : Int} (hz : 0 ≤ z) : sm_ (fun c => f c + g c) z = sm_ f z + sm_ g z := by
  refine ind_Z (P := fun y => sm_ (fun c => f c + g c) y = sm_ f y + sm_ g y) rfl (fun y h1 _ ih => ?_) hz
  rw [sm_s _ h1, sm_s _ h1, sm_s _ h1, ih]; omega
/-- pairs, by the second or by the first one -/
theorem sm_pairs (F : Int → Int → Int) {n : Int} (hn : 0 ≤ n) : sm_ (fun s => sm_ (fun f => F f s) s) n = sm_ (fun a => sm_ (fun i => F a (a + 1 + i)) (n - 1 - a)) n := by
  refine ind_Z (P := fun n => sm_ (fun s => sm_ (fun f => F f s) s) n = sm_ (fun a => sm_ (fun i => F a (a + 1 + i)) (n - 1 - a)) n) rfl (fun y h1 _ ih => ?_) hn
  rw [sm_s _ h1, sm_s _ h1, ih, show y + 1 - 1 - y = 0 by omega, sm_0, Int.add_zero, ← sm_add _ _ h1]
  refine sm_congr (fun c q1 q2 => ?_)
  rw [show y + 1 - 1 - c = (y - 1 - c) + 1 by omega, sm_s _ (show 0 ≤ y - 1 - c by omega), show c + 1 + (y - 1 - c) = y by omega]
/-- a spot, turned -/
def ts (n b : Int) (pf : Int → Int) (c : Int) : Int := (sp (n + 1) b pf c + tn n b pf) % (n + 1)
def ivF (n b : Int) (pf : Int → Int) (f s : Int) : Int := b1 (decide (ts n b pf s < ts n b pf f))
theorem x4_tspot {h : HD} {n b : Int} {pf : Int → Int} (hK : Pk h 0 n b pf n) (ho : PrOk n b pf) {z : Int} (h1 : 0 ≤ z) (h2 : z < n) : jX4_turnedSpotOf 0 (iZ z) h = some (iZ (ts n b pf z)) := by
  have hn := ho.2.1
  have hn0 := ho.1
  have ht := tn_in (b := b) (pf := pf) hn0
  have hs := sp_in (b := b) (pf := pf) hn0 z
  unfold jX4_turnedSpotOf
  rw [x4_spotOf hK.1 ⟨hn0, hn⟩ h1 h2, Option.bind_some, x4_turn hK, iZ_add, hK.1.1, w_wrapped h (by omega) (by omega) (by omega) (by omega)]
  rfl
theorem p_inversions {h : HD} (hR : Rel h) : PV (jX8_inversions h) jX9_inversions := by
  obtain ⟨⟨⟨n, b, pf, nm⟩, hok, hC, hM⟩, -⟩ := id hR
  have ho : PrOk n b pf := hok.1
  have hP : PrC h 0 n b pf := hC.1
  have hQ : PrM h n b pf := hM.pr
  have hn : 0 ≤ n ∧ n ≤ 11 := ⟨ho.1, ho.2.1⟩
  obtain ⟨h1, h2, e1, f1, k1, hP1, e2, F, f2, k2, hQ2, g0, hQ1⟩ := both_parked hP hQ ho ho.1 (Int.le_refl n)
  have hts : ∀ c, 0 ≤ ts n b pf c ∧ ts n b pf c ≤ n := fun c => by have := emod_in (sp (n + 1) b pf c + tn n b pf) (N := n + 1) (by omega); unfold ts; omega
  have ht := tn_in (b := b) (pf := pf) hn.1
  refine ⟨iZ (sm_ (fun s => sm_ (fun f => ivF n b pf f s) s) n), h1, h2, ?_, ?_, hR.fr F⟩
  · obtain ⟨e, he⟩ : ∃ e, e = if n < 1 then 1 else n := ⟨_, rfl⟩
    have e3 : 1 ≤ e ∧ e ≤ 11 ∧ n ≤ e ∧ ∀ z, 1 ≤ z → z < e → z < n := by rw [he]; split <;> exact ⟨by omega, by omega, by omega, fun z _ _ => by omega⟩
    have e4 : sm_ (fun s => sm_ (fun f => ivF n b pf f s) s) n = sm_ (fun s => sm_ (fun f => ivF n b pf f s) s) e := by
      rw [he]
      split
      · rw [show n = 0 by omega]; rfl
      · rfl
    unfold jX8_inversions
    rw [parked_of hP e1, Option.bind_some, e4]
    suffices hh : jX8_inversions_L9 h1 FU (iZ (sm_ (fun s => sm_ (fun f => ivF n b pf f s) s) 1)) (iZ 1) = some (iZ (sm_ (fun s => sm_ (fun f => ivF n b pf f s) s) e), h1) from hh
    refine loopN (fun f (x : Int32 × Int32) => jX8_inversions_L9 h1 f x.1 x.2) (fun z => (iZ (sm_ (fun s => sm_ (fun f => ivF n b pf f s) s) z), iZ z)) (a := 1) (b := e) e3.1 (fun f z q1 q2 => ?_) (fun f => ?_) FU (FU_gt (by omega))
    · show jX8_inversions_L9 h1 (f + 1) _ (iZ z) = jX8_inversions_L9 h1 f _ _
      have hz := e3.2.2.2 z q1 q2
      rw [jX8_inversions_L9]
      unfold jX2_count
      rw [hP1.1, if_neg (le_n (by omega) (by omega) (by omega))]
      have key : ∀ (K : Int32 → Option (Int32 × HD)) (s0 : Int), jX8_inversions_L23 (iZ z) h1 K FU (iZ s0) 0 = K (iZ (s0 + sm_ (fun f => ivF n b pf f z) z)) := by
        intro K s0
        have e0 : s0 = s0 + sm_ (fun f => ivF n b pf f z) 0 := by rw [sm_0]; omega
        suffices hh : jX8_inversions_L23 (iZ z) h1 K FU (iZ (s0 + sm_ (fun f => ivF n b pf f z) 0)) (iZ 0) = K (iZ (s0 + sm_ (fun f => ivF n b pf f z) z)) by
          rw [← e0] at hh; exact hh
        refine loopN (fun f (x : Int32 × Int32) => jX8_inversions_L23 (iZ z) h1 K f x.1 x.2) (fun y => (iZ (s0 + sm_ (fun f => ivF n b pf f z) y), iZ y)) (a := 0) (b := z) (by omega) (fun f y p1 p2 => ?_) (fun f => ?_) FU (FU_gt (by omega))
        · show jX8_inversions_L23 (iZ z) h1 K (f + 1) _ (iZ y) = jX8_inversions_L23 (iZ z) h1 K f _ _
          have t1 := hts y
          have t2 := hts z
          rw [jX8_inversions_L23, if_neg (le_n (by omega) (by omega) (by omega)), x4_tspot k1 ho p1 (by omega), Option.bind_some, x4_tspot k1 ho (by omega) hz, Option.bind_some, sm_s _ p1, i1, iZ_add, iZ_add]
          by_cases q : ts n b pf z < ts n b pf y
          · rw [if_neg (le_n (by omega) (by omega) (by omega)), show ivF n b pf y z = 1 by unfold ivF; rw [decide_eq_true q]; rfl, Int.add_assoc]
          · rw [if_pos (le_y (by omega) (by omega) (by omega)), show ivF n b pf y z = 0 by unfold ivF; rw [decide_eq_false q]; rfl, Int.add_zero]
        · show jX8_inversions_L23 (iZ z) h1 K (f + 1) _ (iZ z) = _
          rw [jX8_inversions_L23, if_pos (le_y (by omega) (by omega) (by omega))]
      rw [key, sm_s _ (show 0 ≤ z by omega), i1, iZ_add]
    · show jX8_inversions_L9 h1 (f + 1) _ (iZ e) = _
      rw [jX8_inversions_L9]
      unfold jX2_count
      rw [hP1.1, if_pos (le_y (by omega) (by omega) (by omega))]
  · rw [sm_pairs _ hn.1]
    unfold jX9_inversions
    rw [lt_eq, c0_def, hQ1.1, e2, Option.bind_some, x9_turn hQ2 k2 hn, Option.bind_some]
    suffices hh : jX9_inversions_L24 (iZ (tn n b pf)) h2 FU (iZ (sm_ (fun a => sm_ (fun i => ivF n b pf a (a + 1 + i)) (n - 1 - a)) 0)) (iZ 0) = some (iZ (sm_ (fun a => sm_ (fun i => ivF n b pf a (a + 1 + i)) (n - 1 - a)) n), h2) from hh
    refine loopN (fun f (x : Int32 × Int32) => jX9_inversions_L24 (iZ (tn n b pf)) h2 f x.1 x.2) (fun z => (iZ (sm_ (fun a => sm_ (fun i => ivF n b pf a (a + 1 + i)) (n - 1 - a)) z), iZ z)) (a := 0) (b := n) hn.1 (fun f z q1 q2 => ?_) (fun f => ?_) FU (FU_gt (by omega))
    · show jX9_inversions_L24 _ h2 (f + 1) _ (iZ z) = jX9_inversions_L24 _ h2 f _ _
      rw [jX9_inversions_L24, hQ2.1, if_neg (le_n (by omega) (by omega) (by omega))]
      have key : ∀ (K : Int32 → Option (Int32 × HD)) (s0 : Int), jX9_inversions_L39 (iZ (tn n b pf)) (iZ z) h2 K FU (iZ s0) (iZ (z + 1)) = K (iZ (s0 + sm_ (fun i => ivF n b pf z (z + 1 + i)) (n - 1 - z))) := by
        intro K s0
        suffices hh : jX9_inversions_L39 (iZ (tn n b pf)) (iZ z) h2 K FU (iZ (s0 + sm_ (fun i => ivF n b pf z (z + 1 + i)) (z + 1 - (z + 1)))) (iZ (z + 1)) = K (iZ (s0 + sm_ (fun i => ivF n b pf z (z + 1 + i)) (n - (z + 1)))) by
          rw [show z + 1 - (z + 1) = 0 by omega, sm_0, Int.add_zero, show n - (z + 1) = n - 1 - z by omega] at hh; exact hh
        refine loopN (fun f (x : Int32 × Int32) => jX9_inversions_L39 (iZ (tn n b pf)) (iZ z) h2 K f x.1 x.2) (fun y => (iZ (s0 + sm_ (fun i => ivF n b pf z (z + 1 + i)) (y - (z + 1))), iZ y)) (a := z + 1) (b := n) (by omega) (fun f y p1 p2 => ?_) (fun f => ?_) FU (FU_gt (by omega))
        · show jX9_inversions_L39 _ (iZ z) h2 K (f + 1) _ (iZ y) = jX9_inversions_L39 _ (iZ z) h2 K f _ _
          have t1 := hts y
          have t2 := hts z
          have t3 := sp_in (b := b) (pf := pf) hn.1 y
          have t4 := sp_in (b := b) (pf := pf) hn.1 z
          have r1 : jX9_round (iZ (sp (n + 1) b pf z) + iZ (tn n b pf)) h2 = some (iZ (ts n b pf z)) := by rw [iZ_add, x9_round hQ2 hn (by omega) (by omega)]; rfl
          have r2 : jX9_round (iZ (sp (n + 1) b pf y) + iZ (tn n b pf)) h2 = some (iZ (ts n b pf y)) := by rw [iZ_add, x9_round hQ2 hn (by omega) (by omega)]; rfl
          rw [jX9_inversions_L39, hQ2.1, if_neg (le_n (by omega) (by omega) (by omega)), inB_t (by omega) (by omega) (by omega), if_pos rfl, iZ_nat (by omega) (by omega), k2.2.1 z q1 q2, r1, Option.bind_some, inB_t (by omega) (by omega) (by omega), if_pos rfl, iZ_nat (by omega) (by omega), k2.2.1 y (by omega) p2, r2, Option.bind_some, x9_truth, x9_truth, show y + 1 - (z + 1) = (y - (z + 1)) + 1 by omega, sm_s _ (show 0 ≤ y - (z + 1) by omega), show z + 1 + (y - (z + 1)) = y by omega, i1, iZ_add, iZ_add, iZ_add]
          by_cases q : ts n b pf y < ts n b pf z
          · rw [if_neg (le_n (by omega) (by omega) (by omega)), show ivF n b pf z y = 1 by unfold ivF; rw [decide_eq_true q]; rfl, Int.add_assoc]; rfl
          · rw [if_pos (le_y (by omega) (by omega) (by omega)), show ivF n b pf z y = 0 by unfold ivF; rw [decide_eq_false q]; rfl, Int.add_assoc]; rfl
        · show jX9_inversions_L39 _ (iZ z) h2 K (f + 1) _ (iZ n) = _
          rw [jX9_inversions_L39, hQ2.1, if_pos (le_y (by omega) (by omega) (by omega))]
      rw [i1, iZ_add, key, sm_s _ q1]
    · show jX9_inversions_L24 _ h2 (f + 1) _ (iZ n) = _
      rw [jX9_inversions_L24, hQ2.1, if_pos (le_y (by omega) (by omega) (by omega))]
theorem p_descents {h : HD} (hR : Rel h) : PV (nh h (jX8_descents h)) jX9_descents := by
  obtain ⟨⟨⟨n, b, pf, nm⟩, hok, hC, hM⟩, -⟩ := id hR
  have ho : PrOk n b pf := hok.1
  have hP : PrC h 0 n b pf := hC.1
  have hQ : PrM (c0 h 0) n b pf := hM.pr.c0 0
  have hn : 0 ≤ n ∧ n ≤ 11 := ⟨ho.1, ho.2.1⟩
  obtain ⟨e, he⟩ : ∃ e, e = if n < 1 then 1 else n := ⟨_, rfl⟩
  have e1 : 1 ≤ e ∧ e ≤ 11 ∧ n ≤ e ∧ ∀ z, 1 ≤ z → z < e → z < n := by rw [he]; split <;> exact ⟨by omega, by omega, by omega, fun z _ _ => by omega⟩
  let D : Int → Int := fun z => sm_ (fun c => b1 (decide (pf (c + 1) < pf c))) z
  have dS : ∀ z, 0 ≤ z → D (z + 1) = D z + b1 (decide (pf (z + 1) < pf z)) := fun z q => sm_s _ q
  refine ⟨iZ (D (e - 1)), h, c0 h 0, ?_, ?_, hR.fr (c0_fr h 0)⟩
  · have : jX8_descents h = some (iZ (D (e - 1))) := by
      unfold jX8_descents
      suffices hh : jX8_descents_L4 h FU (iZ (D (1 - 1))) (iZ 1) = some (iZ (D (e - 1))) from hh
      refine loopN (fun f (x : Int32 × Int32) => jX8_descents_L4 h f x.1 x.2) (fun z => (iZ (D (z - 1)), iZ z)) (a := 1) (b := e) e1.1 (fun f z q1 q2 => ?_) (fun f => ?_) FU (FU_gt (by omega))
      · show jX8_descents_L4 h (f + 1) _ (iZ z) = jX8_descents_L4 h f _ _
        have hz := e1.2.2.2 z q1 q2
        have a1 := ho.2.2.2.2 z (by omega) hz
        have a2 := ho.2.2.2.2 (z - 1) (by omega) (by omega)
        rw [jX8_descents_L4]
        unfold jX2_count
        rw [hP.1, if_neg (le_n (by omega) (by omega) (by omega)), x2_pref hP hn (by omega) hz, Option.bind_some, i1, iZ_sub, x2_pref hP hn (by omega) (show z - 1 < n by omega), Option.bind_some, show z + 1 - 1 = (z - 1) + 1 by omega, dS _ (by omega), iZ_add, iZ_add, show z - 1 + 1 = z by omega]
        by_cases q : pf z < pf (z - 1)
        · rw [if_neg (le_n (by omega) (by omega) (by omega)), decide_eq_true q]; rfl
        · rw [if_pos (le_y (by omega) (by omega) (by omega)), decide_eq_false q, show b1 false = 0 from rfl, Int.add_zero]
      · show jX8_descents_L4 h (f + 1) _ (iZ e) = _
        rw [jX8_descents_L4]
        unfold jX2_count
        rw [hP.1, if_pos (le_y (by omega) (by omega) (by omega))]
    unfold nh
    rw [this]
    rfl
  · unfold jX9_descents
    rw [lt_eq, c0_def]
    suffices hh : jX9_descents_L9 (c0 h 0) FU (iZ (D (1 - 1))) (iZ 1) = some (iZ (D (e - 1)), c0 h 0) from hh
    refine loopN (fun f (x : Int32 × Int32) => jX9_descents_L9 (c0 h 0) f x.1 x.2) (fun z => (iZ (D (z - 1)), iZ z)) (a := 1) (b := e) e1.1 (fun f z q1 q2 => ?_) (fun f => ?_) FU (FU_gt (by omega))
    · show jX9_descents_L9 (c0 h 0) (f + 1) _ (iZ z) = jX9_descents_L9 (c0 h 0) f _ _
      have hz := e1.2.2.2 z q1 q2
      have a1 := ho.2.2.2.2 z (by omega) hz
      have a2 := ho.2.2.2.2 (z - 1) (by omega) (by omega)
      rw [jX9_descents_L9, hQ.1, if_neg (le_n (by omega) (by omega) (by omega)), x9_wish hQ hn (by omega) hz, Option.bind_some, i1, iZ_sub, x9_wish hQ hn (by omega) (show z - 1 < n by omega), Option.bind_some, x9_truth, x9_truth, show z + 1 - 1 = (z - 1) + 1 by omega, dS _ (by omega), iZ_add, iZ_add, iZ_add, show z - 1 + 1 = z by omega]
      by_cases q : pf z < pf (z - 1)
      · rw [if_neg (le_n (by omega) (by omega) (by omega)), decide_eq_true q]
      · rw [if_pos (le_y (by omega) (by omega) (by omega)), decide_eq_false q]
    · show jX9_descents_L9 (c0 h 0) (f + 1) _ (iZ e) = _
      rw [jX9_descents_L9, hQ.1, if_pos (le_y (by omega) (by omega) (by omega))]
theorem nn64_all : ∀ w : Nat, w < 130 → ∀ n : Nat, n < 12 → (decide (n = 0) || nn64 (FP.ddiv (FP.i2d (iZ (w : Int))) (FP.i2d (iZ (n : Int))))) = true := by decide +kernel
theorem nn32_all : ∀ w : Nat, w < 12 → ∀ n : Nat, n < 12 → (decide (n = 0) || nn32 (FP.fdiv (FP.i2f (iZ (w : Int))) (FP.i2f (iZ (n : Int))))) = true := by decide +kernel
theorem wyN_in {n b : Int} {pf : Int → Int} (ho : PrOk n b pf) : 0 ≤ wyN n b pf ∧ wyN n b pf ≤ 121 := by
  have hn0 := ho.1
  have := sm_bound (f := fun c => abZ (mv (n + 1) b pf c)) (m := n) ho.1 (fun c q1 q2 => by
    have := mv_in ho.2.2.2.2 ho.2.2.1 q1 q2
    unfold abZ; split <;> omega)
  have hn := ho.2.1
  have h2 : n * n ≤ 11 * n := Int.mul_le_mul_of_nonneg_right hn hn0
  unfold wyN; omega
theorem lkN_in {n b : Int} {pf : Int → Int} (ho : PrOk n b pf) : 0 ≤ lkN n b pf ∧ lkN n b pf ≤ n := by
  have := sm_bound (f := fun c => b1 (decide (mv (n + 1) b pf c = 0))) (m := 1) ho.1 (fun c q1 q2 => b1_in _)
  unfold lkN; omega
theorem p_meanWay {h : HD} (hR : Rel h) : PV (jX8_meanWay h) jX9_meanWay := by
  obtain ⟨⟨⟨n, b, pf, nm⟩, hok, hC, hM⟩, -⟩ := id hR
  have ho : PrOk n b pf := hok.1
  have hP : PrC h 0 n b pf := hC.1
  have hQ : PrM h n b pf := hM.pr
  have hn : 0 ≤ n ∧ n ≤ 11 := ⟨ho.1, ho.2.1⟩
  by_cases q : n = 0
  · obtain ⟨h2, e2, f2, k2⟩ := x9_parks (hQ.c0 0) ho ho.1 (Int.le_refl n)
    refine ⟨FP.dconst0, h, h2, ?_, ?_, hR.fr ((c0_fr h 0).tr (sPm_scr f2))⟩
    · unfold jX8_meanWay jX2_count
      rw [hP.1, i0, if_pos (by rw [q])]
    · unfold jX9_meanWay
      rw [lt_eq, c0_def, (hQ.c0 0).1, e2, Option.bind_some, ((hQ.c0 0).fr f2 (fun _ => rfl)).1, i0, if_pos (by rw [q])]
  · obtain ⟨h1, h2, e1, f1, k1, hP1, e2, F, f2, k2, hQ2, g0, hQ1⟩ := both_parked hP hQ ho ho.1 (Int.le_refl n)
    have hw := wyN_in ho
    have hnn := nn64_all (wyN n b pf).toNat (by omega) n.toNat (by omega)
    rw [show (((wyN n b pf).toNat : Nat) : Int) = wyN n b pf by omega, show ((n.toNat : Nat) : Int) = n by omega, decide_eq_false (show ¬ n.toNat = 0 by omega), Bool.false_or] at hnn
    refine ⟨FP.ddiv (FP.i2d (iZ (wyN n b pf))) (FP.i2d (iZ n)), h1, h2, ?_, ?_, hR.fr F⟩
    · unfold jX8_meanWay jX2_count
      rw [hP.1, i0, if_neg (eq_n (by omega) (by omega) (by omega) (by omega) (by omega)), parked_of hP e1, Option.bind_some, x4_way k1 ho, Option.bind_some, if_pos hnn]
    · unfold jX9_meanWay
      rw [lt_eq, c0_def, hQ1.1, e2, Option.bind_some, hQ2.1, i0, if_neg (eq_n (by omega) (by omega) (by omega) (by omega) (by omega)), x9_way hQ2 k2 ho, Option.bind_some, if_pos hnn]
theorem p_luckyShare {h : HD} (hR : Rel h) : PV (jX8_luckyShare h) jX9_luckyShare := by
  obtain ⟨⟨⟨n, b, pf, nm⟩, hok, hC, hM⟩, -⟩ := id hR
  have ho : PrOk n b pf := hok.1
  have hP : PrC h 0 n b pf := hC.1
  have hQ : PrM h n b pf := hM.pr
  have hn : 0 ≤ n ∧ n ≤ 11 := ⟨ho.1, ho.2.1⟩
  by_cases q : n = 0
  · obtain ⟨h2, e2, f2, k2⟩ := x9_parks (hQ.c0 0) ho ho.1 (Int.le_refl n)
    refine ⟨FP.fconst0, h, h2, ?_, ?_, hR.fr ((c0_fr h 0).tr (sPm_scr f2))⟩
    · unfold jX8_luckyShare jX2_count
      rw [hP.1, i0, if_pos (by rw [q])]
    · unfold jX9_luckyShare
      rw [lt_eq, c0_def, (hQ.c0 0).1, e2, Option.bind_some, ((hQ.c0 0).fr f2 (fun _ => rfl)).1, i0, if_pos (by rw [q])]
  · obtain ⟨h1, h2, e1, f1, k1, hP1, e2, F, f2, k2, hQ2, g0, hQ1⟩ := both_parked hP hQ ho ho.1 (Int.le_refl n)
    have hw := lkN_in ho
    have hnn := nn32_all (lkN n b pf).toNat (by omega) n.toNat (by omega)
    rw [show (((lkN n b pf).toNat : Nat) : Int) = lkN n b pf by omega, show ((n.toNat : Nat) : Int) = n by omega, decide_eq_false (show ¬ n.toNat = 0 by omega), Bool.false_or] at hnn
    refine ⟨FP.fdiv (FP.i2f (iZ (lkN n b pf))) (FP.i2f (iZ n)), h1, h2, ?_, ?_, hR.fr F⟩
    · unfold jX8_luckyShare jX2_count
      rw [hP.1, i0, if_neg (eq_n (by omega) (by omega) (by omega) (by omega) (by omega)), parked_of hP e1, Option.bind_some, x4_lucky k1 ho, Option.bind_some, if_pos hnn]
    · unfold jX9_luckyShare
      rw [lt_eq, c0_def, hQ1.1, e2, Option.bind_some, hQ2.1, i0, if_neg (eq_n (by omega) (by omega) (by omega) (by omega) (by omega)), x9_lucky hQ2 k2 ho, Option.bind_some, if_pos hnn]
theorem p_errorCode {h : HD} (hR : Rel h) : PV (some (jX8_errorCode h, h)) jX9_errorCode := by
  refine ⟨_, h, c0 h 0, rfl, ?_, hR.fr (c0_fr h 0)⟩
  have e := hR.2.2.2.1.1
  unfold jX9_errorCode jX8_errorCode
  rw [e]
  rfl
theorem p_errorPosition {h : HD} (hR : Rel h) : PV (some (jX8_errorPosition h, h)) jX9_errorPosition := by
  refine ⟨_, h, c0 h 0, rfl, ?_, hR.fr (c0_fr h 0)⟩
  have e := hR.2.2.2.1.2
  unfold jX9_errorPosition jX8_errorPosition
  rw [e]
  rfl
theorem p_refusal {h : HD} (hR : Rel h) : PV (some (jX8_refusal h, h)) jX9_refusal := by
  refine ⟨_, h, c0 h 0, rfl, ?_, hR.fr (c0_fr h 0)⟩
  have e := hR.2.2.1.2
  unfold jX9_refusal jX8_refusal
  rw [e]
  rfl
theorem p_account {h : HD} (hR : Rel h) (p : Int32) : PP [1] (nh h (jX8_account p h)) (jX9_account p) := by
  obtain ⟨z, z1, z2, rfl⟩ := iZ_ex p
  have hset : ∀ h3, jX9_isIn (iZ z).toInt64 (0 : Int64) (4 : Int64) h3 = decide (0 ≤ z ∧ z ≤ 4) := fun h3 => by
    rw [iZ_j (by omega) (by omega), show (0 : Int64) = jZ 0 from rfl, show (4 : Int64) = jZ 4 from rfl, jZ_is (by omega) (by omega) (by omega) (by omega) (by omega) (by omega)]
  by_cases q : 0 ≤ z ∧ z ≤ 4
  · refine PP.ok (v := gI h (6, 0, 2) z.toNat) (h1 := h) (h2 := c0 h 0) ?_ ?_ (hR.fr (c0_fr h 0)) (c0_0 _ _)
    · unfold jX8_account nh
      rw [i0, if_neg (lt_n (by omega) (by omega) (by omega)), i5, if_pos (lt_y (by omega) (by omega) (by omega)), inB_t (by omega) (by omega) (by omega), if_pos rfl, iZ_nat (by omega) (by omega)]
      rfl
    · unfold jX9_account
      rw [hset, decide_eq_true q, x9_goes, Option.bind_some, if_pos rfl, inB_t (by omega) (by omega) (by omega), if_pos rfl, iZ_nat (by omega) (by omega), hR.2.2.1.1 z.toNat (by omega)]
      rfl
  · refine PP.ex (h1 := h) (h2 := c0 h 1) (w := 0) 0 (e := 1) ?_ ?_ (hR.fr (c0_fr h 1)) rfl (c0_0 _ _)
    · unfold jX8_account nh
      rw [i0]
      by_cases q1 : z < 0
      · rw [if_pos (lt_y (by omega) (by omega) (by omega))]; rfl
      · rw [if_neg (lt_n (by omega) (by omega) (by omega)), i5, if_neg (lt_n (by omega) (by omega) (by omega))]; rfl
    · unfold jX9_account
      rw [hset, decide_eq_false q, x9_goes]
      rfl
theorem p_reportByte {h : HD} (hR : Rel h) (p : Int32) : PP [2] (nh h (jX8_reportByte p h)) (jX9_reportByte p) := by
  obtain ⟨z, z1, z2, rfl⟩ := iZ_ex p
  obtain ⟨len, l0, l1, e1, e2, hb, e3⟩ := hR.2.2.2.2.2.2
  have hset : ∀ h3, jX9_isIn (iZ z).toInt64 (0 : Int64) ((iZ len - iZ 1).toInt64) h3 = decide (0 ≤ z ∧ z ≤ len - 1) := fun h3 => by
    rw [iZ_sub, iZ_j (by omega) (by omega), iZ_j (by omega) (by omega), show (0 : Int64) = jZ 0 from rfl, jZ_is (by omega) (by omega) (by omega) (by omega) (by omega) (by omega)]
  by_cases q : 0 ≤ z ∧ z < len
  · refine PP.ok (v := gI h (0, 1, 1) z.toNat) (h1 := h) (h2 := c0 h 0) ?_ ?_ (hR.fr (c0_fr h 0)) (c0_0 _ _)
    · unfold jX8_reportByte jX1_length jX1_at nh
      rw [e1, i0, if_neg (lt_n (by omega) (by omega) (by omega)), if_pos (lt_y (by omega) (by omega) (by omega)), if_neg (lt_n (by omega) (by omega) (by omega)), if_neg (le_n (by omega) (by omega) (by omega)), iZ_ofNat, show ((bN 1 : Nat) : Int) = 120 from rfl, if_neg (le_n (by omega) (by omega) (by omega)), inB_t (n := bN 1) (by omega) (by show z < 120; omega) (by omega), if_pos rfl, iZ_nat (by omega) (by omega)]
      rfl
    · unfold jX9_reportByte
      rcases e3 with e3 | e3
      · rw [e3, e2, i0, if_neg (eq_n (a := 1) (b := 0) (by omega) (by omega) (by omega) (by omega) (by omega)), i1, hset, decide_eq_true (by omega), if_pos rfl, x9_goes, Option.bind_some, if_pos rfl, inB_t (by omega) (by omega) (by omega), if_pos rfl, iZ_nat (by omega) (by omega), hb z q.1 q.2]
        rfl
      · omega
  · refine PP.ex (h1 := h) (h2 := c0 h 1) (w := 0) 0 (e := 2) ?_ ?_ (hR.fr (c0_fr h 1)) rfl (c0_0 _ _)
    · unfold jX8_reportByte jX1_length nh
      rw [e1, i0]
      by_cases q1 : z < 0
      · rw [if_pos (lt_y (by omega) (by omega) (by omega))]; rfl
      · rw [if_neg (lt_n (by omega) (by omega) (by omega)), if_neg (lt_n (by omega) (by omega) (by omega))]; rfl
    · unfold jX9_reportByte
      rcases e3 with e3 | e3
      · rw [e3, e2, i0, if_neg (eq_n (a := 1) (b := 0) (by omega) (by omega) (by omega) (by omega) (by omega)), i1, hset, decide_eq_false (by omega), if_neg (by decide), x9_goes]
        rfl
      · rw [e3.1, i0, if_pos rfl, x9_goes]
        rfl
