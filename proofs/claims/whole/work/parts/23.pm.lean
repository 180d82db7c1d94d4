/-! THE REFERENCE PARKS -/
/-- the cars of the reference: how many, BACK, preferences -/
def PrM (h : HD) (n b : Int) (pf : Int → Int) : Prop := gI h (7, 0, 2) 0 = iZ n ∧ gI h (7, 0, 2) 1 = iZ b ∧ ∀ z : Int, 0 ≤ z → z < n → gI h (7, 0, 2) (2 + z).toNat = iZ (pf z)
theorem PrM.fr {S : Rf → Nat → Bool} {h h2 : HD} {n b : Int} {pf : Int → Int} (hR : PrM h n b pf) (hF : Fr S h h2) (hs : ∀ k, S (7, 0, 2) k = false) : PrM h2 n b pf := ⟨(hF.1 _ _ (hs _)).trans hR.1, (hF.1 _ _ (hs _)).trans hR.2.1, fun z h1 h3 => (hF.1 _ _ (hs _)).trans (hR.2.2 z h1 h3)⟩
def sPm : Rf → Nat → Bool := fun r _ => decide (r = (7, 0, 13) ∨ r = (7, 0, 14) ∨ r = (7, 0, 15))
theorem lg_lt0 (x y : Int64) : lg_cmp x y < 0 ↔ x < y := by
  unfold lg_cmp
  have e : x = y ↔ x.toInt = y.toInt := Int64.toInt_inj.symm
  rw [Int64.lt_iff_toInt_lt]
  by_cases h1 : x > y
  · rw [if_pos h1]
    have := Int64.lt_iff_toInt_lt.mp h1
    exact ⟨fun q => absurd q (by decide), fun q => by omega⟩
  · have h2 : ¬ y.toInt < x.toInt := fun q => h1 (Int64.lt_iff_toInt_lt.mpr q)
    rw [if_neg h1]
    by_cases h3 : x = y
    · rw [if_pos h3]
      have := e.mp h3
      exact ⟨fun q => absurd q (by decide), fun q => by omega⟩
    · rw [if_neg h3]
      have : ¬ x.toInt = y.toInt := fun q => h3 (e.mpr q)
      exact ⟨fun _ => by omega, fun _ => by decide⟩
theorem lg_gt0 (x y : Int64) : 0 < lg_cmp x y ↔ y < x := by
  unfold lg_cmp
  by_cases h1 : x > y
  · rw [if_pos h1]; exact ⟨fun _ => h1, fun _ => by decide⟩
  · rw [if_neg h1]
    by_cases h3 : x = y
    · rw [if_pos h3]; exact ⟨fun q => absurd q (by decide), fun q => absurd q h1⟩
    · rw [if_neg h3]; exact ⟨fun q => absurd q (by decide), fun q => absurd q h1⟩
theorem lg_eq0 (x y : Int64) : lg_cmp x y = 0 ↔ x = y := by
  unfold lg_cmp
  by_cases h1 : x > y
  · rw [if_pos h1]
    refine ⟨fun q => absurd q (by decide), fun q => ?_⟩
    subst q
    have := Int64.lt_iff_toInt_lt.mp h1
    omega
  · rw [if_neg h1]
    by_cases h3 : x = y
    · rw [if_pos h3]; exact ⟨fun _ => h3, fun _ => rfl⟩
    · rw [if_neg h3]; exact ⟨fun q => absurd q (by decide), fun q => absurd q h3⟩
theorem jZ_is {z a b : Int} (h1 : -2147483648 ≤ z) (h2 : z < 2147483648) (h3 : -2147483648 ≤ a) (h4 : a < 2147483648) (h5 : -2147483648 ≤ b) (h6 : b < 2147483648) (h : HD) : jX9_isIn (jZ z) (jZ a) (jZ b) h = decide (a ≤ z ∧ z ≤ b) := by
  unfold jX9_isIn
  have e1 : lg_cmp (jZ z) (jZ a) < 0 ↔ z < a := by rw [lg_lt0, jZ_lt (by omega) (by omega) (by omega) (by omega)]
  have e2 : 0 < lg_cmp (jZ z) (jZ b) ↔ b < z := by rw [lg_gt0, jZ_lt (by omega) (by omega) (by omega) (by omega)]
  by_cases q1 : z < a
  · rw [if_pos (e1.mpr q1), decide_eq_false (by omega)]
  · rw [if_neg (fun q => q1 (e1.mp q))]
    by_cases q2 : b < z
    · rw [if_pos (e2.mpr q2), decide_eq_false (by omega)]
    · rw [if_neg (fun q => q2 (e2.mp q)), decide_eq_true (by omega)]
section
variable {h : HD} {n b : Int} {pf : Int → Int}
theorem x9_round (hR : PrM h n b pf) (hn : 0 ≤ n ∧ n ≤ 11) {a : Int} (h1 : -100000 ≤ a) (h2 : a ≤ 100000) : jX9_round (iZ a) h = some (iZ (a % (n + 1))) := by
  have h3 := emod_in a (N := n + 1) (by omega)
  unfold jX9_round jX9_spots
  rw [Option.bind_some, hR.1, i1, iZ_add, i0, if_neg (eq_n (a := n + 1) (b := 0) (by omega) (by omega) (by omega) (by omega) (by omega)), iZ_irem (by omega) (by omega) (by omega) (by omega), tmod_cases (by omega)]
  by_cases ha : 0 ≤ a
  · rw [if_pos ha, if_pos (le_y (by omega) (by omega) (by omega))]
  · rw [if_neg ha]
    by_cases hz : a % (n + 1) = 0
    · rw [if_pos hz, if_pos (le_y (by omega) (by omega) (by omega)), hz]
    · rw [if_neg hz, if_neg (le_n (by omega) (by omega) (by omega)), Option.bind_some, iZ_add, show a % (n + 1) - (n + 1) + (n + 1) = a % (n + 1) by omega]
theorem x9_wish (hR : PrM h n b pf) (hn : 0 ≤ n ∧ n ≤ 11) {z : Int} (h1 : 0 ≤ z) (h2 : z < n) : jX9_wishOf (iZ z) h = some (iZ (pf z)) := by
  unfold jX9_wishOf
  rw [i2, iZ_add, inB_t (by omega) (by omega) (by omega), if_pos rfl, iZ_nat (by omega) (by omega), hR.2.2 z h1 h2]
theorem x9_spots (hR : PrM h n b pf) : jX9_spots h = some (iZ (n + 1)) := by
  unfold jX9_spots
  rw [hR.1, i1, iZ_add]
theorem x9_moved (hR : PrM h n b pf) (hn : 0 ≤ n ∧ n ≤ 11) (hb : 0 ≤ b ∧ b ≤ 5) {T : Int → Int} {w s : Int} (hT : IsA h (7, 0, 13) (n + 1) T) (hB : TB T) (hw : 0 ≤ w ∧ w < n + 1) (hs : 0 ≤ s ∧ s < n + 1) (hTs : T s = -1) : jX9_movedBy (iZ w) h = some (iZ (mvO (n + 1) b T w)) := by
  have back : ∀ (K : Option Int32) (f : Nat) (z : Int), 1 ≤ z → z ≤ b → T ((w - z) % (n + 1)) ≠ -1 → jX9_movedBy_L14 (iZ w) h K (f + 1) (iZ z) = jX9_movedBy_L14 (iZ w) h K f (iZ (z + 1)) := by
    intro K f z h1 h2 h3
    have e := emod_in (w - z) (N := n + 1) (by omega)
    have hb2 := hB ((w - z) % (n + 1))
    rw [jX9_movedBy_L14, hR.2.1, if_neg (lt_n (by omega) (by omega) (by omega)), iZ_sub, x9_round hR hn (by omega) (by omega), Option.bind_some, inB_t (by omega) (by omega) (by omega), if_pos rfl, iZ_nat (by omega) (by omega), hT _ e.1 e.2, im1, if_neg (eq_n (by omega) (by omega) (by omega) (by omega) (by omega)), i1, iZ_add]
  unfold jX9_movedBy
  have hbw := hB w
  rw [inB_t (by omega) (by omega) (by omega), if_pos rfl, iZ_nat (by omega) (by omega), hT w hw.1 hw.2, im1]
  rcases mvO_cases hb.1 hw hs hTs with ⟨h1, h2⟩ | ⟨h1, k, k1, k2, k3, h2, g3, g4⟩ | ⟨h1, g5, k, k1, k2, h2, g3, g4⟩
  · rw [if_pos (by rw [h1]), h2]; rfl
  · rw [if_neg (eq_n (by omega) (by omega) (by omega) (by omega) (by omega)), h2]
    refine loopN (fun f (x : Int32) => jX9_movedBy_L14 (iZ w) h (jX9_movedBy_L51 (iZ w) h FU 1) f x) iZ (a := 1) (b := k) k1 (fun f z q1 q2 => back _ f z q1 (by omega) (g3 z q1 q2)) (fun f => ?_) FU (FU_gt (by omega))
    have e := emod_in (w - k) (N := n + 1) (by omega)
    show jX9_movedBy_L14 (iZ w) h _ (f + 1) (iZ k) = _
    rw [jX9_movedBy_L14, hR.2.1, if_neg (lt_n (by omega) (by omega) (by omega)), iZ_sub, x9_round hR hn (by omega) (by omega), Option.bind_some, inB_t (by omega) (by omega) (by omega), if_pos rfl, iZ_nat (by omega) (by omega), hT _ e.1 e.2, im1, if_pos (by rw [g4]), iZ_neg]
  · rw [if_neg (eq_n (by omega) (by omega) (by omega) (by omega) (by omega)), h2]
    have hon : jX9_movedBy_L51 (iZ w) h FU 1 = some (iZ k) := by
      refine loopN (fun f (x : Int32) => jX9_movedBy_L51 (iZ w) h f x) iZ (a := 1) (b := k) k1 (fun f z q1 q2 => ?_) (fun f => ?_) FU (FU_gt (by omega))
      · have e := emod_in (w + z) (N := n + 1) (by omega)
        have hb2 := hB ((w + z) % (n + 1))
        have hne := g3 z q1 q2
        show jX9_movedBy_L51 (iZ w) h (f + 1) (iZ z) = _
        rw [jX9_movedBy_L51, iZ_add, x9_round hR hn (by omega) (by omega), Option.bind_some, inB_t (by omega) (by omega) (by omega), if_pos rfl, iZ_nat (by omega) (by omega), hT _ e.1 e.2, im1, if_neg (eq_n (by omega) (by omega) (by omega) (by omega) (by omega)), i1, iZ_add]
      · have e := emod_in (w + k) (N := n + 1) (by omega)
        show jX9_movedBy_L51 (iZ w) h (f + 1) (iZ k) = _
        rw [jX9_movedBy_L51, iZ_add, x9_round hR hn (by omega) (by omega), Option.bind_some, inB_t (by omega) (by omega) (by omega), if_pos rfl, iZ_nat (by omega) (by omega), hT _ e.1 e.2, im1, if_pos (by rw [g4])]
    rw [hon]
    refine loopN (fun f (x : Int32) => jX9_movedBy_L14 (iZ w) h (some (iZ k)) f x) iZ (a := 1) (b := b + 1) (by omega) (fun f z q1 q2 => back _ f z q1 (by omega) (g5 z q1 (by omega))) (fun f => ?_) FU (FU_gt (by omega))
    show jX9_movedBy_L14 (iZ w) h _ (f + 1) (iZ (b + 1)) = _
    rw [jX9_movedBy_L14, hR.2.1, if_pos (lt_y (by omega) (by omega) (by omega))]
/-- the picture of what the reference has found -/
def PkM (h : HD) (n b : Int) (pf : Int → Int) (c : Int) : Prop := IsA h (7, 0, 13) (n + 1) (tkO (n + 1) b pf c) ∧ IsA h (7, 0, 14) c (sp (n + 1) b pf) ∧ IsA h (7, 0, 15) c (mv (n + 1) b pf)
theorem x9_parks {h : HD} {c : Int} (hR : PrM h n b pf) (hok : PrOk n b pf) (hc : 0 ≤ c) (hcn : c ≤ n) : ∃ h2, jX9_parks (iZ c) h = some h2 ∧ Fr sPm h h2 ∧ PkM h2 n b pf c := by
  obtain ⟨n0, n1, b0, b5, hP⟩ := hok
  have s3 : ∀ k, sPm (7, 0, 13) k = true := fun k => rfl
  have s4 : ∀ k, sPm (7, 0, 14) k = true := fun k => rfl
  have s5 : ∀ k, sPm (7, 0, 15) k = true := fun k => rfl
  have s2 : ∀ k, sPm (7, 0, 2) k = false := fun k => rfl
  -- the cars
  have cars : ∀ h1, Fr sPm h h1 → IsA h1 (7, 0, 13) (n + 1) (fun _ => -1) → ∃ h2, jX9_parks_L25 (iZ c) FU (iZ 0) h1 = some h2 ∧ Fr sPm h h2 ∧ PkM h2 n b pf c := by
    intro h1 f1 a1
    refine loopI (fun f (x : Int32 × HD) => jX9_parks_L25 (iZ c) f x.1 x.2) (fun z x => x.1 = iZ z ∧ Fr sPm h x.2 ∧ PkM x.2 n b pf z) (a := 0) (b := c) (fun y => ∃ h2, y = some h2 ∧ Fr sPm h h2 ∧ PkM h2 n b pf c) hc ?_ ?_ FU (iZ 0, h1) (FU_gt (by omega)) ⟨rfl, f1, a1, fun z q1 q2 => by omega, fun z q1 q2 => by omega⟩
    · intro f z x z0 z1 hI
      obtain ⟨x1, h4⟩ := x
      obtain ⟨e, hF, hK3, hK4, hK5⟩ := hI
      replace e : x1 = iZ z := e
      replace hF : Fr sPm h h4 := hF
      replace hK3 : IsA h4 (7, 0, 13) (n + 1) (tkO (n + 1) b pf z) := hK3
      subst e
      have hpz := hP z z0 (by omega)
      have hm := mv_in hP b0 z0 (show z < n by omega)
      obtain ⟨s, q1, q2, q3⟩ := tk_free (b := b) (pf := pf) n0 z0 (show z ≤ n by omega)
      have hsp := sp_in (b := b) (pf := pf) n0 z
      have hR4 := hR.fr hF s2
      have hmove : jX9_movedBy (iZ (pf z)) h4 = some (iZ (mv (n + 1) b pf z)) := x9_moved hR4 ⟨n0, n1⟩ ⟨b0, b5⟩ hK3 (tk_B n0 z0 (by omega)) ⟨hpz.1, by omega⟩ (⟨q1, by omega⟩ : 0 ≤ s ∧ s < n + 1) q3
      have f5 : Fr sPm h (sI h4 (7, 0, 15) z.toNat (iZ (mv (n + 1) b pf z))) := hF.sI (s5 _) _
      have hR5 := hR.fr f5 s2
      refine ⟨(iZ (z + 1), sI (sI (sI h4 (7, 0, 15) z.toNat (iZ (mv (n + 1) b pf z))) (7, 0, 14) z.toNat (iZ (sp (n + 1) b pf z))) (7, 0, 13) (sp (n + 1) b pf z).toNat (iZ z)), ?_, rfl, (f5.sI (s4 _) _).sI (s3 _) _, ?_, ?_, ?_⟩
      · show jX9_parks_L25 (iZ c) (f + 1) (iZ z) h4 = _
        have hround : jX9_round (iZ (pf z) + iZ (mv (n + 1) b pf z)) (sI h4 (7, 0, 15) z.toNat (iZ (mv (n + 1) b pf z))) = some (iZ (sp (n + 1) b pf z)) := by
          rw [iZ_add]; exact x9_round hR5 ⟨n0, n1⟩ (by omega) (by omega)
        rw [jX9_parks_L25, if_neg (le_n z1 (by omega) (by omega)), x9_wish hR4 ⟨n0, n1⟩ z0 (by omega), Option.bind_some, hmove, Option.bind_some, inB_t (by omega) (by omega) (by omega), if_pos rfl, lt_eq, iZ_nat (by omega) (by omega), x9_wish hR5 ⟨n0, n1⟩ z0 (by omega), Option.bind_some, hround, Option.bind_some, if_pos rfl, lt_eq, if_pos rfl, gI_self, inB_t (by omega) (by omega) (by omega), if_pos rfl, lt_eq, iZ_nat (by omega) (by omega), i1, iZ_add]
      · have e : tkO (n + 1) b pf (z + 1) = fun i => if i = sp (n + 1) b pf z then z else tkO (n + 1) b pf z i := funext fun i => tk_s _ _ _ z0 i
        show IsA _ (7, 0, 13) (n + 1) (tkO (n + 1) b pf (z + 1))
        rw [e]
        exact ((hK3.ne (by decide) _ _).ne (by decide) _ _).put hsp.1 z
      · exact ((IsA.ne hK4 (by decide) _ _).snoc z0 rfl).ne (by decide) _ _
      · exact ((IsA.snoc hK5 z0 rfl).ne (by decide) _ _).ne (by decide) _ _
    · intro f x hI
      obtain ⟨x1, h4⟩ := x
      obtain ⟨e, hF, hK⟩ := hI
      replace e : x1 = iZ c := e
      subst e
      refine ⟨h4, ?_, hF, hK⟩
      show jX9_parks_L25 (iZ c) (f + 1) (iZ c) h4 = _
      rw [jX9_parks_L25, if_pos (le_y (by omega) (by omega) (by omega))]
  unfold jX9_parks
  refine loopI (fun f (x : Int32 × HD) => jX9_parks_L2 (iZ c) (fun h4 => jX9_parks_L25 (iZ c) FU (0 : Int32) h4) f x.1 x.2) (fun z x => x.1 = iZ z ∧ Fr sPm h x.2 ∧ IsA x.2 (7, 0, 13) z (fun _ => -1)) (a := 0) (b := n + 1) (fun y => ∃ h2, y = some h2 ∧ Fr sPm h h2 ∧ PkM h2 n b pf c) (by omega) ?_ ?_ FU (iZ 0, h) (FU_gt (by omega)) ⟨rfl, Fr.rf, fun z q1 q2 => by omega⟩
  · intro f z x z0 z1 hI
    obtain ⟨x1, h4⟩ := x
    obtain ⟨e, hF, hA⟩ := hI
    replace e : x1 = iZ z := e
    subst e
    refine ⟨(iZ (z + 1), sI h4 (7, 0, 13) z.toNat (iZ (-1))), ?_, rfl, Fr.sI hF (s3 _) _, IsA.snoc hA z0 rfl⟩
    show jX9_parks_L2 (iZ c) _ (f + 1) (iZ z) h4 = _
    rw [jX9_parks_L2, x9_spots (hR.fr hF s2), Option.bind_some, if_neg (le_n (by omega) (by omega) (by omega)), inB_t (by omega) (by omega) (by omega), if_pos rfl, lt_eq, iZ_nat (by omega) (by omega), im1, i1, iZ_add]
  · intro f x hI
    obtain ⟨x1, h4⟩ := x
    obtain ⟨e, hF, hA⟩ := hI
    replace e : x1 = iZ (n + 1) := e
    subst e
    obtain ⟨h5, e5, f5, p5⟩ := cars h4 hF hA
    refine ⟨h5, ?_, f5, p5⟩
    show jX9_parks_L2 (iZ c) _ (f + 1) (iZ (n + 1)) h4 = _
    rw [jX9_parks_L2, x9_spots (hR.fr hF s2), Option.bind_some, if_pos (le_y (by omega) (by omega) (by omega))]
    exact e5
theorem x9_gap {c : Int} (hK : PkM h n b pf c) (hn : 0 ≤ n ∧ n ≤ 11) (hc : 0 ≤ c) (hcn : c ≤ n) : jX9_gapSpot h = some (iZ (fr (n + 1) b pf c)) := by
  have hf := fr_in (b := b) (pf := pf) hn.1 hc hcn
  refine loopN (fun f (x : Int32) => jX9_gapSpot_L2 h f x) iZ (a := 0) (b := fr (n + 1) b pf c) hf.1 (fun f z q1 q2 => ?_) (fun f => ?_) FU (FU_gt (by omega))
  · have hne := of_decide_eq_false (fnd_not (fun s => decide (tkO (n + 1) b pf c s = -1)) (n + 1).toNat 0 z q1 q2)
    have hb2 := tk_B (b := b) (pf := pf) hn.1 hc (by omega) z
    show jX9_gapSpot_L2 h (f + 1) (iZ z) = _
    rw [jX9_gapSpot_L2, inB_t (by omega) (by omega) (by omega), if_pos rfl, iZ_nat (by omega) (by omega), hK.1 z q1 (by omega), im1, if_neg (eq_n (by omega) (by omega) (by omega) (by omega) (by omega)), i1, iZ_add]
  · show jX9_gapSpot_L2 h (f + 1) (iZ (fr (n + 1) b pf c)) = _
    rw [jX9_gapSpot_L2, inB_t (by omega) (by omega) (by omega), if_pos rfl, iZ_nat (by omega) (by omega), hK.1 _ hf.1 (by omega), im1, if_pos (by rw [hf.2.2])]
theorem x9_turn (hR : PrM h n b pf) (hK : PkM h n b pf n) (hn : 0 ≤ n ∧ n ≤ 11) : jX9_turnNow h = some (iZ (tn n b pf)) := by
  unfold jX9_turnNow
  rw [x9_gap hK hn hn.1 (Int.le_refl n), Option.bind_some, hR.1, iZ_sub]
  rfl
theorem x9_twish (hR : PrM h n b pf) (hok : PrOk n b pf) {z : Int} (h1 : 0 ≤ z) (h2 : z < n) : jX9_turnedWish (iZ z) (iZ (tn n b pf)) h = some (iZ (tw n b pf z)) := by
  have hn0 := hok.1
  have hn := hok.2.1
  have hp := hok.2.2.2.2 z h1 h2
  have ht := tn_in (b := b) (pf := pf) hn0
  unfold jX9_turnedWish
  rw [x9_wish hR ⟨hn0, hn⟩ h1 h2, Option.bind_some, iZ_add, x9_round hR ⟨hn0, hn⟩ (by omega) (by omega)]
  rfl
theorem x9_truth (h : HD) (x : Bool) : jX9_truth x h = iZ (b1 x) := by cases x <;> rfl
theorem x9_lucky (hR : PrM h n b pf) (hK : PkM h n b pf n) (hok : PrOk n b pf) : jX9_luckyMany h = some (iZ (lkN n b pf)) := by
  have hn0 := hok.1
  have hn := hok.2.1
  refine loopN (fun f (x : Int32 × Int32) => jX9_luckyMany_L4 h f x.1 x.2) (fun z => (iZ (sm_ (fun c => b1 (decide (mv (n + 1) b pf c = 0))) z), iZ z)) (a := 0) (b := n) hok.1 (fun f z h1 h2 => ?_) (fun f => ?_) FU (FU_gt (by omega))
  · show jX9_luckyMany_L4 h (f + 1) _ (iZ z) = jX9_luckyMany_L4 h f _ _
    have hm := mv_in hok.2.2.2.2 hok.2.2.1 h1 h2
    rw [jX9_luckyMany_L4, hR.1, if_neg (le_n h2 (by omega) (by omega)), inB_t (by omega) (by omega) (by omega), if_pos rfl, iZ_nat (by omega) (by omega), hK.2.2 z h1 h2, x9_truth, x9_truth, sm_s _ h1, i1, i0, iZ_add, iZ_add, iZ_add]
    by_cases q : mv (n + 1) b pf z = 0
    · rw [if_pos (by rw [q]), decide_eq_true q]
    · rw [if_neg (eq_n (by omega) (by omega) (by omega) (by omega) (by omega)), decide_eq_false q]
  · show jX9_luckyMany_L4 h (f + 1) _ (iZ n) = _
    rw [jX9_luckyMany_L4, hR.1, if_pos (le_y (by omega) (by omega) (by omega))]
    rfl
theorem x9_area (hR : PrM h n b pf) (hK : PkM h n b pf n) (hok : PrOk n b pf) : jX9_area h = some (iZ (arN n b pf)) := by
  have hn0 := hok.1
  have hn := hok.2.1
  refine loopN (fun f (x : Int32 × Int32) => jX9_area_L4 h f x.1 x.2) (fun z => (iZ (sm_ (fun c => mv (n + 1) b pf c) z), iZ z)) (a := 0) (b := n) hok.1 (fun f z h1 h2 => ?_) (fun f => ?_) FU (FU_gt (by omega))
  · show jX9_area_L4 h (f + 1) _ (iZ z) = jX9_area_L4 h f _ _
    rw [jX9_area_L4, hR.1, if_neg (le_n h2 (by omega) (by omega)), inB_t (by omega) (by omega) (by omega), if_pos rfl, iZ_nat (by omega) (by omega), hK.2.2 z h1 h2, sm_s _ h1, i1, iZ_add, iZ_add]
  · show jX9_area_L4 h (f + 1) _ (iZ n) = _
    rw [jX9_area_L4, hR.1, if_pos (le_y (by omega) (by omega) (by omega))]
    rfl
theorem x9_way (hR : PrM h n b pf) (hK : PkM h n b pf n) (hok : PrOk n b pf) : jX9_way h = some (iZ (wyN n b pf)) := by
  have hn0 := hok.1
  have hn := hok.2.1
  refine loopN (fun f (x : Int32 × Int32) => jX9_way_L4 h f x.1 x.2) (fun z => (iZ (sm_ (fun c => abZ (mv (n + 1) b pf c)) z), iZ z)) (a := 0) (b := n) hok.1 (fun f z h1 h2 => ?_) (fun f => ?_) FU (FU_gt (by omega))
  · show jX9_way_L4 h (f + 1) _ (iZ z) = jX9_way_L4 h f _ _
    have hm := mv_in hok.2.2.2.2 hok.2.2.1 h1 h2
    have ea : jX9_plain (iZ (mv (n + 1) b pf z)) h = iZ (abZ (mv (n + 1) b pf z)) := by
      unfold abZ jX9_plain
      by_cases q : 0 ≤ mv (n + 1) b pf z
      · rw [if_pos q, i0, if_pos (le_y (by omega) (by omega) (by omega))]
      · rw [if_neg q, i0, if_neg (le_n (by omega) (by omega) (by omega)), iZ_neg]
    rw [jX9_way_L4, hR.1, if_neg (le_n h2 (by omega) (by omega)), inB_t (by omega) (by omega) (by omega), if_pos rfl, iZ_nat (by omega) (by omega), hK.2.2 z h1 h2, ea, sm_s _ h1, i1, iZ_add, iZ_add]
  · show jX9_way_L4 h (f + 1) _ (iZ n) = _
    rw [jX9_way_L4, hR.1, if_pos (le_y (by omega) (by omega) (by omega))]
    rfl
theorem x9_isBreak (hR : PrM h n b pf) (hK : PkM h n b pf n) (hok : PrOk n b pf) {k : Int} (k1 : -100 ≤ k) (k2 : k ≤ 100) : jX9_isBreak (iZ k) h = some (isB n b pf k) := by
  have hn0 := hok.1
  have hn := hok.2.1
  have hsb : 0 ≤ sm_ (fun c => b1 (decide (tw n b pf c < k))) n ∧ sm_ (fun c => b1 (decide (tw n b pf c < k))) n ≤ n * 1 := sm_bound hok.1 (fun c _ _ => by
    have : ∀ x : Bool, 0 ≤ b1 x ∧ b1 x ≤ 1 := by decide
    exact this _)
  unfold jX9_isBreak
  rw [x9_turn hR hK ⟨hn0, hn⟩, Option.bind_some]
  refine loopN (fun f (x : Int32 × Int32) => jX9_isBreak_L10 (iZ k) (iZ (tn n b pf)) h (fun y4_2 => (if y4_2 = (iZ k) then some true else some false)) f x.1 x.2) (fun z => (iZ (sm_ (fun c => b1 (decide (tw n b pf c < k))) z), iZ z)) (a := 0) (b := n) hok.1 (fun f z h1 h2 => ?_) (fun f => ?_) FU (FU_gt (by omega))
  · show jX9_isBreak_L10 (iZ k) _ h _ (f + 1) _ (iZ z) = jX9_isBreak_L10 (iZ k) _ h _ f _ _
    have ht := tw_in (b := b) (pf := pf) hok.1 z
    rw [jX9_isBreak_L10, hR.1, if_neg (le_n h2 (by omega) (by omega)), x9_twish hR hok h1 h2, Option.bind_some, x9_truth, x9_truth, sm_s _ h1, i1, iZ_add, iZ_add, iZ_add]
    by_cases q : tw n b pf z < k
    · rw [if_neg (le_n (by omega) (by omega) (by omega)), decide_eq_true q]
    · rw [if_pos (le_y (by omega) (by omega) (by omega)), decide_eq_false q]
  · show jX9_isBreak_L10 (iZ k) _ h _ (f + 1) _ (iZ n) = _
    rw [jX9_isBreak_L10, hR.1, if_pos (le_y (by omega) (by omega) (by omega))]
    unfold isB
    by_cases q : sm_ (fun c => b1 (decide (tw n b pf c < k))) n = k
    · rw [if_pos (by rw [q]), decide_eq_true q]
    · rw [if_neg (eq_n (by omega) (by omega) (by omega) (by omega) (by omega)), decide_eq_false q]
theorem x9_breaks (hR : PrM h n b pf) (hK : PkM h n b pf n) (hok : PrOk n b pf) : jX9_breaks h = some (iZ (brN n b pf)) := by
  have hn0 := hok.1
  have hn := hok.2.1
  refine loopN (fun f (x : Int32 × Int32) => jX9_breaks_L4 h f x.1 x.2) (fun z => (iZ (sm_ (fun k => b1 (isB n b pf (k + 1))) z), iZ (z + 1))) (a := 0) (b := n) hok.1 (fun f z h1 h2 => ?_) (fun f => ?_) FU (FU_gt (by omega))
  · show jX9_breaks_L4 h (f + 1) _ (iZ (z + 1)) = jX9_breaks_L4 h f _ _
    rw [jX9_breaks_L4, hR.1, if_neg (lt_n (by omega) (by omega) (by omega)), x9_isBreak hR hK hok (by omega) (by omega), Option.bind_some, x9_truth, sm_s _ h1, i1, iZ_add, iZ_add]
  · show jX9_breaks_L4 h (f + 1) _ (iZ (n + 1)) = _
    rw [jX9_breaks_L4, hR.1, if_pos (lt_y (by omega) (by omega) (by omega))]
    rfl
theorem x9_wants (hR : PrM h n b pf) (hok : PrOk n b pf) {s : Int} (s1 : -100 ≤ s) (s2 : s ≤ 100) : jX9_wants (iZ s) h = some (iZ (wsN n pf s)) := by
  have hn0 := hok.1
  have hn := hok.2.1
  refine loopN (fun f (x : Int32 × Int32) => jX9_wants_L4 (iZ s) h f x.1 x.2) (fun z => (iZ (sm_ (fun c => b1 (decide (pf c = s))) z), iZ z)) (a := 0) (b := n) hok.1 (fun f z h1 h2 => ?_) (fun f => ?_) FU (FU_gt (by omega))
  · show jX9_wants_L4 (iZ s) h (f + 1) _ (iZ z) = jX9_wants_L4 (iZ s) h f _ _
    have hp := hok.2.2.2.2 z h1 h2
    rw [jX9_wants_L4, hR.1, if_neg (le_n h2 (by omega) (by omega)), x9_wish hR ⟨hn0, hn⟩ h1 h2, Option.bind_some, x9_truth, x9_truth, sm_s _ h1, i1, iZ_add, iZ_add, iZ_add]
    by_cases q : pf z = s
    · rw [if_pos (by rw [q]), decide_eq_true q]
    · rw [if_neg (eq_n (by omega) (by omega) (by omega) (by omega) (by omega)), decide_eq_false q]
  · show jX9_wants_L4 (iZ s) h (f + 1) _ (iZ n) = _
    rw [jX9_wants_L4, hR.1, if_pos (le_y (by omega) (by omega) (by omega))]
    rfl
theorem x9_preferred (hR : PrM h n b pf) (hok : PrOk n b pf) : jX9_preferred h = some (iZ (prN n pf)) := by
  have hn0 := hok.1
  have hn := hok.2.1
  refine loopN (fun f (x : Int32 × Int32) => jX9_preferred_L4 h f x.1 x.2) (fun z => (iZ (sm_ (fun s => b1 (decide (0 < wsN n pf s))) z), iZ z)) (a := 0) (b := n + 1) (by omega) (fun f z h1 h2 => ?_) (fun f => ?_) FU (FU_gt (by omega))
  · show jX9_preferred_L4 h (f + 1) _ (iZ z) = jX9_preferred_L4 h f _ _
    have hw := wsN_in (pf := pf) (s := z) hn0
    rw [jX9_preferred_L4, x9_spots hR, Option.bind_some, if_neg (le_n (by omega) (by omega) (by omega)), x9_wants hR hok (by omega) (by omega), Option.bind_some, x9_truth, x9_truth, sm_s _ h1, i1, iZ_add, iZ_add, iZ_add, i0]
    by_cases q : 0 < wsN n pf z
    · rw [if_neg (le_n (by omega) (by omega) (by omega)), decide_eq_true q]
    · rw [if_pos (le_y (by omega) (by omega) (by omega)), decide_eq_false q]
  · show jX9_preferred_L4 h (f + 1) _ (iZ (n + 1)) = _
    rw [jX9_preferred_L4, x9_spots hR, Option.bind_some, if_pos (le_y (by omega) (by omega) (by omega))]
    rfl
end
