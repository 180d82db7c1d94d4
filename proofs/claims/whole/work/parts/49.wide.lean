/-! far, wide -/
theorem sWk_scr {h h2 : HD} (hF : Fr sWk h h2) : Fr scr h h2 := hF.mono fun r k q => decide_eq_false fun e => by rw [e] at q; cases q
theorem x8_measured {h h1 : HD} {n : Int} {pf : Int → Int} (hn : 0 ≤ n ∧ n ≤ 11) (e0 : jX7_grow 0 h = some h1) (hG : GC h1 n (mR n) (cdR n pf) n) : ∃ h2, jX8_measured h = some h2 ∧ Fr sDi h1 h2 ∧ GC h2 n (mR n) (cdR n pf) n ∧ DC h2 n (dd n (mR n) (cdR n pf) n) := by
  obtain ⟨h2, e2, f2, d2⟩ := x7_measure hn hG
  refine ⟨h2, ?_, f2, hG.di f2, d2⟩
  unfold jX8_measured
  rw [e0, Option.bind_some, e2]
  rfl
/-- the reference's tree grows alike behind the class's measuring -/
theorem both_measured {h : HD} (hR : Rel h) : ∃ (R : Row) (h1 h2 : HD), RCur h R ∧ jX8_measured h = some h1 ∧ Fr scr h h1 ∧ GC h1 R.1 (mR R.1) (cdR R.1 R.2.2.1) R.1 ∧ DC h1 R.1 (dd R.1 (mR R.1) (cdR R.1 R.2.2.1) R.1) ∧ jX9_grows (c0 h1 0) = some h2 ∧ Fr sTm (c0 h1 0) h2 ∧ TM h2 R.1 (mR R.1) (cdR R.1 R.2.2.1) R.1 ∧ PrM h2 R.1 R.2.1 R.2.2.1 ∧ Fr scr h h2 := by
  obtain ⟨R, g1, -, hc, e0, -, f1, gc, -, -, -, -, -, -, -⟩ := both_grown hR
  obtain ⟨hok, hC, hM⟩ := id hc
  have hn : 0 ≤ R.1 ∧ R.1 ≤ 11 := ⟨hok.1.1, hok.1.2.1⟩
  obtain ⟨h1, e1, f2, gc1, d1⟩ := x8_measured hn e0 gc
  have F1 : Fr scr h h1 := (sTr_scr f1).tr (sTr_scr (sDi_Tr f2))
  have hQ1 : PrM (c0 h1 0) R.1 R.2.1 R.2.2.1 := hM.pr.fr (F1.tr (c0_fr h1 0)) (fun _ => rfl)
  obtain ⟨h2, e2, f3, t2⟩ := x9_grows hQ1 hok.1
  exact ⟨R, h1, h2, hc, e1, F1, gc1, d1, e2, f3, t2, hQ1.fr f3 (fun _ => rfl), (F1.tr (c0_fr h1 0)).tr (sTm_scr f3)⟩
theorem p_far {h : HD} (hR : Rel h) (p w : Int32) : PP [2] (jX8_far p w h) (jX9_far p w) := by
  obtain ⟨R, h1, h2, ⟨hok, hC, hM⟩, e1, F1, g1, d1, e2, f2, t2, hQ2, F2⟩ := both_measured hR
  have hn : 0 ≤ R.1 ∧ R.1 ≤ 11 := ⟨hok.1.1, hok.1.2.1⟩
  obtain ⟨z, z1, z2, rfl⟩ := iZ_ex p
  obtain ⟨y, y1, y2, rfl⟩ := iZ_ex w
  have bad : (¬ (0 ≤ z ∧ z ≤ R.1) ∨ ¬ (0 ≤ y ∧ y ≤ R.1)) → jX9_far (iZ z) (iZ y) h = some (0, c0 h 1) := fun hb => by
    unfold jX9_far
    rw [x9_isSpot hM.pr hn z1 z2, Option.bind_some]
    by_cases q : 0 ≤ z ∧ z ≤ R.1
    · rw [decide_eq_true q, if_pos rfl, x9_isSpot hM.pr hn y1 y2, decide_eq_false (hb.resolve_left (fun c => c q)), Option.bind_some, if_neg Bool.false_ne_true, x9_goes]
      rfl
    · rw [decide_eq_false q, if_neg Bool.false_ne_true, x9_goes]
      rfl
  by_cases q : 0 ≤ z ∧ z ≤ R.1
  · by_cases r : 0 ≤ y ∧ y ≤ R.1
    · obtain ⟨h3, e3, f3, a3⟩ := x9_walks hQ2 hn t2 q.1 q.2
      refine PP.ok (v := iZ (dd R.1 (mR R.1) (cdR R.1 R.2.2.1) R.1 z y)) (h1 := h1) (h2 := h3) ?_ ?_ (hR.fr (F2.tr (sWk_scr f3))) ((f3.1 _ _ rfl).trans ((f2.1 _ _ rfl).trans (c0_0 _ _)))
      · unfold jX8_far
        rw [x8_needNode hC.1 hn z1 z2, if_pos q, Option.bind_some, sm_r, x8_needNode hC.1 hn y1 y2, if_pos r, Option.bind_some, sm_r, e1, Option.bind_some, x7_distance hn g1 d1 q.1 q.2 r.1 r.2]
        rfl
      · unfold jX9_far
        have hQ1 := hM.pr.fr F1 (fun _ => rfl)
        rw [x9_isSpot hQ1 hn z1 z2, decide_eq_true q, Option.bind_some, if_pos rfl, x9_isSpot hQ1 hn y1 y2, decide_eq_true r, Option.bind_some, if_pos rfl, x9_goes, Option.bind_some, if_pos rfl]
        show (jX9_grows (c0 h1 0)).bind _ = _
        rw [e2, Option.bind_some, e3, Option.bind_some, inB_t (by omega) (by omega) (by omega), if_pos rfl, iZ_nat (by omega) (by omega), a3 y r.1 (by omega)]
    · refine PP.ex (h1 := h) (h2 := c0 h 1) (w := 0) 0 (e := 2) ?_ (bad (Or.inr r)) (hR.fr (c0_fr h 1)) rfl (c0_0 _ _)
      unfold jX8_far
      rw [x8_needNode hC.1 hn z1 z2, if_pos q, Option.bind_some, sm_r, x8_needNode hC.1 hn y1 y2, if_neg r]
      rfl
  · refine PP.ex (h1 := h) (h2 := c0 h 1) (w := 0) 0 (e := 2) ?_ (bad (Or.inl q)) (hR.fr (c0_fr h 1)) rfl (c0_0 _ _)
    unfold jX8_far
    rw [x8_needNode hC.1 hn z1 z2, if_neg q]
    rfl
/-- the greatest -/
def MX (n : Int) (D : Int → Int → Int) (w : Int) : Prop := (∀ u v, 0 ≤ u → u ≤ n → 0 ≤ v → v ≤ n → D u v ≤ w) ∧ 0 ≤ w ∧ (w = 0 ∨ ∃ u v, 0 ≤ u ∧ u ≤ n ∧ 0 ≤ v ∧ v ≤ n ∧ D u v = w)
theorem MX.eq {n : Int} {D : Int → Int → Int} {w w2 : Int} (h : MX n D w) (h2 : MX n D w2) : w = w2 := by
  have a : w ≤ w2 := by
    rcases h.2.2 with e | ⟨u, v, u0, u1, v0, v1, e⟩
    · have := h2.2.1; omega
    · have := h2.1 u v u0 u1 v0 v1; omega
  have b : w2 ≤ w := by
    rcases h2.2.2 with e | ⟨u, v, u0, u1, v0, v1, e⟩
    · have := h.2.1; omega
    · have := h.1 u v u0 u1 v0 v1; omega
  omega
def AT (n : Int) (D : Int → Int → Int) (w : Int) : Prop := (0 ≤ w ∧ w ≤ n) ∧ (w = 0 ∨ ∃ u v, 0 ≤ u ∧ u ≤ n ∧ 0 ≤ v ∧ v ≤ n ∧ D u v = w)
section
variable {h : HD} {n b : Int} {pf : Int → Int}
theorem x7_greatest {m x : Int} {cd : Int → Int} {D : Int → Int → Int} (hn : 0 ≤ n ∧ n ≤ 11) (hG : GC h n m cd x) (hD : DC h n D) (hs : ∀ u v, D u v = D v u) (h0 : ∀ u, D u u = 0) (hb : ∀ u v, -1 ≤ D u v ∧ D u v ≤ n) : ∃ w, jX7_greatestDistance h = some (iZ w) ∧ MX n D w := by
  unfold jX7_greatestDistance
  have key : ∃ w, jX7_greatestDistance_L4 h FU (iZ 0) (iZ 0) = some (iZ w) ∧ AT n D w ∧ ∀ u v, 0 ≤ u → u < n + 1 → 0 ≤ v → v < u → D u v ≤ w := by
    refine loopI (fun f (x : Int32 × Int32) => jX7_greatestDistance_L4 h f x.1 x.2) (fun z x => ∃ w, x.1 = iZ w ∧ x.2 = iZ z ∧ AT n D w ∧ ∀ u v, 0 ≤ u → u < z → 0 ≤ v → v < u → D u v ≤ w) (a := 0) (b := n + 1) (fun r => ∃ w, r = some (iZ w) ∧ AT n D w ∧ ∀ u v, 0 ≤ u → u < n + 1 → 0 ≤ v → v < u → D u v ≤ w) (by omega) ?_ ?_ FU (iZ 0, iZ 0) (FU_gt (by omega)) ⟨0, rfl, rfl, ⟨⟨by omega, by omega⟩, Or.inl rfl⟩, fun u v u0 u1 _ _ => by omega⟩
    · intro f z x z0 z1 hI
      obtain ⟨x1, x2⟩ := x
      obtain ⟨w, e1, e2, hA, hw⟩ := hI
      replace e1 : x1 = iZ w := e1
      replace e2 : x2 = iZ z := e2
      subst e1 e2
      have inner : ∀ K : Int32 → Option Int32, ∃ w2, jX7_greatestDistance_L14 (iZ z) h K FU (iZ w) (iZ 0) = K (iZ w2) ∧ w ≤ w2 ∧ AT n D w2 ∧ ∀ v, 0 ≤ v → v < z → D z v ≤ w2 := fun K => by
        refine loopI (fun f (x : Int32 × Int32) => jX7_greatestDistance_L14 (iZ z) h K f x.1 x.2) (fun y x => ∃ w2, x.1 = iZ w2 ∧ x.2 = iZ y ∧ w ≤ w2 ∧ AT n D w2 ∧ ∀ v, 0 ≤ v → v < y → D z v ≤ w2) (a := 0) (b := z) (fun r => ∃ w2, r = K (iZ w2) ∧ w ≤ w2 ∧ AT n D w2 ∧ ∀ v, 0 ≤ v → v < z → D z v ≤ w2) z0 ?_ ?_ FU (iZ w, iZ 0) (FU_gt (by omega)) ⟨w, rfl, rfl, Int.le_refl w, hA, fun v v0 v1 => by omega⟩
        · intro f y x y0 y1 hI
          obtain ⟨x1, x2⟩ := x
          obtain ⟨w2, e1, e2, hle, hA2, hw2⟩ := hI
          replace e1 : x1 = iZ w2 := e1
          replace e2 : x2 = iZ y := e2
          subst e1 e2
          have hd := hb z y
          have ha := hA2.1
          refine ⟨(iZ (if w2 < D z y then D z y else w2), iZ (y + 1)), ?_, if w2 < D z y then D z y else w2, rfl, rfl, by split <;> omega, ?_, fun v v0 v1 => ?_⟩
          · show jX7_greatestDistance_L14 (iZ z) h K (f + 1) (iZ w2) (iZ y) = _
            rw [jX7_greatestDistance_L14, if_neg (le_n (by omega) (by omega) (by omega)), x7_distance hn hG hD z0 (by omega) y0 (by omega), Option.bind_some, i1, iZ_add]
            by_cases q : w2 < D z y
            · rw [if_pos (lt_y (by omega) (by omega) (by omega)), if_pos q]
            · rw [if_neg (lt_n (by omega) (by omega) (by omega)), if_neg q]
          · split
            · exact ⟨⟨by omega, by omega⟩, Or.inr ⟨z, y, z0, by omega, y0, by omega, rfl⟩⟩
            · exact hA2
          · by_cases q : v = y
            · rw [q]; split <;> omega
            · have := hw2 v v0 (by omega)
              split <;> omega
        · intro f x hI
          obtain ⟨x1, x2⟩ := x
          obtain ⟨w2, e1, e2, hle, hA2, hw2⟩ := hI
          replace e1 : x1 = iZ w2 := e1
          replace e2 : x2 = iZ z := e2
          subst e1 e2
          refine ⟨w2, ?_, hle, hA2, hw2⟩
          show jX7_greatestDistance_L14 (iZ z) h K (f + 1) (iZ w2) (iZ z) = _
          rw [jX7_greatestDistance_L14, if_pos (le_y (by omega) (by omega) (by omega))]
      obtain ⟨w2, e3, hle, hA2, hw2⟩ := inner (fun y14_1 => jX7_greatestDistance_L4 h f y14_1 (iZ (z + 1)))
      refine ⟨(iZ w2, iZ (z + 1)), ?_, w2, rfl, rfl, hA2, fun u v u0 u1 v0 v1 => ?_⟩
      · show jX7_greatestDistance_L4 h (f + 1) (iZ w) (iZ z) = _
        rw [jX7_greatestDistance_L4, hG.1, if_neg (le_n (by omega) (by omega) (by omega)), i1, iZ_add, i0, e3]
      · by_cases q : u = z
        · rw [q]; exact hw2 v v0 (by omega)
        · exact Int.le_trans (hw u v u0 (by omega) v0 v1) hle
    · intro f x hI
      obtain ⟨x1, x2⟩ := x
      obtain ⟨w, e1, e2, hA, hw⟩ := hI
      replace e1 : x1 = iZ w := e1
      replace e2 : x2 = iZ (n + 1) := e2
      subst e1 e2
      refine ⟨w, ?_, hA, hw⟩
      show jX7_greatestDistance_L4 h (f + 1) (iZ w) (iZ (n + 1)) = _
      rw [jX7_greatestDistance_L4, hG.1, if_pos (le_y (by omega) (by omega) (by omega))]
  obtain ⟨w, e, hA, hw⟩ := key
  refine ⟨w, e, fun u v u0 u1 v0 v1 => ?_, hA.1.1, hA.2⟩
  rcases Int.lt_or_le v u with q | q
  · exact hw u v u0 (by omega) v0 q
  · by_cases q2 : u = v
    · rw [q2, h0]; exact hA.1.1
    · rw [hs]; exact hw v u v0 (by omega) u0 (by omega)
theorem x9_wide (hR : PrM h n b pf) (hn : 0 ≤ n ∧ n ≤ 11) (hT : TM h n (mR n) (cdR n pf) n) : ∃ w h2, jX9_wide_L13 FU (iZ 0) (iZ 0) h = some (iZ w, h2) ∧ Fr sWk h h2 ∧ MX n (dd n (mR n) (cdR n pf) n) w := by
  have hmk := mR_ok hn.1
  have hcd : ∀ i, 0 ≤ i → i < mR n → 0 ≤ cdR n pf i ∧ cdR n pf i ≤ n := fun i _ _ => cdR_in hn.1 pf i
  have hb := dd_in (j := n) hn.1 hmk hcd hn.1 (Int.le_refl n)
  obtain ⟨D, hD⟩ : ∃ D, dd n (mR n) (cdR n pf) n = D := ⟨_, rfl⟩
  rw [hD] at hb ⊢
  have key : ∃ w h2, jX9_wide_L13 FU (iZ 0) (iZ 0) h = some (iZ w, h2) ∧ Fr sWk h h2 ∧ AT n D w ∧ ∀ u v, 0 ≤ u → u < n + 1 → 0 ≤ v → v ≤ n → D u v ≤ w := by
    refine loopI (fun f (x : Int32 × Int32 × HD) => jX9_wide_L13 f x.1 x.2.1 x.2.2) (fun z x => ∃ w, x.1 = iZ w ∧ x.2.1 = iZ z ∧ Fr sWk h x.2.2 ∧ AT n D w ∧ ∀ u v, 0 ≤ u → u < z → 0 ≤ v → v ≤ n → D u v ≤ w) (a := 0) (b := n + 1) (fun r => ∃ w h2, r = some (iZ w, h2) ∧ Fr sWk h h2 ∧ AT n D w ∧ ∀ u v, 0 ≤ u → u < n + 1 → 0 ≤ v → v ≤ n → D u v ≤ w) (by omega) ?_ ?_ FU (iZ 0, iZ 0, h) (FU_gt (by omega)) ⟨0, rfl, rfl, Fr.rf, ⟨⟨by omega, by omega⟩, Or.inl rfl⟩, fun u v u0 u1 _ _ => by omega⟩
    · intro f z x z0 z1 hI
      obtain ⟨x1, x2, g⟩ := x
      obtain ⟨w, e1, e2, hF, hA, hw⟩ := hI
      replace e1 : x1 = iZ w := e1
      replace e2 : x2 = iZ z := e2
      subst e1 e2
      replace hF : Fr sWk h g := hF
      have hRg := hR.fr hF (fun _ => rfl)
      obtain ⟨g2, e3, f3, a3⟩ := x9_walks hRg hn (hT.wk hF) z0 (show z ≤ n by omega)
      rw [hD] at a3
      have hR2 := hRg.fr f3 (fun _ => rfl)
      have inner : ∀ K : Int32 → Option (Int32 × HD), ∃ w2, jX9_wide_L28 (iZ z) g2 K FU (iZ w) (iZ 0) = K (iZ w2) ∧ w ≤ w2 ∧ AT n D w2 ∧ ∀ v, 0 ≤ v → v < n + 1 → D z v ≤ w2 := fun K => by
        refine loopI (fun f (x : Int32 × Int32) => jX9_wide_L28 (iZ z) g2 K f x.1 x.2) (fun y x => ∃ w2, x.1 = iZ w2 ∧ x.2 = iZ y ∧ w ≤ w2 ∧ AT n D w2 ∧ ∀ v, 0 ≤ v → v < y → D z v ≤ w2) (a := 0) (b := n + 1) (fun r => ∃ w2, r = K (iZ w2) ∧ w ≤ w2 ∧ AT n D w2 ∧ ∀ v, 0 ≤ v → v < n + 1 → D z v ≤ w2) (by omega) ?_ ?_ FU (iZ w, iZ 0) (FU_gt (by omega)) ⟨w, rfl, rfl, Int.le_refl w, hA, fun v v0 v1 => by omega⟩
        · intro f y x y0 y1 hI
          obtain ⟨x1, x2⟩ := x
          obtain ⟨w2, e1, e2, hle, hA2, hw2⟩ := hI
          replace e1 : x1 = iZ w2 := e1
          replace e2 : x2 = iZ y := e2
          subst e1 e2
          have hd := hb z y
          have ha := hA2.1
          refine ⟨(iZ (if w2 < D z y then D z y else w2), iZ (y + 1)), ?_, if w2 < D z y then D z y else w2, rfl, rfl, by split <;> omega, ?_, fun v v0 v1 => ?_⟩
          · show jX9_wide_L28 (iZ z) g2 K (f + 1) (iZ w2) (iZ y) = _
            rw [jX9_wide_L28, x9_spots hR2, Option.bind_some, if_neg (le_n (by omega) (by omega) (by omega)), inB_t (by omega) (by omega) (by omega), if_pos rfl, if_pos rfl, iZ_nat (by omega) (by omega), a3 y y0 (by omega), i1, iZ_add]
            by_cases q : w2 < D z y
            · rw [if_neg (le_n (by omega) (by omega) (by omega)), if_pos q]
            · rw [if_pos (le_y (by omega) (by omega) (by omega)), if_neg q]
          · split
            · exact ⟨⟨by omega, by omega⟩, Or.inr ⟨z, y, z0, by omega, y0, by omega, rfl⟩⟩
            · exact hA2
          · by_cases q : v = y
            · rw [q]; split <;> omega
            · have := hw2 v v0 (by omega)
              split <;> omega
        · intro f x hI
          obtain ⟨x1, x2⟩ := x
          obtain ⟨w2, e1, e2, hle, hA2, hw2⟩ := hI
          replace e1 : x1 = iZ w2 := e1
          replace e2 : x2 = iZ (n + 1) := e2
          subst e1 e2
          refine ⟨w2, ?_, hle, hA2, hw2⟩
          show jX9_wide_L28 (iZ z) g2 K (f + 1) (iZ w2) (iZ (n + 1)) = _
          rw [jX9_wide_L28, x9_spots hR2, Option.bind_some, if_pos (le_y (by omega) (by omega) (by omega))]
      obtain ⟨w2, e4, hle, hA2, hw2⟩ := inner (fun y28_1 => jX9_wide_L13 f y28_1 (iZ (z + 1)) g2)
      refine ⟨(iZ w2, iZ (z + 1), g2), ?_, w2, rfl, rfl, hF.tr f3, hA2, fun u v u0 u1 v0 v1 => ?_⟩
      · show jX9_wide_L13 (f + 1) (iZ w) (iZ z) g = _
        rw [jX9_wide_L13, x9_spots hRg, Option.bind_some, if_neg (le_n (by omega) (by omega) (by omega)), e3, Option.bind_some, i1, iZ_add, i0, e4]
      · by_cases q : u = z
        · rw [q]; exact hw2 v v0 (by omega)
        · exact Int.le_trans (hw u v u0 (by omega) v0 v1) hle
    · intro f x hI
      obtain ⟨x1, x2, g⟩ := x
      obtain ⟨w, e1, e2, hF, hA, hw⟩ := hI
      replace e1 : x1 = iZ w := e1
      replace e2 : x2 = iZ (n + 1) := e2
      subst e1 e2
      replace hF : Fr sWk h g := hF
      refine ⟨w, g, ?_, hF, hA, hw⟩
      show jX9_wide_L13 (f + 1) (iZ w) (iZ (n + 1)) g = _
      rw [jX9_wide_L13, x9_spots (hR.fr hF (fun _ => rfl)), Option.bind_some, if_pos (le_y (by omega) (by omega) (by omega))]
  obtain ⟨w, g, e, hF, hA, hw⟩ := key
  exact ⟨w, g, e, hF, fun u v u0 u1 v0 v1 => hw u v u0 (by omega) v0 v1, hA.1.1, hA.2⟩
end
theorem p_wide {h : HD} (hR : Rel h) : PV (jX8_wide h) jX9_wide := by
  obtain ⟨R, h1, h2, ⟨hok, hC, hM⟩, e1, F1, g1, d1, e2, f2, t2, hQ2, F2⟩ := both_measured hR
  have hn : 0 ≤ R.1 ∧ R.1 ≤ 11 := ⟨hok.1.1, hok.1.2.1⟩
  have hmk := mR_ok hn.1
  have hcd : ∀ i, 0 ≤ i → i < mR R.1 → 0 ≤ cdR R.1 R.2.2.1 i ∧ cdR R.1 R.2.2.1 i ≤ R.1 := fun i _ _ => cdR_in hn.1 _ i
  have hda := dist_all hn.1 hmk hcd hn.1 (Int.le_refl R.1)
  obtain ⟨w, ew, hw⟩ := x7_greatest hn g1 d1 hda.2.1 hda.1 (dd_in hn.1 hmk hcd hn.1 (Int.le_refl _))
  obtain ⟨w2, h3, e3, f3, hw2⟩ := x9_wide hQ2 hn t2
  have := hw.eq hw2
  subst this
  refine ⟨iZ w, h1, h3, ?_, ?_, hR.fr (F2.tr (sWk_scr f3))⟩
  · unfold jX8_wide
    rw [e1, Option.bind_some, ew]
    rfl
  · unfold jX9_wide
    rw [lt_eq, c0_def, e2, Option.bind_some, i0, e3]
