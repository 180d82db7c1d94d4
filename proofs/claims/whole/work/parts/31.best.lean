/-! THE BEST PREFERENCE, THE LATEST PLACE -/
/-- best and most, of the preferences 0 to z - 1 -/
def bf (n b : Int) (pf : Int → Int) (c s : Int) (z : Int) : Int × Int := itr (fun k (m : Int × Int) => if m.2 < lkN n b (updP pf c k) then (k, lkN n b (updP pf c k)) else m) (s, -1) z
theorem bf_s (n b : Int) (pf : Int → Int) (c s : Int) {z : Int} (h : 0 ≤ z) : bf n b pf c s (z + 1) = if (bf n b pf c s z).2 < lkN n b (updP pf c z) then (z, lkN n b (updP pf c z)) else bf n b pf c s z := itr_s _ _ h
theorem bf_in {n b : Int} {pf : Int → Int} {c s : Int} (ho : PrOk n b pf) (hs : -1 ≤ s ∧ s ≤ 11) {z : Int} (hz : 0 ≤ z) (hzn : z ≤ n + 1) : -1 ≤ (bf n b pf c s z).1 ∧ (bf n b pf c s z).1 ≤ 11 ∧ -1 ≤ (bf n b pf c s z).2 ∧ (bf n b pf c s z).2 ≤ 11 := by
  have hn := ho.2.1
  refine ind_Z (P := fun y => -1 ≤ (bf n b pf c s y).1 ∧ (bf n b pf c s y).1 ≤ 11 ∧ -1 ≤ (bf n b pf c s y).2 ∧ (bf n b pf c s y).2 ≤ 11) ⟨hs.1, hs.2, Int.le_refl _, by show (-1 : Int) ≤ 11; decide⟩ (fun y h1 h2 ih => ?_) hz
  have hl := lkN_in (upd_ok (z := c) (v := y) ho h1 (by omega))
  rw [bf_s _ _ _ _ _ h1]
  split
  · exact ⟨by show -1 ≤ y; omega, by show y ≤ 11; omega, by show -1 ≤ lkN n b (updP pf c y); omega, by show lkN n b (updP pf c y) ≤ 11; omega⟩
  · exact ih
/-- where the search begins doesn't matter -/
theorem bf_eq {n b : Int} {pf : Int → Int} {c s t : Int} (ho : PrOk n b pf) {z : Int} (hz : 1 ≤ z) : bf n b pf c s z = bf n b pf c t z := by
  have h1 : bf n b pf c s (0 + 1) = bf n b pf c t (0 + 1) := by
    have hl := lkN_in (upd_ok (z := c) (v := 0) ho (by decide) ho.1)
    rw [bf_s _ _ _ _ _ (Int.le_refl 0), bf_s _ _ _ _ _ (Int.le_refl 0)]
    have e1 : (bf n b pf c s 0).2 = -1 := rfl
    have e2 : (bf n b pf c t 0).2 = -1 := rfl
    rw [e1, e2, if_pos (by omega), if_pos (by omega)]
  have := ind_Z (P := fun k => bf n b pf c s (k + 1) = bf n b pf c t (k + 1)) (n := z - 1) h1 (fun k q1 _ ih => by
    rw [bf_s _ _ _ _ _ (show 0 ≤ k + 1 by omega), bf_s _ _ _ _ _ (show 0 ≤ k + 1 by omega), ih]) (by omega)
  rwa [show z - 1 + 1 = z by omega] at this
theorem updP_upd (pf : Int → Int) (z v w : Int) : updP (updP pf z v) z w = updP pf z w := by
  funext i
  unfold updP
  by_cases e : i = z
  · rw [if_pos e, if_pos e]
  · rw [if_neg e, if_neg e, if_neg e]
theorem p_bestFor {h : HD} (hR : Rel h) (p : Int32) : PP [2] (jX8_bestFor p h) (jX9_bestFor p) := by
  obtain ⟨⟨⟨n, b, pf, nm⟩, hok, hC, hM⟩, -⟩ := id hR
  have ho : PrOk n b pf := hok.1
  have hP : PrC h 0 n b pf := hC.1
  have hQ : PrM h n b pf := hM.pr
  have hn : 0 ≤ n ∧ n ≤ 11 := ⟨ho.1, ho.2.1⟩
  obtain ⟨z, z1, z2, rfl⟩ := iZ_ex p
  by_cases q : 0 ≤ z ∧ z < n
  · have k8 : ∃ h1, jX8_bestFor_L12 (iZ z) FU (iZ (-1)) (iZ (-1)) (iZ 0) h = some (.inr (iZ (bf n b pf z (-1) (n + 1)).1), h1) ∧ Fr scr h h1 := by
      refine loopI (fun f (x : Int32 × Int32 × Int32 × HD) => jX8_bestFor_L12 (iZ z) f x.1 x.2.1 x.2.2.1 x.2.2.2) (fun y x => x.1 = iZ (bf n b pf z (-1) y).1 ∧ x.2.1 = iZ (bf n b pf z (-1) y).2 ∧ x.2.2.1 = iZ y ∧ Fr scr h x.2.2.2) (a := 0) (b := n + 1) (fun y => ∃ h1, y = some (.inr (iZ (bf n b pf z (-1) (n + 1)).1), h1) ∧ Fr scr h h1) (by omega) ?_ ?_ FU (iZ (-1), iZ (-1), iZ 0, h) (FU_gt (by omega)) ⟨rfl, rfl, rfl, Fr.rf⟩
      · intro f y x y0 y1 hI
        obtain ⟨x1, x2, x3, h4⟩ := x
        obtain ⟨a1, a2, a3, hF⟩ := hI
        replace a1 : x1 = iZ (bf n b pf z (-1) y).1 := a1
        replace a2 : x2 = iZ (bf n b pf z (-1) y).2 := a2
        replace a3 : x3 = iZ y := a3
        replace hF : Fr scr h h4 := hF
        subst a1; subst a2; subst a3
        have hb := bf_in (c := z) (s := -1) ho (by decide) y0 (by omega)
        have ho2 := upd_ok (z := z) (v := y) ho y0 (by omega)
        have hl := lkN_in ho2
        have hC4 := hC.fr hF (scr_1 (by decide))
        have hsp : jX2_spots 0 h4 = iZ (n + 1) := by unfold jX2_spots; rw [hC4.1.1, i1, iZ_add]
        obtain ⟨h5, e5, f5, k5⟩ := x8_parkedIf hC4 hok q.1 q.2 y0 (show y ≤ n by omega)
        by_cases qq : (bf n b pf z (-1) y).2 < lkN n b (updP pf z y)
        · refine ⟨(iZ y, iZ (lkN n b (updP pf z y)), iZ (y + 1), h5), ?_, ?_, ?_, rfl, hF.tr f5⟩
          · show jX8_bestFor_L12 (iZ z) (f + 1) _ _ (iZ y) h4 = _
            rw [jX8_bestFor_L12, hsp, if_neg (le_n (by omega) (by omega) (by omega)), e5, Option.bind_some, x4_lucky k5 ho2, Option.bind_some, if_neg (le_n (by omega) (by omega) (by omega)), i1, iZ_add]
          · show iZ y = _
            rw [bf_s _ _ _ _ _ y0, if_pos qq]
          · show iZ (lkN n b (updP pf z y)) = _
            rw [bf_s _ _ _ _ _ y0, if_pos qq]
        · refine ⟨(iZ (bf n b pf z (-1) y).1, iZ (bf n b pf z (-1) y).2, iZ (y + 1), h5), ?_, ?_, ?_, rfl, hF.tr f5⟩
          · show jX8_bestFor_L12 (iZ z) (f + 1) _ _ (iZ y) h4 = _
            rw [jX8_bestFor_L12, hsp, if_neg (le_n (by omega) (by omega) (by omega)), e5, Option.bind_some, x4_lucky k5 ho2, Option.bind_some, if_pos (le_y (by omega) (by omega) (by omega)), i1, iZ_add]
          · rw [bf_s _ _ _ _ _ y0, if_neg qq]
          · rw [bf_s _ _ _ _ _ y0, if_neg qq]
      · intro f x hI
        obtain ⟨x1, x2, x3, h4⟩ := x
        obtain ⟨a1, a2, a3, hF⟩ := hI
        replace a1 : x1 = iZ (bf n b pf z (-1) (n + 1)).1 := a1
        replace a3 : x3 = iZ (n + 1) := a3
        subst a1; subst a3
        have hC4 := hC.fr hF (scr_1 (by decide))
        have hsp : jX2_spots 0 h4 = iZ (n + 1) := by unfold jX2_spots; rw [hC4.1.1, i1, iZ_add]
        refine ⟨h4, ?_, hF⟩
        show jX8_bestFor_L12 (iZ z) (f + 1) _ _ (iZ (n + 1)) h4 = _
        rw [jX8_bestFor_L12, hsp, if_pos (le_y (by omega) (by omega) (by omega))]
    obtain ⟨h1, e1, f1⟩ := k8
    have hM1 := (hM.fr f1 (fun _ => rfl) (fun _ => rfl))
    obtain ⟨h3, e3, f3, a3, m3⟩ := x9_away (hM1.c0 0) hn.2
    have k9 : ∃ h2, jX9_bestFor_L25 (iZ z) (fun y25_2 h8 => (jX9_fromAway y25_2 h8).bind fun q9 => some (q9.1, q9.2)) FU (iZ 0) (iZ (-1)) (iZ 0) h3 = some (iZ (bf n b pf z 0 (n + 1)).1, h2) ∧ Fr sW (c0 h1 0) h2 ∧ RwM h2 (7, 0, 2) (7, 0, 7) 0 0 (n, b, pf, nm) := by
      refine loopI (fun f (x : Int32 × Int32 × Int32 × HD) => jX9_bestFor_L25 (iZ z) (fun y25_2 h8 => (jX9_fromAway y25_2 h8).bind fun q9 => some (q9.1, q9.2)) f x.1 x.2.1 x.2.2.1 x.2.2.2) (fun y x => x.1 = iZ (bf n b pf z 0 y).1 ∧ x.2.1 = iZ (bf n b pf z 0 y).2 ∧ x.2.2.1 = iZ y ∧ Fr sW (c0 h1 0) x.2.2.2 ∧ RwM x.2.2.2 (7, 0, 5) (7, 0, 10) 0 0 (n, b, pf, nm) ∧ ∃ w, RwM x.2.2.2 (7, 0, 2) (7, 0, 7) 0 0 (n, b, updP pf z w, nm)) (a := 0) (b := n + 1) (fun y => ∃ h2, y = some (iZ (bf n b pf z 0 (n + 1)).1, h2) ∧ Fr sW (c0 h1 0) h2 ∧ RwM h2 (7, 0, 2) (7, 0, 7) 0 0 (n, b, pf, nm)) (by omega) ?_ ?_ FU (iZ 0, iZ (-1), iZ 0, h3) (FU_gt (by omega)) ⟨rfl, rfl, rfl, aw_W f3, a3, pf z, ?_⟩
      · intro f y x y0 y1 hI
        obtain ⟨x1, x2, x3, h4⟩ := x
        obtain ⟨a1, a2, a3, hF, aw, w, mw⟩ := hI
        replace a1 : x1 = iZ (bf n b pf z 0 y).1 := a1
        replace a2 : x2 = iZ (bf n b pf z 0 y).2 := a2
        replace a3 : x3 = iZ y := a3
        replace hF : Fr sW (c0 h1 0) h4 := hF
        replace mw : RwM h4 (7, 0, 2) (7, 0, 7) 0 0 (n, b, updP pf z w, nm) := mw
        replace aw : RwM h4 (7, 0, 5) (7, 0, 10) 0 0 (n, b, pf, nm) := aw
        subst a1; subst a2; subst a3
        have hb := bf_in (c := z) (s := 0) ho (by decide) y0 (by omega)
        have ho2 := upd_ok (z := z) (v := y) ho y0 (by omega)
        have hl := lkN_in ho2
        have m5 := x9_setw (v := y) mw q.1
        rw [updP_upd] at m5
        obtain ⟨h5, e5, f5⟩ := x9_settingOf (R := (n, b, updP pf z y, nm)) m5.pr ⟨ho2, hok.2⟩ (4 : Int32)
        have e5' : stN (n, b, updP pf z y, nm) 4 = lkN n b (updP pf z y) := rfl
        rw [e5'] at e5
        have f4 : Fr sW h4 (sI h4 (7, 0, 2) (2 + z).toNat (iZ y)) := Fr.rf.sI rfl _
        have aw5 : RwM h5 (7, 0, 5) (7, 0, 10) 0 0 (n, b, pf, nm) := (aw.fr (S := sCu) (h2 := sI h4 (7, 0, 2) (2 + z).toNat (iZ y)) (Fr.rf.sI rfl _) (fun _ => rfl) (fun _ => rfl)).fr f5 (fun _ => rfl) (fun _ => rfl)
        have m6 := m5.fr f5 (fun _ => rfl) (fun _ => rfl)
        by_cases qq : (bf n b pf z 0 y).2 < lkN n b (updP pf z y)
        · refine ⟨(iZ y, iZ (lkN n b (updP pf z y)), iZ (y + 1), h5), ?_, ?_, ?_, rfl, (hF.tr f4).tr (pm_W f5), aw5, y, m6⟩
          · show jX9_bestFor_L25 (iZ z) _ (f + 1) _ _ (iZ y) h4 = _
            rw [jX9_bestFor_L25, x9_spots mw.pr, Option.bind_some, if_neg (le_n (by omega) (by omega) (by omega)), i2, iZ_add, inB_t (by omega) (by omega) (by omega), if_pos rfl, lt_eq, iZ_nat (by omega) (by omega), e5, Option.bind_some, if_pos (lt_y (by omega) (by omega) (by omega)), i1, iZ_add]
          · show iZ y = _
            rw [bf_s _ _ _ _ _ y0, if_pos qq]
          · show iZ (lkN n b (updP pf z y)) = _
            rw [bf_s _ _ _ _ _ y0, if_pos qq]
        · refine ⟨(iZ (bf n b pf z 0 y).1, iZ (bf n b pf z 0 y).2, iZ (y + 1), h5), ?_, ?_, ?_, rfl, (hF.tr f4).tr (pm_W f5), aw5, y, m6⟩
          · show jX9_bestFor_L25 (iZ z) _ (f + 1) _ _ (iZ y) h4 = _
            rw [jX9_bestFor_L25, x9_spots mw.pr, Option.bind_some, if_neg (le_n (by omega) (by omega) (by omega)), i2, iZ_add, inB_t (by omega) (by omega) (by omega), if_pos rfl, lt_eq, iZ_nat (by omega) (by omega), e5, Option.bind_some, if_neg (lt_n (by omega) (by omega) (by omega)), i1, iZ_add]
          · rw [bf_s _ _ _ _ _ y0, if_neg qq]
          · rw [bf_s _ _ _ _ _ y0, if_neg qq]
      · intro f x hI
        obtain ⟨x1, x2, x3, h4⟩ := x
        obtain ⟨a1, a2, a3, hF, aw, w, mw⟩ := hI
        replace a1 : x1 = iZ (bf n b pf z 0 (n + 1)).1 := a1
        replace a3 : x3 = iZ (n + 1) := a3
        replace mw : RwM h4 (7, 0, 2) (7, 0, 7) 0 0 (n, b, updP pf z w, nm) := mw
        subst a1; subst a3
        obtain ⟨h5, e5, f5, m5⟩ := x9_fromAway (iZ (bf n b pf z 0 (n + 1)).1) aw hn.2
        refine ⟨h5, ?_, Fr.tr hF (cu_W f5), m5⟩
        show jX9_bestFor_L25 (iZ z) _ (f + 1) _ _ (iZ (n + 1)) h4 = _
        rw [jX9_bestFor_L25, x9_spots mw.pr, Option.bind_some, if_pos (le_y (by omega) (by omega) (by omega)), e5]
        rfl
      · have : updP pf z (pf z) = pf := by
          funext i
          unfold updP
          by_cases e : i = z
          · rw [if_pos e, e]
          · rw [if_neg e]
        rw [this]
        exact m3
    obtain ⟨h2, e2, f2, m2⟩ := k9
    refine PP.ok (v := iZ (bf n b pf z 0 (n + 1)).1) (h1 := h1) (h2 := h2) ?_ ?_ (hR.new ((scr_U (f1.tr (c0_fr h1 0))).tr (sW_U f2)) ⟨hok, (hC.fr (f1.tr (c0_fr h1 0)) (scr_1 (by decide))).fr f2 (fun _ _ => rfl), m2⟩) (by rw [f2.1 _ _ rfl]; exact c0_0 _ _)
    · unfold jX8_bestFor
      rw [x8_needCar (o := 0) hP hn z1 z2, if_pos q, Option.bind_some, sm_r, im1, i0, e1, bf_eq (t := 0) ho (show 1 ≤ n + 1 by omega)]
    · unfold jX9_bestFor
      rw [x9_isCar hM1.pr hn z1 z2, decide_eq_true q, Option.bind_some, x9_goes, Option.bind_some, if_pos rfl]
      show (jX9_laysAway (c0 h1 0)).bind _ = _
      rw [e3, Option.bind_some, im1, i0]
      exact e2
  · refine PP.ex (h1 := h) (h2 := c0 h 1) (w := 0) 0 (e := 2) ?_ ?_ (hR.fr (c0_fr h 1)) rfl (c0_0 _ _)
    · unfold jX8_bestFor
      rw [x8_needCar (o := 0) hP hn z1 z2, if_neg q]; rfl
    · unfold jX9_bestFor
      rw [x9_isCar hQ hn z1 z2, decide_eq_false q, Option.bind_some, x9_goes]
      rfl
/-! the latest place -/
theorem tk_congr {N b : Int} {f g : Int → Int} {z : Int} (h : ∀ c, 0 ≤ c → c < z → f c = g c) : tkO N b f z = tkO N b g z := itr_congr (fun c T q1 q2 => by simp only [h c q1 q2])
theorem plf_at {α : Type} (f : Int → α) (c p : Int) : plf f c p p = f c := by unfold plf; rw [if_pos rfl]
theorem plf_lo {α : Type} (f : Int → α) {c p r i : Int} (h1 : i < p) (h2 : i < r) : plf f c p i = plf f c r i := by
  unfold plf
  rw [if_neg (show ¬ i = p by omega), if_pos h1, if_neg (show ¬ i = r by omega), if_pos h2]
theorem latest_at {n b : Int} {pf : Int → Int} {nm : Int → List Nat} (hok : RwOk (n, b, pf, nm)) {c : Int} (c1 : 0 ≤ c) (c2 : c < n) : 0 ≤ tkO (n + 1) b (plf pf c (n - 1)) n (pf c) ∧ tkO (n + 1) b (plf pf c (n - 1)) n (pf c) < n ∧ ∀ p, 0 ≤ p → p < n → (mv (n + 1) b (plf pf c p) p = 0 ↔ p ≤ tkO (n + 1) b (plf pf c (n - 1)) n (pf c)) := by
  have ho : PrOk n b pf := hok.1
  have hL : PrOk n b (plf pf c (n - 1)) := (plR_ok hok c1 c2 (show 0 ≤ n - 1 by omega) (show n - 1 < n by omega)).1
  have hw := ho.2.2.2.2 c c1 c2
  -- who has the spot that the car prefers, when it comes last
  have htk : tkO (n + 1) b (plf pf c (n - 1)) n (pf c) ≠ -1 := by
    by_cases q : tkO (n + 1) b (plf pf c (n - 1)) (n - 1) (pf c) = -1
    · have hm : mv (n + 1) b (plf pf c (n - 1)) (n - 1) = 0 := by
        unfold mv mvO
        rw [plf_at, if_pos q]
      have hs : sp (n + 1) b (plf pf c (n - 1)) (n - 1) = pf c := by
        unfold sp
        rw [hm, plf_at, Int.add_zero, emod_id hw.1 (by omega)]
      rw [← hs, tk_sp hL.2.2.2.2 hL.2.2.1 (by omega) (by omega) (Int.le_refl n)]
      omega
    · rw [tk_keep hL.2.2.2.2 hL.2.2.1 (c := n - 1) (by omega) (by omega) (Int.le_refl n) q]; exact q
  have hown := tk_own (b := b) (pf := plf pf c (n - 1)) ho.1 ho.1 (pf c)
  rcases hown with hown | ⟨t1, t2, t3⟩
  · exact absurd hown htk
  refine ⟨t1, t2, fun p p1 p2 => ?_⟩
  have hPp : PrOk n b (plf pf c p) := (plR_ok hok c1 c2 p1 p2).1
  have eT : tkO (n + 1) b (plf pf c p) p = tkO (n + 1) b (plf pf c (n - 1)) p := tk_congr (fun i q1 q2 => plf_lo pf q2 (by omega))
  have hmv : mv (n + 1) b (plf pf c p) p = 0 ↔ tkO (n + 1) b (plf pf c (n - 1)) p (pf c) = -1 := by
    rcases mv_cases hPp.2.2.2.2 hPp.2.2.1 p1 p2 with ⟨g1, g2⟩ | ⟨g1, k, k1, k2, k3, g2, -⟩ | ⟨g1, -, k, k1, k2, g2, -⟩
    · rw [plf_at, eT] at g1
      exact ⟨fun _ => g1, fun _ => g2⟩
    · rw [plf_at, eT] at g1
      exact ⟨fun e => by omega, fun e => absurd e g1⟩
    · rw [plf_at, eT] at g1
      exact ⟨fun e => by omega, fun e => absurd e g1⟩
  rw [hmv]
  generalize ht : tkO (n + 1) b (plf pf c (n - 1)) n (pf c) = t at *
  constructor
  · intro e
    rcases Int.lt_or_le t p with q | q
    · have := tk_sp hL.2.2.2.2 hL.2.2.1 t1 q (by omega : p ≤ n)
      rw [t3, e] at this
      omega
    · exact q
  · intro e
    rcases tk_own (b := b) (pf := plf pf c (n - 1)) ho.1 p1 (pf c) with q | ⟨q1, q2, q3⟩
    · exact q
    · have := tk_sp hL.2.2.2.2 hL.2.2.1 q1 (show _ < n by omega) (Int.le_refl n)
      rw [q3, ht] at this
      omega
theorem p_latest {h : HD} (hR : Rel h) (p : Int32) : PP [2] (jX8_latest p h) (jX9_latest p) := by
  obtain ⟨⟨⟨n, b, pf, nm⟩, hok, hC, hM⟩, -⟩ := id hR
  have ho : PrOk n b pf := hok.1
  have hP : PrC h 0 n b pf := hC.1
  have hQ : PrM h n b pf := hM.pr
  have hn : 0 ≤ n ∧ n ≤ 11 := ⟨ho.1, ho.2.1⟩
  obtain ⟨z, z1, z2, rfl⟩ := iZ_ex p
  by_cases q : 0 ≤ z ∧ z < n
  · obtain ⟨t, ht⟩ : ∃ t, tkO (n + 1) b (plf pf z (n - 1)) n (pf z) = t := ⟨_, rfl⟩
    obtain ⟨t1, t2, t3⟩ := latest_at hok q.1 q.2
    rw [ht] at t1 t2 t3
    obtain ⟨g3, d3, j3, c3⟩ := x2_copy (o := 1) (r := 0) (by decide) hC hn.2
    have k8 : ∃ h1, jX8_latest_L18 (iZ z) (fun h5 => (jX4_comeRound 0 1 (jX2_count 1 h5) h5).bind fun q6 => (jX2_preferenceOf 0 (iZ z) q6).bind fun q7 => (jX4_takerOf 0 q7 q6).bind fun q8 => some (.inr q8, q6)) FU (iZ z) g3 = some (.inr (iZ t), h1) ∧ Fr scr h h1 := by
      refine loopI (fun f (x : Int32 × HD) => jX8_latest_L18 (iZ z) (fun h5 => (jX4_comeRound 0 1 (jX2_count 1 h5) h5).bind fun q6 => (jX2_preferenceOf 0 (iZ z) q6).bind fun q7 => (jX4_takerOf 0 q7 q6).bind fun q8 => some (.inr q8, q6)) f x.1 x.2) (fun y x => x.1 = iZ y ∧ Fr (s1 1) h x.2 ∧ RwC x.2 1 (plR (n, b, pf, nm) z y)) (a := z) (b := n - 1) (fun y => ∃ h1, y = some (.inr (iZ t), h1) ∧ Fr scr h h1) (by omega) ?_ ?_ FU (iZ z, g3) (FU_gt (by omega)) ⟨rfl, j3, by rw [plR_id]; exact c3⟩
      · intro f y x y0 y1 hI
        obtain ⟨x1, h4⟩ := x
        obtain ⟨a1, hF, hR4⟩ := hI
        replace a1 : x1 = iZ y := a1
        replace hF : Fr (s1 1) h h4 := hF
        replace hR4 : RwC h4 1 (plR (n, b, pf, nm) z y) := hR4
        subst a1
        obtain ⟨h5, e5, f5, r5⟩ := x2_exch (x := y) (y := y + 1) hR4 hn (by omega) (show y < n by omega) (by omega) (show y + 1 < n by omega)
        rw [plR_up _ y0] at r5
        refine ⟨(iZ (y + 1), h5), ?_, rfl, hF.tr f5, r5⟩
        show jX8_latest_L18 (iZ z) _ (f + 1) (iZ y) h4 = _
        rw [jX8_latest_L18]
        unfold jX2_count
        rw [(hP.fr hF (s1_f (by decide))).1, i1, iZ_add, if_neg (le_n (by omega) (by omega) (by omega)), e5, Option.bind_some]
      · intro f x hI
        obtain ⟨x1, h4⟩ := x
        obtain ⟨a1, hF, hR4⟩ := hI
        replace a1 : x1 = iZ (n - 1) := a1
        replace hF : Fr (s1 1) h h4 := hF
        replace hR4 : RwC h4 1 (plR (n, b, pf, nm) z (n - 1)) := hR4
        subst a1
        have hL : PrOk n b (plf pf z (n - 1)) := (plR_ok hok q.1 q.2 (show 0 ≤ n - 1 by omega) (show n - 1 < n by omega)).1
        have hP4 : PrC h4 1 n b (plf pf z (n - 1)) := hR4.1
        obtain ⟨h5, e5, f5, k5⟩ := x4_comeRound 0 1 hP4 hL hn.1 (Int.le_refl n)
        have hP5 := (hP.fr hF (s1_f (by decide))).fr f5 (sPk_1 0 0)
        have hw := ho.2.2.2.2 z q.1 q.2
        refine ⟨h5, ?_, (s1_scr (Or.inl rfl) hF).tr (sPk_scr f5)⟩
        show jX8_latest_L18 (iZ z) _ (f + 1) (iZ (n - 1)) h4 = _
        rw [jX8_latest_L18]
        unfold jX2_count
        rw [(hP.fr hF (s1_f (by decide))).1, i1, iZ_add, if_pos (le_y (by omega) (by omega) (by omega)), hP4.1, e5, Option.bind_some, x2_pref hP5 hn q.1 q.2, Option.bind_some, x4_takerOf k5.1.1 (by omega) (by omega) k5.1.2.2.2.2.2.2.2 hw.1 (by omega), ht]
        rfl
    obtain ⟨h1, e1, f1⟩ := k8
    have hM1 := (hM.fr f1 (fun _ => rfl) (fun _ => rfl))
    let bst : Int → Int := fun y => if y ≤ t + 1 then y - 1 else t
    have k9 : ∃ h2, jX9_latest_L18 (iZ z) FU (iZ (-1)) (iZ 0) (c0 h1 0) = some (iZ t, h2) ∧ Fr sW (c0 h1 0) h2 ∧ RwM h2 (7, 0, 2) (7, 0, 7) 0 0 (n, b, pf, nm) := by
      refine loopI (fun f (x : Int32 × Int32 × HD) => jX9_latest_L18 (iZ z) f x.1 x.2.1 x.2.2) (fun y x => x.1 = iZ (bst y) ∧ x.2.1 = iZ y ∧ Fr sW (c0 h1 0) x.2.2 ∧ RwM x.2.2 (7, 0, 2) (7, 0, 7) 0 0 (n, b, pf, nm)) (a := 0) (b := n) (fun y => ∃ h2, y = some (iZ t, h2) ∧ Fr sW (c0 h1 0) h2 ∧ RwM h2 (7, 0, 2) (7, 0, 7) 0 0 (n, b, pf, nm)) hn.1 ?_ ?_ FU (iZ (-1), iZ 0, c0 h1 0) (FU_gt (by omega)) ⟨?_, rfl, Fr.rf, hM1.c0 0⟩
      · intro f y x y0 y1 hI
        obtain ⟨x1, x2, h4⟩ := x
        obtain ⟨a1, a2, hF, m4⟩ := hI
        replace a1 : x1 = iZ (bst y) := a1
        replace a2 : x2 = iZ y := a2
        replace hF : Fr sW (c0 h1 0) h4 := hF
        replace m4 : RwM h4 (7, 0, 2) (7, 0, 7) 0 0 (n, b, pf, nm) := m4
        subst a1; subst a2
        obtain ⟨h5, e5, f5, a5, m5⟩ := x9_away m4 hn.2
        obtain ⟨h6, e6, f6, m6⟩ := x9_placesAt (c := z) (p := y) m5 hn q.1 q.2 y0 y1
        have a6 := a5.fr f6 (fun _ => rfl) (fun _ => rfl)
        have hPl : PrOk n b (plf pf z y) := (plR_ok hok q.1 q.2 y0 y1).1
        have q6 : PrM h6 n b (plf pf z y) := m6.pr
        obtain ⟨h7, e7, f7, k7⟩ := x9_parks q6 hPl hn.1 (Int.le_refl n)
        have a7 := a6.fr f7 (fun _ => rfl) (fun _ => rfl)
        have hmv := mv_in hPl.2.2.2.2 hPl.2.2.1 y0 y1
        have F7 := ((hF.tr (aw_W f5)).tr (cu_W f6)).tr (pm_W f7)
        by_cases qq : y ≤ t
        · obtain ⟨h8, e8, f8, m8⟩ := x9_fromAway (iZ y) a7 hn.2
          refine ⟨(iZ y, iZ (y + 1), h8), ?_, ?_, rfl, F7.tr (cu_W f8), m8⟩
          · show jX9_latest_L18 (iZ z) (f + 1) _ (iZ y) h4 = _
            rw [jX9_latest_L18, m4.pr.1, if_neg (le_n (by omega) (by omega) (by omega)), e5, Option.bind_some, e6, Option.bind_some, q6.1, e7, Option.bind_some, inB_t (by omega) (by omega) (by omega), if_pos rfl, iZ_nat (by omega) (by omega), k7.2.2 y y0 y1, (t3 y y0 y1).mpr qq, if_pos (show iZ 0 = 0 from rfl), e8, Option.bind_some, i1, iZ_add]
          · show iZ y = iZ (if y + 1 ≤ t + 1 then y + 1 - 1 else t)
            rw [if_pos (by omega), show y + 1 - 1 = y by omega]
        · obtain ⟨h8, e8, f8, m8⟩ := x9_fromAway (iZ (bst y)) a7 hn.2
          refine ⟨(iZ (bst y), iZ (y + 1), h8), ?_, ?_, rfl, F7.tr (cu_W f8), m8⟩
          · have hne : mv (n + 1) b (plf pf z y) y ≠ 0 := fun e => qq ((t3 y y0 y1).mp e)
            show jX9_latest_L18 (iZ z) (f + 1) _ (iZ y) h4 = _
            rw [jX9_latest_L18, m4.pr.1, if_neg (le_n (by omega) (by omega) (by omega)), e5, Option.bind_some, e6, Option.bind_some, q6.1, e7, Option.bind_some, inB_t (by omega) (by omega) (by omega), if_pos rfl, iZ_nat (by omega) (by omega), k7.2.2 y y0 y1, i0, if_neg (eq_n (by omega) (by omega) (by omega) (by omega) (by omega)), e8, Option.bind_some, i1, iZ_add]
          · show iZ (if y ≤ t + 1 then y - 1 else t) = iZ (if y + 1 ≤ t + 1 then y + 1 - 1 else t)
            rw [if_neg (show ¬ y + 1 ≤ t + 1 by omega)]
            split
            · rw [show y - 1 = t by omega]
            · rfl
      · intro f x hI
        obtain ⟨x1, x2, h4⟩ := x
        obtain ⟨a1, a2, hF, m4⟩ := hI
        replace a1 : x1 = iZ (bst n) := a1
        replace a2 : x2 = iZ n := a2
        replace m4 : RwM h4 (7, 0, 2) (7, 0, 7) 0 0 (n, b, pf, nm) := m4
        subst a1; subst a2
        refine ⟨h4, ?_, hF, m4⟩
        show jX9_latest_L18 (iZ z) (f + 1) _ (iZ n) h4 = _
        rw [jX9_latest_L18, m4.pr.1, if_pos (le_y (by omega) (by omega) (by omega))]
        show some (iZ (if n ≤ t + 1 then n - 1 else t), h4) = _
        split
        · rw [show n - 1 = t by omega]
        · rfl
      · show iZ (-1) = iZ (if 0 ≤ t + 1 then 0 - 1 else t)
        rw [if_pos (by omega)]; rfl
    obtain ⟨h2, e2, f2, m2⟩ := k9
    refine PP.ok (v := iZ t) (h1 := h1) (h2 := h2) ?_ ?_ (hR.new ((scr_U (f1.tr (c0_fr h1 0))).tr (sW_U f2)) ⟨hok, (hC.fr (f1.tr (c0_fr h1 0)) (scr_1 (by decide))).fr f2 (fun _ _ => rfl), m2⟩) (by rw [f2.1 _ _ rfl]; exact c0_0 _ _)
    · unfold jX8_latest
      rw [x8_needCar (o := 0) hP hn z1 z2, if_pos q, Option.bind_some, sm_r, d3, Option.bind_some]
      exact e1
    · unfold jX9_latest
      rw [x9_isCar hM1.pr hn z1 z2, decide_eq_true q, Option.bind_some, x9_goes, Option.bind_some, if_pos rfl, im1, i0]
      exact e2
  · refine PP.ex (h1 := h) (h2 := c0 h 1) (w := 0) 0 (e := 2) ?_ ?_ (hR.fr (c0_fr h 1)) rfl (c0_0 _ _)
    · unfold jX8_latest
      rw [x8_needCar (o := 0) hP hn z1 z2, if_neg q]; rfl
    · unfold jX9_latest
      rw [x9_isCar hQ hn z1 z2, decide_eq_false q, Option.bind_some, x9_goes]
      rfl
