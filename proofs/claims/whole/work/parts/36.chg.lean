/-! CHANGING CALLS, both sides -/
theorem c0_MM (h : HD) (z : Int) : Fr sMM h (c0 h z) := Fr.rf.sI rfl _
theorem SM.c0 {h : HD} {s : S3} (hS : SM h s) (z : Int) : SM (c0 h z) s := hS.fr (c0_fr h z) (fun _ => rfl) (fun _ => rfl) (fun _ => rfl) rfl
theorem UM.c0 {h : HD} {k : Int} {past : Int → Row} (hU : UM h k past) (z : Int) : UM (c0 h z) k past := hU.fr (c0_fr h z) rfl (fun _ => rfl) (fun _ => rfl)
theorem sPk_CC {o : Nat} {h h2 : HD} (hF : Fr (sPk o) h h2) : Fr sCC h h2 := hF.mono fun r k q => by
  refine decide_eq_false fun e => ?_
  unfold sCC at q
  rw [e.1] at q
  simp at q
theorem p_push {h q3 g3 : HD} {R R2 : Row} {a2 : Ac} {rf2 : Int32} {k z : Int} {past : Int → Row} (hR : Rel h) (hok : RwOk R) (hok2 : RwOk R2) (hk : 0 ≤ k ∧ k ≤ 6) (hp : ∀ z, 0 ≤ z → z < k → RwOk (past z)) (F : Fk sCC h q3) (C : SC q3 (R2, a2, rf2)) (U : UC q3 (psK k) (psF k past R)) (G : Fr sMM (c0 q3 z) g3) (M : SM g3 (R2, a2, rf2)) (V : UM g3 (psK k) (psF k past R)) : Rel g3 := hR.chg F ((c0_MM q3 z).tr G) hok2 C M (psK_in hk) U V (psF_ok hk hp hok)
theorem p_same {h q2 g2 : HD} {R2 : Row} {a2 : Ac} {rf2 : Int32} {k z : Int} {past : Int → Row} (hR : Rel h) (hok2 : RwOk R2) (hk : 0 ≤ k ∧ k ≤ 6) (hp : ∀ z, 0 ≤ z → z < k → RwOk (past z)) (F : Fr sCC h q2) (C : SC q2 (R2, a2, rf2)) (U : UC q2 k past) (G : Fr sA9 (c0 q2 z) g2) (M : SM g2 (R2, a2, rf2)) (hV : UM h k past) : Rel g2 := hR.chg (Fk.of F) ((c0_MM q2 z).tr (A9_MM G)) hok2 C M hk U (((hV.fk (Fk.of F)).c0 z).fr G rfl (fun _ => rfl) (fun _ => rfl)) hp
theorem p_prefer {h : HD} (hR : Rel h) (p w : Int32) : PP [2, 1] (jX8_prefer p w h) (jX9_prefer p w) := by
  obtain ⟨⟨n, b, pf, nm⟩, a, rf, k, past, hok, hC, hM, hk, hU, hV, hp⟩ := hR.get
  have ho : PrOk n b pf := hok.1
  have hP : PrC h 0 n b pf := hC.1.1
  have hQ : PrM h n b pf := hM.1.pr
  have hn : 0 ≤ n ∧ n ≤ 11 := ⟨ho.1, ho.2.1⟩
  obtain ⟨z, z1, z2, rfl⟩ := iZ_ex p
  obtain ⟨v, v1, v2, rfl⟩ := iZ_ex w
  by_cases q : 0 ≤ z ∧ z < n
  · by_cases qv : 0 ≤ v ∧ v ≤ n
    · obtain ⟨q1, q2, q3, e1, e2, e3, -, F, C, U⟩ := c_kept (f := jX8_doPrefer (iZ z) (iZ v)) hC hn.2 hk hU (fun g hg => d8_prefer hg hn q.1 q.2)
      have M1 := (hM.fk F).c0 0
      obtain ⟨g1, g2, g3, E1, E2, E3, G, M, V, Z⟩ := m_kept (f := jX9_wishes (iZ z) (iZ v)) M1 hn.2 hk ((hV.fk F).c0 0) hp (fun g hg => d9_wishes hg hn q.1 q.2)
      refine PP.ok (v := iZ (pf z)) (h1 := q3) (h2 := g3) ?_ ?_ (p_push (R2 := (n, b, updP pf z v, nm)) hR hok ⟨upd_ok ho qv.1 qv.2, hok.2⟩ hk hp F C U G M V) (Z.trans (c0_0 _ _))
      · unfold jX8_prefer
        rw [x8_needCar (o := 0) hP hn z1 z2, if_pos q, Option.bind_some]
        show (jX8_needPreference (iZ v) h).bind _ = _
        rw [x8_needPref hP hn v1 v2, if_pos qv, Option.bind_some]
        show (jX2_preferenceOf 0 (iZ z) h).bind _ = _
        rw [x2_pref hP hn q.1 q.2, Option.bind_some, e1, Option.bind_some, e2, Option.bind_some]
        show (jX8_keepNoted q2).bind _ = _
        rw [e3]
        rfl
      · unfold jX9_prefer
        rw [x9_isCar (hM.fk F).1.pr hn z1 z2, decide_eq_true q, Option.bind_some, x9_isSpot (hM.fk F).1.pr hn v1 v2, decide_eq_true qv, Option.bind_some, x9_both, Option.bind_some, Bool.and_self, if_pos rfl]
        show (jX9_laysAside (c0 q3 0)).bind _ = _
        rw [E1, Option.bind_some, E2, Option.bind_some]
        show (jX9_kept (iZ (pf z)) g2).bind _ = _
        rw [E3]
        rfl
    · refine PP.ex (h1 := h) (h2 := c0 h 2) (w := 0) 1 (e := 1) ?_ ?_ (hR.fr (c0_fr h 2)) rfl (c0_0 _ _)
      · unfold jX8_prefer
        rw [x8_needCar (o := 0) hP hn z1 z2, if_pos q, Option.bind_some]
        show (jX8_needPreference (iZ v) h).bind _ = _
        rw [x8_needPref hP hn v1 v2, if_neg qv]
        rfl
      · unfold jX9_prefer
        rw [x9_isCar hQ hn z1 z2, decide_eq_true q, Option.bind_some, x9_isSpot hQ hn v1 v2, decide_eq_false qv, Option.bind_some, x9_both]
        rfl
  · refine PP.ex (h1 := h) (h2 := c0 h 1) (w := 0) 0 (e := 2) ?_ ?_ (hR.fr (c0_fr h 1)) rfl (c0_0 _ _)
    · unfold jX8_prefer
      rw [x8_needCar (o := 0) hP hn z1 z2, if_neg q]
      rfl
    · unfold jX9_prefer
      rw [x9_isCar hQ hn z1 z2, decide_eq_false q, Option.bind_some, x9_isSpot hQ hn v1 v2, Option.bind_some, x9_both]
      rfl
theorem p_swap {h : HD} (hR : Rel h) (p : Int32) : PB [2] (jX8_swap p h) (jX9_swap p) := by
  obtain ⟨⟨n, b, pf, nm⟩, a, rf, k, past, hok, hC, hM, hk, hU, hV, hp⟩ := hR.get
  have ho : PrOk n b pf := hok.1
  have hP : PrC h 0 n b pf := hC.1.1
  have hQ : PrM h n b pf := hM.1.pr
  have hn : 0 ≤ n ∧ n ≤ 11 := ⟨ho.1, ho.2.1⟩
  obtain ⟨z, z1, z2, rfl⟩ := iZ_ex p
  by_cases q : 0 ≤ z ∧ z < n
  · by_cases qv : z + 1 < n
    · obtain ⟨q1, q2, q3, e1, e2, e3, -, F, C, U⟩ := c_kept (v := true) (s2 := (swR (n, b, pf, nm) z (z + 1), bmp 0 a, rf)) (f := jX8_doSwap (iZ z)) hC hn.2 hk hU (fun g hg => by
        obtain ⟨h3, e, f, c⟩ := d8_swap hg hn q.1 q.2
        rw [decide_eq_true qv] at e
        rw [if_pos qv] at c
        exact ⟨h3, e, f, c⟩)
      have M1 := (hM.fk F).c0 0
      obtain ⟨g1, g2, g3, E1, E2, E3, G, M, V, Z⟩ := m_kept (f := jX9_swaps (iZ z)) M1 hn.2 hk ((hV.fk F).c0 0) hp (fun g hg => d9_swaps hg hn q.1 qv)
      refine PB.ok (v := true) (h1 := q3) (h2 := g3) ?_ ?_ (p_push hR hok (swf_ok hok q.1 q.2 (by omega) qv) hk hp F C U G M V) (Z.trans (c0_0 _ _))
      · unfold jX8_swap
        rw [x8_needCar (o := 0) hP hn z1 z2, if_pos q, Option.bind_some]
        rw [sm_r]
        rw [e1, Option.bind_some, e2, Option.bind_some]
        unfold jX8_keepNotedIf
        rw [if_pos rfl]
        show (Option.bind (Option.bind (jX8_keepNoted q2) _) _) = _
        rw [e3]
        rfl
      · unfold jX9_swap
        rw [x9_isCar (hM.fk F).1.pr hn z1 z2, decide_eq_true q, Option.bind_some, x9_goes, Option.bind_some, if_pos rfl]
        show (jX9_whyNoSwap (iZ z) (c0 q3 0)).bind _ = _
        rw [d9_whySwap M1.1 hn q.1 q.2, Option.bind_some, if_pos qv]
        show Option.bind (jX9_refused (iZ 0) (c0 q3 0)) _ = _
        rw [show jX9_refused (iZ 0) (c0 q3 0) = some (false, c0 q3 0) from rfl, Option.bind_some, if_neg Bool.false_ne_true, E1, Option.bind_some, E2, Option.bind_some]
        show (jX9_kept (iZ z) g2).bind _ = _
        rw [E3, Option.bind_some, i0, if_neg (lt_n (by omega) (by omega) (by omega))]
    · obtain ⟨q1, q2, q3, e1, e2, e3, ⟨F, C, U⟩, -⟩ := c_kept (v := false) (s2 := ((n, b, pf, nm), bmp 1 a, 3)) (f := jX8_doSwap (iZ z)) hC hn.2 hk hU (fun g hg => by
        obtain ⟨h3, e, f, c⟩ := d8_swap hg hn q.1 q.2
        rw [decide_eq_false qv] at e
        rw [if_neg qv] at c
        exact ⟨h3, e, f, c⟩)
      have M1 := (hM.fk (Fk.of F)).c0 0
      obtain ⟨g2, E2, G, M⟩ := d9_refuse M1 (k := 3) (by decide)
      refine PB.ok (v := false) (h1 := q2) (h2 := g2) ?_ ?_ (p_same hR hok hk hp F C U G M hV) ((G.1 _ _ rfl).trans (c0_0 _ _))
      · unfold jX8_swap
        rw [x8_needCar (o := 0) hP hn z1 z2, if_pos q, Option.bind_some]
        rw [sm_r]
        rw [e1, Option.bind_some, e2, Option.bind_some]
        rfl
      · unfold jX9_swap
        rw [x9_isCar (hM.fk (Fk.of F)).1.pr hn z1 z2, decide_eq_true q, Option.bind_some, x9_goes, Option.bind_some, if_pos rfl]
        show (jX9_whyNoSwap (iZ z) (c0 q2 0)).bind _ = _
        rw [d9_whySwap M1.1 hn q.1 q.2, Option.bind_some, if_neg qv]
        show Option.bind (jX9_refused 3 (c0 q2 0)) _ = _
        rw [E2]
        rfl
  · refine PB.ex (h1 := h) (h2 := c0 h 1) (w := false) 0 (e := 2) ?_ ?_ (hR.fr (c0_fr h 1)) rfl (c0_0 _ _)
    · unfold jX8_swap
      rw [x8_needCar (o := 0) hP hn z1 z2, if_neg q]
      rfl
    · unfold jX9_swap
      rw [x9_isCar hQ hn z1 z2, decide_eq_false q, Option.bind_some, x9_goes]
      rfl
theorem p_go {h : HD} (hR : Rel h) (p : Int32) : PB [2] (jX8_go p h) (jX9_go p) := by
  obtain ⟨R, a, rf, k, past, hok, hC, hM, hk, hU, hV, hp⟩ := hR.get
  have ho : PrOk R.1 R.2.1 R.2.2.1 := hok.1
  have hP : PrC h 0 R.1 R.2.1 R.2.2.1 := hC.1.1
  have hQ : PrM h R.1 R.2.1 R.2.2.1 := hM.1.pr
  have hn : 0 ≤ R.1 ∧ R.1 ≤ 11 := ⟨ho.1, ho.2.1⟩
  obtain ⟨z, z1, z2, rfl⟩ := iZ_ex p
  by_cases q : 0 ≤ z ∧ z < R.1
  · by_cases qv : gB R.1 R.2.2.1 z
    · obtain ⟨q1, q2, q3, e1, e2, e3, ⟨F, C, U⟩, -⟩ := c_kept (v := false) (s2 := (R, bmp 1 a, 4)) (f := jX8_doGo (iZ z)) hC hn.2 hk hU (fun g hg => (d8_go hg hok q.1 q.2).1 qv)
      have M1 := (hM.fk (Fk.of F)).c0 0
      obtain ⟨g2, E2, G, M⟩ := d9_refuse M1 (k := 4) (by decide)
      refine PB.ok (v := false) (h1 := q2) (h2 := g2) ?_ ?_ (p_same hR hok hk hp F C U G M hV) ((G.1 _ _ rfl).trans (c0_0 _ _))
      · unfold jX8_go
        rw [x8_needCar (o := 0) hP hn z1 z2, if_pos q, Option.bind_some]
        rw [sm_r]
        rw [e1, Option.bind_some, e2, Option.bind_some]
        rfl
      · unfold jX9_go
        rw [x9_isCar (hM.fk (Fk.of F)).1.pr hn z1 z2, decide_eq_true q, Option.bind_some, x9_goes, Option.bind_some, if_pos rfl]
        show (jX9_whyNoGo (iZ z) (c0 q2 0)).bind _ = _
        rw [(d9_whyGo M1.1 hok q.1 q.2).1 qv, Option.bind_some]
        show Option.bind (jX9_refused 4 (c0 q2 0)) _ = _
        rw [E2]
        rfl
    · obtain ⟨q1, q2, q3, e1, e2, e3, -, F, C, U⟩ := c_kept (v := true) (s2 := (goR R z, bmp 3 (bmp 0 a), rf)) (f := jX8_doGo (iZ z)) hC hn.2 hk hU (fun g hg => (d8_go hg hok q.1 q.2).2 qv)
      have M1 := (hM.fk F).c0 0
      obtain ⟨g1, g2, g3, E1, E2, E3, G, M, V, Z⟩ := m_kept (f := jX9_leaves0 (iZ z)) M1 hn.2 hk ((hV.fk F).c0 0) hp (fun g hg => d9_leaves hg hok q.1 q.2)
      refine PB.ok (v := true) (h1 := q3) (h2 := g3) ?_ ?_ (p_push hR hok (goR_ok hok q.1 q.2 qv) hk hp F C U G M V) (Z.trans (c0_0 _ _))
      · unfold jX8_go
        rw [x8_needCar (o := 0) hP hn z1 z2, if_pos q, Option.bind_some]
        rw [sm_r]
        rw [e1, Option.bind_some, e2, Option.bind_some]
        unfold jX8_keepNotedIf
        rw [if_pos rfl]
        show (Option.bind (Option.bind (jX8_keepNoted q2) _) _) = _
        rw [e3]
        rfl
      · unfold jX9_go
        rw [x9_isCar (hM.fk F).1.pr hn z1 z2, decide_eq_true q, Option.bind_some, x9_goes, Option.bind_some, if_pos rfl]
        show (jX9_whyNoGo (iZ z) (c0 q3 0)).bind _ = _
        rw [(d9_whyGo M1.1 hok q.1 q.2).2 qv, Option.bind_some]
        show Option.bind (jX9_refused (iZ 0) (c0 q3 0)) _ = _
        rw [show jX9_refused (iZ 0) (c0 q3 0) = some (false, c0 q3 0) from rfl, Option.bind_some, if_neg Bool.false_ne_true, E1, Option.bind_some, E2, Option.bind_some]
        show (jX9_kept (iZ (R.1 - 1)) g2).bind _ = _
        rw [E3, Option.bind_some, i0, if_neg (lt_n (by omega) (by omega) (by omega))]
  · refine PB.ex (h1 := h) (h2 := c0 h 1) (w := false) 0 (e := 2) ?_ ?_ (hR.fr (c0_fr h 1)) rfl (c0_0 _ _)
    · unfold jX8_go
      rw [x8_needCar (o := 0) hP hn z1 z2, if_neg q]
      rfl
    · unfold jX9_go
      rw [x9_isCar hQ hn z1 z2, decide_eq_false q, Option.bind_some, x9_goes]
      rfl
theorem p_setBack {h : HD} (hR : Rel h) (p : Int32) : PP [1] (jX8_setBack p h) (jX9_setBack p) := by
  obtain ⟨⟨n, b, pf, nm⟩, a, rf, k, past, hok, hC, hM, hk, hU, hV, hp⟩ := hR.get
  have ho : PrOk n b pf := hok.1
  have hn : 0 ≤ n ∧ n ≤ 11 := ⟨ho.1, ho.2.1⟩
  obtain ⟨v, v1, v2, rfl⟩ := iZ_ex p
  by_cases qv : 0 ≤ v ∧ v ≤ 5
  · obtain ⟨q1, q2, q3, e1, e2, e3, -, F, C, U⟩ := c_kept (f := jX8_doSetBack (iZ v)) hC hn.2 hk hU (fun g hg => d8_back hg)
    have M1 := (hM.fk F).c0 0
    obtain ⟨g1, g2, g3, E1, E2, E3, G, M, V, Z⟩ := m_kept (f := jX9_looksBack (iZ v)) M1 hn.2 hk ((hV.fk F).c0 0) hp (fun g hg => d9_back hg)
    refine PP.ok (v := iZ b) (h1 := q3) (h2 := g3) ?_ ?_ (p_push (R2 := (n, v, pf, nm)) hR hok ⟨⟨ho.1, ho.2.1, qv.1, qv.2, ho.2.2.2.2⟩, hok.2⟩ hk hp F C U G M V) (Z.trans (c0_0 _ _))
    · unfold jX8_setBack
      rw [x8_needBack h v1 v2, if_pos qv, Option.bind_some]
      rw [sm_r]
      rw [e1, Option.bind_some, e2, Option.bind_some]
      show (jX8_keepNoted q2).bind _ = _
      rw [e3]
      show some (Sum.inr (jX2_back 0 h), q3) = _
      unfold jX2_back
      rw [hC.1.1.2.1]
    · unfold jX9_setBack
      rw [x9_isBack _ v1 v2, decide_eq_true qv, x9_goes, Option.bind_some, if_pos rfl]
      show (jX9_laysAside (c0 q3 0)).bind _ = _
      rw [E1, Option.bind_some, E2, Option.bind_some]
      show (jX9_kept (iZ b) g2).bind _ = _
      rw [E3]
      rfl
  · refine PP.ex (h1 := h) (h2 := c0 h 1) (w := 0) 0 (e := 1) ?_ ?_ (hR.fr (c0_fr h 1)) rfl (c0_0 _ _)
    · unfold jX8_setBack
      rw [x8_needBack h v1 v2, if_neg qv]; rfl
    · unfold jX9_setBack
      rw [x9_isBack _ v1 v2, decide_eq_false qv, x9_goes]; rfl
theorem x8_isTurn (h : HD) {z : Int} (z1 : -2147483648 ≤ z) (z2 : z < 2147483648) : jX8_isTurn (iZ z) h = decide (0 ≤ z ∧ z ≤ 99) := by
  unfold jX8_isTurn
  rw [i0, i99]
  by_cases q : z < 0
  · rw [if_pos (lt_y (by omega) (by omega) (by omega)), decide_eq_false (by omega)]
  · rw [if_neg (lt_n (by omega) (by omega) (by omega))]
    by_cases q2 : 99 < z
    · rw [if_pos (lt_y (by omega) (by omega) (by omega)), decide_eq_false (by omega)]
    · rw [if_neg (lt_n (by omega) (by omega) (by omega)), decide_eq_true (by omega)]
theorem x9_isTurn (h : HD) {z : Int} (z1 : -2147483648 ≤ z) (z2 : z < 2147483648) : jX9_isTurn (iZ z) h = decide (0 ≤ z ∧ z ≤ 99) := by
  unfold jX9_isTurn
  rw [iZ_j (by omega) (by omega), show (0 : Int64) = jZ 0 from rfl, show (99 : Int64) = jZ 99 from rfl, jZ_is (by omega) (by omega) (by omega) (by omega) (by omega) (by omega)]
theorem x8_pk0 {h : HD} {R : Row} (hC : RwC h 0 R) (hok : RwOk R) : ∃ h2, jX8_parked h = some h2 ∧ Fr (sPk 0) h h2 ∧ Pk h2 0 R.1 R.2.1 R.2.2.1 R.1 := by
  obtain ⟨h2, e2, f2, k2⟩ := x4_comeRound 0 0 hC.1 hok.1 hok.1.1 (Int.le_refl R.1)
  refine ⟨h2, ?_, f2, k2⟩
  unfold jX8_parked jX2_count
  rw [hC.1.1, e2]
  rfl
theorem tuF_ok2 {n b v : Int} {pf : Int → Int} (ho : PrOk n b pf) : PrOk n b (tuF n v pf n) := tuF_ok ho
theorem p_turn {h : HD} (hR : Rel h) (p : Int32) : PP [1] (jX8_turn p h) (jX9_turn p) := by
  obtain ⟨⟨n, b, pf, nm⟩, a, rf, k, past, hok, hC, hM, hk, hU, hV, hp⟩ := hR.get
  have ho : PrOk n b pf := hok.1
  have hn : 0 ≤ n ∧ n ≤ 11 := ⟨ho.1, ho.2.1⟩
  obtain ⟨v, v1, v2, rfl⟩ := iZ_ex p
  by_cases qv : 0 ≤ v ∧ v ≤ 99
  · obtain ⟨q1, q2, q3, e1, e2, e3, -, F, C, U⟩ := c_kept (f := jX8_doTurn (iZ v)) hC hn.2 hk hU (fun g hg => d8_turn hg ho qv.1 qv.2)
    have hok2 : RwOk (n, b, tuF n v pf n, nm) := ⟨tuF_ok ho, hok.2⟩
    obtain ⟨q4, e4, f4, k4⟩ := x8_pk0 C.1 hok2
    have F4 := F.tr (Fk.of (sPk_CC f4))
    have C4 := C.fr f4 (sPk_1 0 0) (fun _ => rfl) rfl
    have U4 := U.fr (psK_in hk).2 f4 rfl (fun o j k _ => sPk_1 0 o j k)
    have M1 := (hM.fk F4).c0 0
    obtain ⟨g1, g2, g3, E1, E2, E3, G, M, V, Z⟩ := m_kept (f := jX9_turns (iZ v)) M1 hn.2 hk ((hV.fk F4).c0 0) hp (fun g hg => d9_turn hg hok qv.1 qv.2)
    refine PP.ok (v := iZ (tn n b (tuF n v pf n))) (h1 := q4) (h2 := g3) ?_ ?_ (p_push hR hok hok2 hk hp F4 C4 U4 G M V) (Z.trans (c0_0 _ _))
    · unfold jX8_turn
      rw [x8_isTurn h v1 v2, decide_eq_true qv, if_pos rfl, e1, Option.bind_some, e2, Option.bind_some]
      show (jX8_keepNoted q2).bind _ = _
      rw [e3, Option.bind_some, e4, Option.bind_some, x4_turn k4]
    · unfold jX9_turn
      rw [x9_isTurn _ v1 v2, decide_eq_true qv, x9_goes, Option.bind_some, if_pos rfl]
      show (jX9_laysAside (c0 q4 0)).bind _ = _
      rw [E1, Option.bind_some, E2, Option.bind_some]
      show (jX9_kept (iZ (tn n b (tuF n v pf n))) g2).bind _ = _
      rw [E3]
      rfl
  · refine PP.ex (h1 := h) (h2 := c0 h 1) (w := 0) 0 (e := 1) ?_ ?_ (hR.fr (c0_fr h 1)) rfl (c0_0 _ _)
    · unfold jX8_turn
      rw [x8_isTurn h v1 v2, decide_eq_false qv]; rfl
    · unfold jX9_turn
      rw [x9_isTurn _ v1 v2, decide_eq_false qv, x9_goes]; rfl
theorem p_sort {h : HD} (hR : Rel h) : PV (jX8_sort h) jX9_sort := by
  obtain ⟨R, a, rf, k, past, hok, hC, hM, hk, hU, hV, hp⟩ := hR.get
  have hn : 0 ≤ R.1 ∧ R.1 ≤ 11 := ⟨hok.1.1, hok.1.2.1⟩
  obtain ⟨q1, q2, q3, e1, e2, e3, -, F, C, U⟩ := c_kept (f := jX8_doSort) hC hn.2 hk hU (fun g hg => d8_sort hg hok)
  have M1 := (hM.fk F).c0 0
  obtain ⟨g1, g2, g3, E1, E2, E3, G, M, V, Z⟩ := m_kept (f := jX9_sorts) M1 hn.2 hk ((hV.fk F).c0 0) hp (fun g hg => d9_sort hg hok)
  refine ⟨iZ (srN R.1 R.2.2.1 R.1), q3, g3, ?_, ?_, p_push hR hok (srR_ok hok hn.1 (Int.le_refl _)) hk hp F C U G M V⟩
  · unfold jX8_sort
    rw [e1, Option.bind_some, e2, Option.bind_some]
    show (jX8_keepNoted q2).bind _ = _
    rw [e3]
    rfl
  · unfold jX9_sort
    rw [lt_eq, c0_def, E1, Option.bind_some, E2, Option.bind_some]
    show (jX9_kept (iZ (srN R.1 R.2.2.1 R.1)) g2).bind _ = _
    rw [E3]
    rfl
theorem p_reverse {h : HD} (hR : Rel h) : PV (jX8_reverse h) jX9_reverse := by
  obtain ⟨R, a, rf, k, past, hok, hC, hM, hk, hU, hV, hp⟩ := hR.get
  have hn : 0 ≤ R.1 ∧ R.1 ≤ 11 := ⟨hok.1.1, hok.1.2.1⟩
  obtain ⟨q1, q2, q3, e1, e2, e3, -, F, C, U⟩ := c_kept (f := jX8_doReverse) hC hn.2 hk hU (fun g hg => d8_rev hg hok)
  have hok2 : RwOk (rvR R (R.1 / 2)) := (rvR_ok hok (by omega) (by omega)).1
  obtain ⟨q4, e4, f4, k4⟩ := x8_pk0 C.1 hok2
  have F4 := F.tr (Fk.of (sPk_CC f4))
  have C4 := C.fr f4 (sPk_1 0 0) (fun _ => rfl) rfl
  have U4 := U.fr (psK_in hk).2 f4 rfl (fun o j k _ => sPk_1 0 o j k)
  have M1 := (hM.fk F4).c0 0
  obtain ⟨g1, g2, g3, E1, E2, E3, G, M, V, Z⟩ := m_kept (f := jX9_reverses) M1 hn.2 hk ((hV.fk F4).c0 0) hp (fun g hg => d9_rev hg hok)
  refine ⟨iZ (stN (rvR R (R.1 / 2)) 4), q4, g3, ?_, ?_, p_push hR hok hok2 hk hp F4 C4 U4 G M V⟩
  · unfold jX8_reverse
    rw [e1, Option.bind_some, e2, Option.bind_some]
    show (jX8_keepNoted q2).bind _ = _
    rw [e3, Option.bind_some, e4, Option.bind_some, x4_lucky k4 hok2.1]
    rfl
  · unfold jX9_reverse
    rw [lt_eq, c0_def, E1, Option.bind_some, E2, Option.bind_some]
    show (jX9_kept (iZ (stN (rvR R (R.1 / 2)) 4)) g2).bind _ = _
    rw [E3]
    rfl
