section PRF
variable {p : Program} {l : Launch} {e : Env} {R : Room} {s : State} {m : MethodId} {args : Array Value} {below : List Frame} {meth : Method} {c : Code} {D : va_G} {loc : Rf → Nat} {cy : Nat → ClassId} {A : Nat → Prop}
set_option maxHeartbeats 4000000 in
set_option maxRecDepth 100000 in
theorem A_X9_wayBy (l : Launch) (hl0 : l.stackTraces = false) (D : va_G) (loc : Rf → Nat) (cy : Nat → ClassId) (p1 : Int32) (h : HD) : AM l D loc cy yX9_wayBy cX9_wayBy 2 (some .int) 5 124 [.ref (loc (7, 0, 0)), .int p1] h ((jX9_wayBy p1 h).map (fun r => (.inr (some (.int r.1)), r.2))) := by
  refine am_start (y := yX9_wayBy) (av := [.ref (loc (7, 0, 0)), .int p1]) (nL := 2) (h := h) (RF := fun (r : Option (Int32 × HD)) => r.map (fun r => (.inr (some (.int r.1)), r.2))) (x := jX9_wayBy p1 h) hl0 (by decide +kernel) rfl ?_
  intro p e R s m below meth c A hC
  unfold jX9_wayBy
  refine aw_aload_n hC dX9_wayBy_0 rfl ?_
  refine aw_iload_n hC dX9_wayBy_1 rfl ?_
  refine aw_cSb hC dX9_wayBy_2 cv_RX9_415 (A_X9_isBack _ (hC.2.2.2.2.2.2.2.2.2.2.2.2.1) _ _ _ p1 h) rfl rfl rfl rfl rfl ⟨rfl, rfl⟩ ?_
  refine aw_bind rfl (fun q1 hq1 => ?_)
  refine aw_cVb hC dX9_wayBy_5 cv_RX9_122 rfl rm_7_0_0 (am_some (inj := (fun r => (.inr (some (.int (b2i r.1))), r.2))) hq1 (A_X9_goes _ (hC.2.2.2.2.2.2.2.2.2.2.2.2.1) _ _ _ (jX9_isBack p1 h) h)) rfl rfl rfl rfl rfl ⟨rfl, rfl⟩ ?_
  refine aw_if_eq_b hC dX9_wayBy_8 (tgt := 19) (by decide) ?_ ?_
  · refine aw_iconst hC dX9_wayBy_19 (v := 0) (by decide) ?_
    exact aw_iret hC dX9_wayBy_20 rfl rfl
  · refine aw_aload_n hC dX9_wayBy_11 rfl ?_
    refine aw_iload_n hC dX9_wayBy_12 rfl ?_
    refine aw_bind rfl (fun q2 hq2 => ?_)
    refine aw_cVi hC dX9_wayBy_13 cv_RX9_418 rfl rm_7_0_0 (am_some (inj := (fun r => (.inr (some (.int r.1)), r.2))) hq2 (A_X9_wayWith _ (hC.2.2.2.2.2.2.2.2.2.2.2.2.1) _ _ _ p1 q1.2)) rfl rfl rfl rfl rfl ⟨rfl, rfl⟩ ?_
    refine aw_goto hC dX9_wayBy_16 (tgt := 20) (by decide) ?_
    exact aw_iret hC dX9_wayBy_20 rfl rfl
set_option maxHeartbeats 4000000 in
set_option maxRecDepth 100000 in
theorem L_X9_bestBack_9  (hC : Cx p l e R s m args meth c D loc cy A cX9_bestBack 3 (some .int) RX9 5 124 0 0)  : ∀ (n9 : Nat) (x1 : Int32) (x2 : Int32) (h : HD), AW p l e R s m args below meth c D loc cy A 3 (QM below D loc cy A args s) (fun (r : Option (Int32 × HD)) => r.map (fun r => (.inr (some (.int r.1)), r.2))) (0, 0) 9 [(0, .ref (loc (7, 0, 0))), (1, .int x1), (2, .int x2)] [] h (jX9_bestBack_L9 n9 x1 x2 h) := by
  intro n9
  induction n9 with
  | zero => intro x1 x2 h; exact aw_none rfl
  | succ n9 ih9 =>
    intro x1 x2 h
    rw [jX9_bestBack_L9]
    refine aw_iload_n hC dX9_bestBack_9 rfl ?_
    refine aw_iconst hC dX9_bestBack_10 (v := 5) (by decide) ?_
    refine aw_icmp_gt hC dX9_bestBack_11 (tgt := 35) (by decide) ?_ ?_
    · refine aw_iload_n hC dX9_bestBack_35 rfl ?_
      exact aw_iret hC dX9_bestBack_36 rfl rfl
    · refine aw_aload_n hC dX9_bestBack_14 rfl ?_
      refine aw_iload_n hC dX9_bestBack_15 rfl ?_
      refine aw_bind rfl (fun q2 hq2 => ?_)
      refine aw_cVi hC dX9_bestBack_16 cv_RX9_418 rfl rm_7_0_0 (am_some (inj := (fun r => (.inr (some (.int r.1)), r.2))) hq2 (A_X9_wayWith _ (hC.2.2.2.2.2.2.2.2.2.2.2.2.1) _ _ _ x2 h)) rfl rfl rfl rfl rfl ⟨rfl, rfl⟩ ?_
      refine aw_aload_n hC dX9_bestBack_19 rfl ?_
      refine aw_iload_n hC dX9_bestBack_20 rfl ?_
      refine aw_bind rfl (fun q3 hq3 => ?_)
      refine aw_cVi hC dX9_bestBack_21 cv_RX9_418 rfl rm_7_0_0 (am_some (inj := (fun r => (.inr (some (.int r.1)), r.2))) hq3 (A_X9_wayWith _ (hC.2.2.2.2.2.2.2.2.2.2.2.2.1) _ _ _ x1 q2.2)) rfl rfl rfl rfl rfl ⟨rfl, rfl⟩ ?_
      refine aw_icmp_ge hC dX9_bestBack_24 (tgt := 29) (by decide) ?_ ?_
      · refine aw_iinc hC dX9_bestBack_29 rfl (v := x2 + 1) (by first | rfl | decide) (by decide) ?_
        refine aw_goto hC dX9_bestBack_32 (tgt := 9) (by decide) ?_
        refine aw_sub [0, 1, 2] ?_
        exact ih9 x1 (x2 + 1) q3.2
      · refine aw_iload_n hC dX9_bestBack_27 rfl ?_
        refine aw_istore_n hC dX9_bestBack_28 (by decide) ?_
        refine aw_iinc hC dX9_bestBack_29 rfl (v := x2 + 1) (by first | rfl | decide) (by decide) ?_
        refine aw_goto hC dX9_bestBack_32 (tgt := 9) (by decide) ?_
        refine aw_sub [0, 1, 2] ?_
        exact ih9 x2 (x2 + 1) q3.2
set_option maxHeartbeats 4000000 in
set_option maxRecDepth 100000 in
theorem A_X9_bestBack (l : Launch) (hl0 : l.stackTraces = false) (D : va_G) (loc : Rf → Nat) (cy : Nat → ClassId)  (h : HD) : AM l D loc cy yX9_bestBack cX9_bestBack 3 (some .int) 5 124 [.ref (loc (7, 0, 0))] h ((jX9_bestBack h).map (fun r => (.inr (some (.int r.1)), r.2))) := by
  refine am_start (y := yX9_bestBack) (av := [.ref (loc (7, 0, 0))]) (nL := 3) (h := h) (RF := fun (r : Option (Int32 × HD)) => r.map (fun r => (.inr (some (.int r.1)), r.2))) (x := jX9_bestBack h) hl0 (by decide +kernel) rfl ?_
  intro p e R s m below meth c A hC
  unfold jX9_bestBack
  refine aw_aload_n hC dX9_bestBack_0 rfl ?_
  refine aw_iconst hC dX9_bestBack_1 (v := 0) (by decide) ?_
  refine aw_pfI hC dX9_bestBack_2 fg_RX9_112 fp_7_0 rfl rm_7_0_0 (fun h1 => ?_)
  refine aw_iconst hC dX9_bestBack_5 (v := 0) (by decide) ?_
  refine aw_istore_n hC dX9_bestBack_6 (by decide) ?_
  refine aw_iconst hC dX9_bestBack_7 (v := 1) (by decide) ?_
  refine aw_istore_n hC dX9_bestBack_8 (by decide) ?_
  refine aw_sub [0, 1, 2] ?_
  exact L_X9_bestBack_9   hC FU (0 : Int32) (1 : Int32) h1
set_option maxHeartbeats 4000000 in
set_option maxRecDepth 100000 in
theorem A_X9_wishes (l : Launch) (hl0 : l.stackTraces = false) (D : va_G) (loc : Rf → Nat) (cy : Nat → ClassId) (p1 : Int32) (p2 : Int32) (h : HD) : AM l D loc cy yX9_wishes cX9_wishes 4 (some .int) 1 37 [.ref (loc (7, 0, 0)), .int p1, .int p2] h ((jX9_wishes p1 p2 h).map (fun r => (.inr (some (.int r.1)), r.2))) := by
  refine am_start (y := yX9_wishes) (av := [.ref (loc (7, 0, 0)), .int p1, .int p2]) (nL := 4) (h := h) (RF := fun (r : Option (Int32 × HD)) => r.map (fun r => (.inr (some (.int r.1)), r.2))) (x := jX9_wishes p1 p2 h) hl0 (by decide +kernel) rfl ?_
  intro p e R s m below meth c A hC
  unfold jX9_wishes
  refine aw_aload_n hC dX9_wishes_0 rfl ?_
  refine aw_iload_n hC dX9_wishes_1 rfl ?_
  refine aw_bind rfl (fun q1 hq1 => ?_)
  refine aw_cVi hC dX9_wishes_2 cv_RX9_221 rfl rm_7_0_0 (am_some (inj := (fun r => (.inr (some (.int r)), h))) hq1 (A_X9_wishOf _ (hC.2.2.2.2.2.2.2.2.2.2.2.2.1) _ _ _ p1 h)) rfl rfl rfl rfl rfl ⟨rfl, rfl⟩ ?_
  refine aw_istore_n hC dX9_wishes_5 (by decide) ?_
  refine aw_aload_n hC dX9_wishes_6 rfl ?_
  refine aw_gfR hC dX9_wishes_7 fg_RX9_20 rfl rfl rm_7_0_0 ?_
  refine aw_iconst hC dX9_wishes_10 (v := 2) (by decide) ?_
  refine aw_iload_n hC dX9_wishes_11 rfl ?_
  refine aw_iadd hC dX9_wishes_12 ?_
  refine aw_iload_n hC dX9_wishes_13 rfl ?_
  refine aw_guard rfl (fun g3 => ?_)
  refine aw_iast hC dX9_wishes_14 rm_7_0_2 rfl rfl g3 rfl (fun h2 => ?_)
  refine aw_aload_n hC dX9_wishes_15 rfl ?_
  refine aw_iload_n hC dX9_wishes_16 rfl ?_
  refine aw_bind rfl (fun q4 hq4 => ?_)
  refine aw_cVi hC dX9_wishes_17 cv_RX9_421 rfl rm_7_0_0 (am_some (inj := (fun r => (.inr (some (.int r.1)), r.2))) hq4 (A_X9_acted _ (hC.2.2.2.2.2.2.2.2.2.2.2.2.1) _ _ _ q1 h2)) rfl rfl rfl rfl rfl ⟨rfl, rfl⟩ ?_
  exact aw_iret hC dX9_wishes_20 rfl rfl
set_option maxHeartbeats 4000000 in
set_option maxRecDepth 100000 in
theorem A_X9_prefer (l : Launch) (hl0 : l.stackTraces = false) (D : va_G) (loc : Rf → Nat) (cy : Nat → ClassId) (p1 : Int32) (p2 : Int32) (h : HD) : AM l D loc cy yX9_prefer cX9_prefer 3 (some .int) 3 82 [.ref (loc (7, 0, 0)), .int p1, .int p2] h ((jX9_prefer p1 p2 h).map (fun r => (.inr (some (.int r.1)), r.2))) := by
  refine am_start (y := yX9_prefer) (av := [.ref (loc (7, 0, 0)), .int p1, .int p2]) (nL := 3) (h := h) (RF := fun (r : Option (Int32 × HD)) => r.map (fun r => (.inr (some (.int r.1)), r.2))) (x := jX9_prefer p1 p2 h) hl0 (by decide +kernel) rfl ?_
  intro p e R s m below meth c A hC
  unfold jX9_prefer
  refine aw_aload_n hC dX9_prefer_0 rfl ?_
  refine aw_aload_n hC dX9_prefer_1 rfl ?_
  refine aw_iload_n hC dX9_prefer_2 rfl ?_
  refine aw_bind rfl (fun q1 hq1 => ?_)
  refine aw_cVb hC dX9_prefer_3 cv_RX9_325 rfl rm_7_0_0 (am_some (inj := (fun r => (.inr (some (.int (b2i r))), h))) hq1 (A_X9_isCar _ (hC.2.2.2.2.2.2.2.2.2.2.2.2.1) _ _ _ p1 h)) rfl rfl rfl rfl rfl ⟨rfl, rfl⟩ ?_
  refine aw_aload_n hC dX9_prefer_6 rfl ?_
  refine aw_iload_n hC dX9_prefer_7 rfl ?_
  refine aw_bind rfl (fun q2 hq2 => ?_)
  refine aw_cVb hC dX9_prefer_8 cv_RX9_341 rfl rm_7_0_0 (am_some (inj := (fun r => (.inr (some (.int (b2i r))), h))) hq2 (A_X9_isSpot _ (hC.2.2.2.2.2.2.2.2.2.2.2.2.1) _ _ _ p2 h)) rfl rfl rfl rfl rfl ⟨rfl, rfl⟩ ?_
  refine aw_bind rfl (fun q3 hq3 => ?_)
  refine aw_cVb hC dX9_prefer_11 cv_RX9_334 rfl rm_7_0_0 (am_some (inj := (fun r => (.inr (some (.int (b2i r.1))), r.2))) hq3 (A_X9_goesBoth _ (hC.2.2.2.2.2.2.2.2.2.2.2.2.1) _ _ _ q1 q2 h)) rfl rfl rfl rfl rfl ⟨rfl, rfl⟩ ?_
  refine aw_if_ne_b hC dX9_prefer_14 (tgt := 19) (by decide) ?_ ?_
  · refine aw_aload_n hC dX9_prefer_19 rfl ?_
    refine aw_bind rfl (fun q4 hq4 => ?_)
    refine aw_cVv hC dX9_prefer_20 cv_RX9_271 rfl rm_7_0_0 (am_some (inj := (fun r => (.inr (none), r))) hq4 (A_X9_laysAside _ (hC.2.2.2.2.2.2.2.2.2.2.2.2.1) _ _ _ q3.2)) rfl rfl rfl rfl rfl ⟨rfl, rfl⟩ ?_
    refine aw_aload_n hC dX9_prefer_23 rfl ?_
    refine aw_aload_n hC dX9_prefer_24 rfl ?_
    refine aw_iload_n hC dX9_prefer_25 rfl ?_
    refine aw_iload_n hC dX9_prefer_26 rfl ?_
    refine aw_bind rfl (fun q5 hq5 => ?_)
    refine aw_cVi hC dX9_prefer_27 cv_RX9_424 rfl rm_7_0_0 (am_some (inj := (fun r => (.inr (some (.int r.1)), r.2))) hq5 (A_X9_wishes _ (hC.2.2.2.2.2.2.2.2.2.2.2.2.1) _ _ _ p1 p2 q4)) rfl rfl rfl rfl rfl ⟨rfl, rfl⟩ ?_
    refine aw_bind rfl (fun q6 hq6 => ?_)
    refine aw_cVi hC dX9_prefer_30 cv_RX9_427 rfl rm_7_0_0 (am_some (inj := (fun r => (.inr (some (.int r.1)), r.2))) hq6 (A_X9_kept _ (hC.2.2.2.2.2.2.2.2.2.2.2.2.1) _ _ _ q5.1 q5.2)) rfl rfl rfl rfl rfl ⟨rfl, rfl⟩ ?_
    exact aw_iret hC dX9_prefer_33 rfl rfl
  · refine aw_iconst hC dX9_prefer_17 (v := 0) (by decide) ?_
    exact aw_iret hC dX9_prefer_18 rfl rfl
set_option maxHeartbeats 4000000 in
set_option maxRecDepth 100000 in
theorem A_X9_whyNoSwap (l : Launch) (hl0 : l.stackTraces = false) (D : va_G) (loc : Rf → Nat) (cy : Nat → ClassId) (p1 : Int32) (h : HD) : AM l D loc cy yX9_whyNoSwap cX9_whyNoSwap 2 (some .int) 0 16 [.ref (loc (7, 0, 0)), .int p1] h ((jX9_whyNoSwap p1 h).map (fun r => (.inr (some (.int r)), h))) := by
  refine am_start (y := yX9_whyNoSwap) (av := [.ref (loc (7, 0, 0)), .int p1]) (nL := 2) (h := h) (RF := fun (r : Option Int32) => r.map (fun r => (.inr (some (.int r)), h))) (x := jX9_whyNoSwap p1 h) hl0 (by decide +kernel) rfl ?_
  intro p e R s m below meth c A hC
  unfold jX9_whyNoSwap
  refine aw_iload_n hC dX9_whyNoSwap_0 rfl ?_
  refine aw_aload_n hC dX9_whyNoSwap_1 rfl ?_
  refine aw_gfR hC dX9_whyNoSwap_2 fg_RX9_20 rfl rfl rm_7_0_0 ?_
  refine aw_iconst hC dX9_whyNoSwap_5 (v := 0) (by decide) ?_
  refine aw_iald hC dX9_whyNoSwap_6 rm_7_0_2 rfl rfl (by decide) (k := 0) (by decide) ?_
  refine aw_iconst hC dX9_whyNoSwap_7 (v := 1) (by decide) ?_
  refine aw_isub hC dX9_whyNoSwap_8 ?_
  refine aw_icmp_ne hC dX9_whyNoSwap_9 (tgt := 16) (by decide) ?_ ?_
  · refine aw_iconst hC dX9_whyNoSwap_16 (v := 0) (by decide) ?_
    exact aw_iret hC dX9_whyNoSwap_17 rfl rfl
  · refine aw_iconst hC dX9_whyNoSwap_12 (v := 3) (by decide) ?_
    refine aw_goto hC dX9_whyNoSwap_13 (tgt := 17) (by decide) ?_
    exact aw_iret hC dX9_whyNoSwap_17 rfl rfl
set_option maxHeartbeats 4000000 in
set_option maxRecDepth 100000 in
theorem A_X9_swaps (l : Launch) (hl0 : l.stackTraces = false) (D : va_G) (loc : Rf → Nat) (cy : Nat → ClassId) (p1 : Int32) (h : HD) : AM l D loc cy yX9_swaps cX9_swaps 2 (some .int) 2 62 [.ref (loc (7, 0, 0)), .int p1] h ((jX9_swaps p1 h).map (fun r => (.inr (some (.int r.1)), r.2))) := by
  refine am_start (y := yX9_swaps) (av := [.ref (loc (7, 0, 0)), .int p1]) (nL := 2) (h := h) (RF := fun (r : Option (Int32 × HD)) => r.map (fun r => (.inr (some (.int r.1)), r.2))) (x := jX9_swaps p1 h) hl0 (by decide +kernel) rfl ?_
  intro p e R s m below meth c A hC
  unfold jX9_swaps
  refine aw_aload_n hC dX9_swaps_0 rfl ?_
  refine aw_iload_n hC dX9_swaps_1 rfl ?_
  refine aw_iload_n hC dX9_swaps_2 rfl ?_
  refine aw_iconst hC dX9_swaps_3 (v := 1) (by decide) ?_
  refine aw_iadd hC dX9_swaps_4 ?_
  refine aw_bind rfl (fun q1 hq1 => ?_)
  refine aw_cVv hC dX9_swaps_5 cv_RX9_409 rfl rm_7_0_0 (am_some (inj := (fun r => (.inr (none), r))) hq1 (A_X9_changesPlaces _ (hC.2.2.2.2.2.2.2.2.2.2.2.2.1) _ _ _ p1 (p1 + (1 : Int32)) h)) rfl rfl rfl rfl rfl ⟨rfl, rfl⟩ ?_
  refine aw_aload_n hC dX9_swaps_8 rfl ?_
  refine aw_iload_n hC dX9_swaps_9 rfl ?_
  refine aw_bind rfl (fun q2 hq2 => ?_)
  refine aw_cVi hC dX9_swaps_10 cv_RX9_421 rfl rm_7_0_0 (am_some (inj := (fun r => (.inr (some (.int r.1)), r.2))) hq2 (A_X9_acted _ (hC.2.2.2.2.2.2.2.2.2.2.2.2.1) _ _ _ p1 q1)) rfl rfl rfl rfl rfl ⟨rfl, rfl⟩ ?_
  exact aw_iret hC dX9_swaps_13 rfl rfl
set_option maxHeartbeats 4000000 in
set_option maxRecDepth 100000 in
theorem A_X9_swap (l : Launch) (hl0 : l.stackTraces = false) (D : va_G) (loc : Rf → Nat) (cy : Nat → ClassId) (p1 : Int32) (h : HD) : AM l D loc cy yX9_swap cX9_swap 2 (some .boolean) 3 83 [.ref (loc (7, 0, 0)), .int p1] h ((jX9_swap p1 h).map (fun r => (.inr (some (.int (b2i r.1))), r.2))) := by
  refine am_start (y := yX9_swap) (av := [.ref (loc (7, 0, 0)), .int p1]) (nL := 2) (h := h) (RF := fun (r : Option (Bool × HD)) => r.map (fun r => (.inr (some (.int (b2i r.1))), r.2))) (x := jX9_swap p1 h) hl0 (by decide +kernel) rfl ?_
  intro p e R s m below meth c A hC
  unfold jX9_swap
  refine aw_aload_n hC dX9_swap_0 rfl ?_
  refine aw_aload_n hC dX9_swap_1 rfl ?_
  refine aw_iload_n hC dX9_swap_2 rfl ?_
  refine aw_bind rfl (fun q1 hq1 => ?_)
  refine aw_cVb hC dX9_swap_3 cv_RX9_325 rfl rm_7_0_0 (am_some (inj := (fun r => (.inr (some (.int (b2i r))), h))) hq1 (A_X9_isCar _ (hC.2.2.2.2.2.2.2.2.2.2.2.2.1) _ _ _ p1 h)) rfl rfl rfl rfl rfl ⟨rfl, rfl⟩ ?_
  refine aw_bind rfl (fun q2 hq2 => ?_)
  refine aw_cVb hC dX9_swap_6 cv_RX9_122 rfl rm_7_0_0 (am_some (inj := (fun r => (.inr (some (.int (b2i r.1))), r.2))) hq2 (A_X9_goes _ (hC.2.2.2.2.2.2.2.2.2.2.2.2.1) _ _ _ q1 h)) rfl rfl rfl rfl rfl ⟨rfl, rfl⟩ ?_
  refine aw_if_eq_b hC dX9_swap_9 (tgt := 24) (by decide) ?_ ?_
  · refine aw_iconst hC dX9_swap_24 (v := 0) (by decide) ?_
    exact aw_zret hC dX9_swap_25 rfl (show _ = b2i false from rfl) rfl
  · refine aw_aload_n hC dX9_swap_12 rfl ?_
    refine aw_aload_n hC dX9_swap_13 rfl ?_
    refine aw_iload_n hC dX9_swap_14 rfl ?_
    refine aw_bind rfl (fun q3 hq3 => ?_)
    refine aw_cVi hC dX9_swap_15 cv_RX9_430 rfl rm_7_0_0 (am_some (inj := (fun r => (.inr (some (.int r)), q2.2))) hq3 (A_X9_whyNoSwap _ (hC.2.2.2.2.2.2.2.2.2.2.2.2.1) _ _ _ p1 q2.2)) rfl rfl rfl rfl rfl ⟨rfl, rfl⟩ ?_
    refine aw_bind rfl (fun q4 hq4 => ?_)
    refine aw_cVb hC dX9_swap_18 cv_RX9_433 rfl rm_7_0_0 (am_some (inj := (fun r => (.inr (some (.int (b2i r.1))), r.2))) hq4 (A_X9_refused _ (hC.2.2.2.2.2.2.2.2.2.2.2.2.1) _ _ _ q3 q2.2)) rfl rfl rfl rfl rfl ⟨rfl, rfl⟩ ?_
    refine aw_if_eq_b hC dX9_swap_21 (tgt := 26) (by decide) ?_ ?_
    · refine aw_aload_n hC dX9_swap_26 rfl ?_
      refine aw_bind rfl (fun q5 hq5 => ?_)
      refine aw_cVv hC dX9_swap_27 cv_RX9_271 rfl rm_7_0_0 (am_some (inj := (fun r => (.inr (none), r))) hq5 (A_X9_laysAside _ (hC.2.2.2.2.2.2.2.2.2.2.2.2.1) _ _ _ q4.2)) rfl rfl rfl rfl rfl ⟨rfl, rfl⟩ ?_
      refine aw_aload_n hC dX9_swap_30 rfl ?_
      refine aw_aload_n hC dX9_swap_31 rfl ?_
      refine aw_iload_n hC dX9_swap_32 rfl ?_
      refine aw_bind rfl (fun q6 hq6 => ?_)
      refine aw_cVi hC dX9_swap_33 cv_RX9_436 rfl rm_7_0_0 (am_some (inj := (fun r => (.inr (some (.int r.1)), r.2))) hq6 (A_X9_swaps _ (hC.2.2.2.2.2.2.2.2.2.2.2.2.1) _ _ _ p1 q5)) rfl rfl rfl rfl rfl ⟨rfl, rfl⟩ ?_
      refine aw_bind rfl (fun q7 hq7 => ?_)
      refine aw_cVi hC dX9_swap_36 cv_RX9_427 rfl rm_7_0_0 (am_some (inj := (fun r => (.inr (some (.int r.1)), r.2))) hq7 (A_X9_kept _ (hC.2.2.2.2.2.2.2.2.2.2.2.2.1) _ _ _ q6.1 q6.2)) rfl rfl rfl rfl rfl ⟨rfl, rfl⟩ ?_
      refine aw_if_lt hC dX9_swap_39 (tgt := 46) (by decide) ?_ ?_
      · refine aw_iconst hC dX9_swap_46 (v := 0) (by decide) ?_
        exact aw_zret hC dX9_swap_47 rfl (show _ = b2i false from rfl) rfl
      · refine aw_iconst hC dX9_swap_42 (v := 1) (by decide) ?_
        refine aw_goto hC dX9_swap_43 (tgt := 47) (by decide) ?_
        exact aw_zret hC dX9_swap_47 rfl (show _ = b2i true from rfl) rfl
    · refine aw_iconst hC dX9_swap_24 (v := 0) (by decide) ?_
      exact aw_zret hC dX9_swap_25 rfl (show _ = b2i false from rfl) rfl
set_option maxHeartbeats 4000000 in
set_option maxRecDepth 100000 in
theorem L_X9_turns_2 (p1 : Int32) (k37 : HD → Option (Int32 × HD)) (hC : Cx p l e R s m args meth c D loc cy A cX9_turns 3 (some .int) RX9 6 147 0 0) (hk37 : ∀  (h2 : HD), AW p l e R s m args below meth c D loc cy A 3 (QM below D loc cy A args s) (fun (r : Option (Int32 × HD)) => r.map (fun r => (.inr (some (.int r.1)), r.2))) (0, 0) 37 [(0, .ref (loc (7, 0, 0)))] [] h2 (k37  h2)) : ∀ (n2 : Nat) (x2 : Int32) (h : HD), AW p l e R s m args below meth c D loc cy A 3 (QM below D loc cy A args s) (fun (r : Option (Int32 × HD)) => r.map (fun r => (.inr (some (.int r.1)), r.2))) (0, 0) 2 [(0, .ref (loc (7, 0, 0))), (1, .int p1), (2, .int x2)] [] h (jX9_turns_L2 p1 k37 n2 x2 h) := by
  intro n2
  induction n2 with
  | zero => intro x2 h; exact aw_none rfl
  | succ n2 ih2 =>
    intro x2 h
    rw [jX9_turns_L2]
    refine aw_iload_n hC dX9_turns_2 rfl ?_
    refine aw_aload_n hC dX9_turns_3 rfl ?_
    refine aw_gfR hC dX9_turns_4 fg_RX9_20 rfl rfl rm_7_0_0 ?_
    refine aw_iconst hC dX9_turns_7 (v := 0) (by decide) ?_
    refine aw_iald hC dX9_turns_8 rm_7_0_2 rfl rfl (by decide) (k := 0) (by decide) ?_
    refine aw_icmp_ge hC dX9_turns_9 (tgt := 37) (by decide) ?_ ?_
    · refine aw_sub [0] ?_
      exact hk37 h
    · refine aw_aload_n hC dX9_turns_12 rfl ?_
      refine aw_gfR hC dX9_turns_13 fg_RX9_20 rfl rfl rm_7_0_0 ?_
      refine aw_iconst hC dX9_turns_16 (v := 2) (by decide) ?_
      refine aw_iload_n hC dX9_turns_17 rfl ?_
      refine aw_iadd hC dX9_turns_18 ?_
      refine aw_aload_n hC dX9_turns_19 rfl ?_
      refine aw_aload_n hC dX9_turns_20 rfl ?_
      refine aw_iload_n hC dX9_turns_21 rfl ?_
      refine aw_bind rfl (fun q1 hq1 => ?_)
      refine aw_cVi hC dX9_turns_22 cv_RX9_221 rfl rm_7_0_0 (am_some (inj := (fun r => (.inr (some (.int r)), h))) hq1 (A_X9_wishOf _ (hC.2.2.2.2.2.2.2.2.2.2.2.2.1) _ _ _ x2 h)) rfl rfl rfl rfl rfl ⟨rfl, rfl⟩ ?_
      refine aw_iload_n hC dX9_turns_25 rfl ?_
      refine aw_iadd hC dX9_turns_26 ?_
      refine aw_bind rfl (fun q2 hq2 => ?_)
      refine aw_cVi hC dX9_turns_27 cv_RX9_218 rfl rm_7_0_0 (am_some (inj := (fun r => (.inr (some (.int r)), h))) hq2 (A_X9_round _ (hC.2.2.2.2.2.2.2.2.2.2.2.2.1) _ _ _ (q1 + p1) h)) rfl rfl rfl rfl rfl ⟨rfl, rfl⟩ ?_
      refine aw_guard rfl (fun g4 => ?_)
      refine aw_iast hC dX9_turns_30 rm_7_0_2 rfl rfl g4 rfl (fun h3 => ?_)
      refine aw_iinc hC dX9_turns_31 rfl (v := x2 + 1) (by first | rfl | decide) (by decide) ?_
      refine aw_goto hC dX9_turns_34 (tgt := 2) (by decide) ?_
      refine aw_sub [0, 1, 2] ?_
      exact ih2 (x2 + 1) h3
set_option maxHeartbeats 4000000 in
set_option maxRecDepth 100000 in
theorem A_X9_turns (l : Launch) (hl0 : l.stackTraces = false) (D : va_G) (loc : Rf → Nat) (cy : Nat → ClassId) (p1 : Int32) (h : HD) : AM l D loc cy yX9_turns cX9_turns 3 (some .int) 6 147 [.ref (loc (7, 0, 0)), .int p1] h ((jX9_turns p1 h).map (fun r => (.inr (some (.int r.1)), r.2))) := by
  refine am_start (y := yX9_turns) (av := [.ref (loc (7, 0, 0)), .int p1]) (nL := 3) (h := h) (RF := fun (r : Option (Int32 × HD)) => r.map (fun r => (.inr (some (.int r.1)), r.2))) (x := jX9_turns p1 h) hl0 (by decide +kernel) rfl ?_
  intro p e R s m below meth c A hC
  unfold jX9_turns
  refine aw_iconst hC dX9_turns_0 (v := 0) (by decide) ?_
  refine aw_istore_n hC dX9_turns_1 (by decide) ?_
  refine aw_sub [0, 1, 2] ?_
  refine L_X9_turns_2 p1 _ hC ?_ FU (0 : Int32) h
  · intro h5
    refine aw_aload_n hC dX9_turns_37 rfl ?_
    refine aw_aload_n hC dX9_turns_38 rfl ?_
    refine aw_bipush hC dX9_turns_39 (v := 7) (by decide) ?_
    refine aw_bind rfl (fun q6 hq6 => ?_)
    refine aw_cVi hC dX9_turns_41 cv_RX9_317 rfl rm_7_0_0 (am_some (inj := (fun r => (.inr (some (.int r.1)), r.2))) hq6 (A_X9_settingOf _ (hC.2.2.2.2.2.2.2.2.2.2.2.2.1) _ _ _ (7 : Int32) h5)) rfl rfl rfl rfl rfl ⟨rfl, rfl⟩ ?_
    refine aw_bind rfl (fun q7 hq7 => ?_)
    refine aw_cVi hC dX9_turns_44 cv_RX9_421 rfl rm_7_0_0 (am_some (inj := (fun r => (.inr (some (.int r.1)), r.2))) hq7 (A_X9_acted _ (hC.2.2.2.2.2.2.2.2.2.2.2.2.1) _ _ _ q6.1 q6.2)) rfl rfl rfl rfl rfl ⟨rfl, rfl⟩ ?_
    exact aw_iret hC dX9_turns_47 rfl rfl
set_option maxHeartbeats 4000000 in
set_option maxRecDepth 100000 in
theorem A_X9_isTurn (l : Launch) (hl0 : l.stackTraces = false) (D : va_G) (loc : Rf → Nat) (cy : Nat → ClassId) (p1 : Int32) (h : HD) : AM l D loc cy yX9_isTurn cX9_isTurn 1 (some .boolean) 1 41 [.int p1] h (some (.inr (some (.int (b2i (jX9_isTurn p1 h)))), h)) := by
  refine am_start (y := yX9_isTurn) (av := [.int p1]) (nL := 1) (h := h) (RF := fun (r : Bool) => some (.inr (some (.int (b2i r))), h)) (x := jX9_isTurn p1 h) hl0 (by decide +kernel) rfl ?_
  intro p e R s m below meth c A hC
  unfold jX9_isTurn
  refine aw_iload_n hC dX9_isTurn_0 rfl ?_
  refine aw_i2l hC dX9_isTurn_1 ?_
  refine aw_lconst hC dX9_isTurn_2 (v := 0) (by decide) ?_
  refine aw_ldc2 hC dX9_isTurn_3 (v := 99) tw9_147 ?_
  refine aw_cSb hC dX9_isTurn_6 cv_RX9_130 (A_X9_isIn _ (hC.2.2.2.2.2.2.2.2.2.2.2.2.1) _ _ _ p1.toInt64 (0 : Int64) (99 : Int64) h) rfl rfl rfl rfl rfl ⟨rfl, rfl⟩ ?_
  exact aw_zret hC dX9_isTurn_9 rfl (show _ = b2i (jX9_isIn p1.toInt64 (0 : Int64) (99 : Int64) h) from rfl) rfl
set_option maxHeartbeats 4000000 in
set_option maxRecDepth 100000 in
theorem A_X9_turn (l : Launch) (hl0 : l.stackTraces = false) (D : va_G) (loc : Rf → Nat) (cy : Nat → ClassId) (p1 : Int32) (h : HD) : AM l D loc cy yX9_turn cX9_turn 2 (some .int) 7 169 [.ref (loc (7, 0, 0)), .int p1] h ((jX9_turn p1 h).map (fun r => (.inr (some (.int r.1)), r.2))) := by
  refine am_start (y := yX9_turn) (av := [.ref (loc (7, 0, 0)), .int p1]) (nL := 2) (h := h) (RF := fun (r : Option (Int32 × HD)) => r.map (fun r => (.inr (some (.int r.1)), r.2))) (x := jX9_turn p1 h) hl0 (by decide +kernel) rfl ?_
  intro p e R s m below meth c A hC
  unfold jX9_turn
  refine aw_aload_n hC dX9_turn_0 rfl ?_
  refine aw_iload_n hC dX9_turn_1 rfl ?_
  refine aw_cSb hC dX9_turn_2 cv_RX9_441 (A_X9_isTurn _ (hC.2.2.2.2.2.2.2.2.2.2.2.2.1) _ _ _ p1 h) rfl rfl rfl rfl rfl ⟨rfl, rfl⟩ ?_
  refine aw_bind rfl (fun q1 hq1 => ?_)
  refine aw_cVb hC dX9_turn_5 cv_RX9_122 rfl rm_7_0_0 (am_some (inj := (fun r => (.inr (some (.int (b2i r.1))), r.2))) hq1 (A_X9_goes _ (hC.2.2.2.2.2.2.2.2.2.2.2.2.1) _ _ _ (jX9_isTurn p1 h) h)) rfl rfl rfl rfl rfl ⟨rfl, rfl⟩ ?_
  refine aw_if_ne_b hC dX9_turn_8 (tgt := 13) (by decide) ?_ ?_
  · refine aw_aload_n hC dX9_turn_13 rfl ?_
    refine aw_bind rfl (fun q2 hq2 => ?_)
    refine aw_cVv hC dX9_turn_14 cv_RX9_271 rfl rm_7_0_0 (am_some (inj := (fun r => (.inr (none), r))) hq2 (A_X9_laysAside _ (hC.2.2.2.2.2.2.2.2.2.2.2.2.1) _ _ _ q1.2)) rfl rfl rfl rfl rfl ⟨rfl, rfl⟩ ?_
    refine aw_aload_n hC dX9_turn_17 rfl ?_
    refine aw_aload_n hC dX9_turn_18 rfl ?_
    refine aw_iload_n hC dX9_turn_19 rfl ?_
    refine aw_bind rfl (fun q3 hq3 => ?_)
    refine aw_cVi hC dX9_turn_20 cv_RX9_444 rfl rm_7_0_0 (am_some (inj := (fun r => (.inr (some (.int r.1)), r.2))) hq3 (A_X9_turns _ (hC.2.2.2.2.2.2.2.2.2.2.2.2.1) _ _ _ p1 q2)) rfl rfl rfl rfl rfl ⟨rfl, rfl⟩ ?_
    refine aw_bind rfl (fun q4 hq4 => ?_)
    refine aw_cVi hC dX9_turn_23 cv_RX9_427 rfl rm_7_0_0 (am_some (inj := (fun r => (.inr (some (.int r.1)), r.2))) hq4 (A_X9_kept _ (hC.2.2.2.2.2.2.2.2.2.2.2.2.1) _ _ _ q3.1 q3.2)) rfl rfl rfl rfl rfl ⟨rfl, rfl⟩ ?_
    exact aw_iret hC dX9_turn_26 rfl rfl
  · refine aw_iconst hC dX9_turn_11 (v := 0) (by decide) ?_
    exact aw_iret hC dX9_turn_12 rfl rfl
set_option maxHeartbeats 4000000 in
set_option maxRecDepth 100000 in
theorem A_X9_looksBack (l : Launch) (hl0 : l.stackTraces = false) (D : va_G) (loc : Rf → Nat) (cy : Nat → ClassId) (p1 : Int32) (h : HD) : AM l D loc cy yX9_looksBack cX9_looksBack 3 (some .int) 1 37 [.ref (loc (7, 0, 0)), .int p1] h ((jX9_looksBack p1 h).map (fun r => (.inr (some (.int r.1)), r.2))) := by
  refine am_start (y := yX9_looksBack) (av := [.ref (loc (7, 0, 0)), .int p1]) (nL := 3) (h := h) (RF := fun (r : Option (Int32 × HD)) => r.map (fun r => (.inr (some (.int r.1)), r.2))) (x := jX9_looksBack p1 h) hl0 (by decide +kernel) rfl ?_
  intro p e R s m below meth c A hC
  unfold jX9_looksBack
  refine aw_aload_n hC dX9_looksBack_0 rfl ?_
  refine aw_gfR hC dX9_looksBack_1 fg_RX9_20 rfl rfl rm_7_0_0 ?_
  refine aw_iconst hC dX9_looksBack_4 (v := 1) (by decide) ?_
  refine aw_iald hC dX9_looksBack_5 rm_7_0_2 rfl rfl (by decide) (k := 1) (by decide) ?_
  refine aw_istore_n hC dX9_looksBack_6 (by decide) ?_
  refine aw_aload_n hC dX9_looksBack_7 rfl ?_
  refine aw_gfR hC dX9_looksBack_8 fg_RX9_20 rfl rfl rm_7_0_0 ?_
  refine aw_iconst hC dX9_looksBack_11 (v := 1) (by decide) ?_
  refine aw_iload_n hC dX9_looksBack_12 rfl ?_
  refine aw_iast hC dX9_looksBack_13 rm_7_0_2 rfl rfl (by decide) (k := 1) (by decide) (fun h1 => ?_)
  refine aw_aload_n hC dX9_looksBack_14 rfl ?_
  refine aw_iload_n hC dX9_looksBack_15 rfl ?_
  refine aw_bind rfl (fun q2 hq2 => ?_)
  refine aw_cVi hC dX9_looksBack_16 cv_RX9_421 rfl rm_7_0_0 (am_some (inj := (fun r => (.inr (some (.int r.1)), r.2))) hq2 (A_X9_acted _ (hC.2.2.2.2.2.2.2.2.2.2.2.2.1) _ _ _ (gI h (7, 0, 2) 1) h1)) rfl rfl rfl rfl rfl ⟨rfl, rfl⟩ ?_
  exact aw_iret hC dX9_looksBack_19 rfl rfl
set_option maxHeartbeats 4000000 in
set_option maxRecDepth 100000 in
theorem A_X9_setBack (l : Launch) (hl0 : l.stackTraces = false) (D : va_G) (loc : Rf → Nat) (cy : Nat → ClassId) (p1 : Int32) (h : HD) : AM l D loc cy yX9_setBack cX9_setBack 2 (some .int) 3 82 [.ref (loc (7, 0, 0)), .int p1] h ((jX9_setBack p1 h).map (fun r => (.inr (some (.int r.1)), r.2))) := by
  refine am_start (y := yX9_setBack) (av := [.ref (loc (7, 0, 0)), .int p1]) (nL := 2) (h := h) (RF := fun (r : Option (Int32 × HD)) => r.map (fun r => (.inr (some (.int r.1)), r.2))) (x := jX9_setBack p1 h) hl0 (by decide +kernel) rfl ?_
  intro p e R s m below meth c A hC
  unfold jX9_setBack
  refine aw_aload_n hC dX9_setBack_0 rfl ?_
  refine aw_iload_n hC dX9_setBack_1 rfl ?_
  refine aw_cSb hC dX9_setBack_2 cv_RX9_415 (A_X9_isBack _ (hC.2.2.2.2.2.2.2.2.2.2.2.2.1) _ _ _ p1 h) rfl rfl rfl rfl rfl ⟨rfl, rfl⟩ ?_
  refine aw_bind rfl (fun q1 hq1 => ?_)
  refine aw_cVb hC dX9_setBack_5 cv_RX9_122 rfl rm_7_0_0 (am_some (inj := (fun r => (.inr (some (.int (b2i r.1))), r.2))) hq1 (A_X9_goes _ (hC.2.2.2.2.2.2.2.2.2.2.2.2.1) _ _ _ (jX9_isBack p1 h) h)) rfl rfl rfl rfl rfl ⟨rfl, rfl⟩ ?_
  refine aw_if_ne_b hC dX9_setBack_8 (tgt := 13) (by decide) ?_ ?_
  · refine aw_aload_n hC dX9_setBack_13 rfl ?_
    refine aw_bind rfl (fun q2 hq2 => ?_)
    refine aw_cVv hC dX9_setBack_14 cv_RX9_271 rfl rm_7_0_0 (am_some (inj := (fun r => (.inr (none), r))) hq2 (A_X9_laysAside _ (hC.2.2.2.2.2.2.2.2.2.2.2.2.1) _ _ _ q1.2)) rfl rfl rfl rfl rfl ⟨rfl, rfl⟩ ?_
    refine aw_aload_n hC dX9_setBack_17 rfl ?_
    refine aw_aload_n hC dX9_setBack_18 rfl ?_
    refine aw_iload_n hC dX9_setBack_19 rfl ?_
    refine aw_bind rfl (fun q3 hq3 => ?_)
    refine aw_cVi hC dX9_setBack_20 cv_RX9_447 rfl rm_7_0_0 (am_some (inj := (fun r => (.inr (some (.int r.1)), r.2))) hq3 (A_X9_looksBack _ (hC.2.2.2.2.2.2.2.2.2.2.2.2.1) _ _ _ p1 q2)) rfl rfl rfl rfl rfl ⟨rfl, rfl⟩ ?_
    refine aw_bind rfl (fun q4 hq4 => ?_)
    refine aw_cVi hC dX9_setBack_23 cv_RX9_427 rfl rm_7_0_0 (am_some (inj := (fun r => (.inr (some (.int r.1)), r.2))) hq4 (A_X9_kept _ (hC.2.2.2.2.2.2.2.2.2.2.2.2.1) _ _ _ q3.1 q3.2)) rfl rfl rfl rfl rfl ⟨rfl, rfl⟩ ?_
    exact aw_iret hC dX9_setBack_26 rfl rfl
  · refine aw_iconst hC dX9_setBack_11 (v := 0) (by decide) ?_
    exact aw_iret hC dX9_setBack_12 rfl rfl
set_option maxHeartbeats 4000000 in
set_option maxRecDepth 100000 in
theorem A_X9_mayCome (l : Launch) (hl0 : l.stackTraces = false) (D : va_G) (loc : Rf → Nat) (cy : Nat → ClassId) (p1 : Int32) (h : HD) : AM l D loc cy yX9_mayCome cX9_mayCome 2 (some .boolean) 1 41 [.ref (loc (7, 0, 0)), .int p1] h ((jX9_mayCome p1 h).map (fun r => (.inr (some (.int (b2i r))), h))) := by
  refine am_start (y := yX9_mayCome) (av := [.ref (loc (7, 0, 0)), .int p1]) (nL := 2) (h := h) (RF := fun (r : Option Bool) => r.map (fun r => (.inr (some (.int (b2i r))), h))) (x := jX9_mayCome p1 h) hl0 (by decide +kernel) rfl ?_
  intro p e R s m below meth c A hC
  unfold jX9_mayCome
  refine aw_iload_n hC dX9_mayCome_0 rfl ?_
  refine aw_i2l hC dX9_mayCome_1 ?_
  refine aw_lconst hC dX9_mayCome_2 (v := 0) (by decide) ?_
  refine aw_aload_n hC dX9_mayCome_3 rfl ?_
  refine aw_gfR hC dX9_mayCome_4 fg_RX9_20 rfl rfl rm_7_0_0 ?_
  refine aw_iconst hC dX9_mayCome_7 (v := 0) (by decide) ?_
  refine aw_iald hC dX9_mayCome_8 rm_7_0_2 rfl rfl (by decide) (k := 0) (by decide) ?_
  refine aw_iconst hC dX9_mayCome_9 (v := 1) (by decide) ?_
  refine aw_iadd hC dX9_mayCome_10 ?_
  refine aw_i2l hC dX9_mayCome_11 ?_
  refine aw_cSb hC dX9_mayCome_12 cv_RX9_130 (A_X9_isIn _ (hC.2.2.2.2.2.2.2.2.2.2.2.2.1) _ _ _ p1.toInt64 (0 : Int64) (((gI h (7, 0, 2) 0) + (1 : Int32)).toInt64) h) rfl rfl rfl rfl rfl ⟨rfl, rfl⟩ ?_
  exact aw_zret hC dX9_mayCome_15 rfl (show _ = b2i (jX9_isIn p1.toInt64 (0 : Int64) (((gI h (7, 0, 2) 0) + (1 : Int32)).toInt64) h) from rfl) rfl
set_option maxHeartbeats 4000000 in
set_option maxRecDepth 100000 in
theorem A_X9_whyNoCar (l : Launch) (hl0 : l.stackTraces = false) (D : va_G) (loc : Rf → Nat) (cy : Nat → ClassId) (p1 : Int64) (h : HD) : AM l D loc cy yX9_whyNoCar cX9_whyNoCar 3 (some .int) 1 39 [.ref (loc (7, 0, 0)), .long p1] h ((jX9_whyNoCar p1 h).map (fun r => (.inr (some (.int r)), h))) := by
  refine am_start (y := yX9_whyNoCar) (av := [.ref (loc (7, 0, 0)), .long p1]) (nL := 3) (h := h) (RF := fun (r : Option Int32) => r.map (fun r => (.inr (some (.int r)), h))) (x := jX9_whyNoCar p1 h) hl0 (by decide +kernel) rfl ?_
  intro p e R s m below meth c A hC
  unfold jX9_whyNoCar
  refine aw_aload_n hC dX9_whyNoCar_0 rfl ?_
  refine aw_gfR hC dX9_whyNoCar_1 fg_RX9_20 rfl rfl rm_7_0_0 ?_
  refine aw_iconst hC dX9_whyNoCar_4 (v := 0) (by decide) ?_
  refine aw_iald hC dX9_whyNoCar_5 rm_7_0_2 rfl rfl (by decide) (k := 0) (by decide) ?_
  refine aw_bipush hC dX9_whyNoCar_6 (v := 11) (by decide) ?_
  refine aw_icmp_ne hC dX9_whyNoCar_8 (tgt := 13) (by decide) ?_ ?_
  · refine aw_lload_n hC dX9_whyNoCar_13 rfl ?_
    refine aw_lconst hC dX9_whyNoCar_14 (v := 0) (by decide) ?_
    refine aw_lcmp hC dX9_whyNoCar_15 ?_
    refine aw_if_eq hC dX9_whyNoCar_16 (tgt := 28) (by decide) ?_ ?_
    · refine aw_iconst hC dX9_whyNoCar_28 (v := 2) (by decide) ?_
      refine aw_goto hC dX9_whyNoCar_29 (tgt := 33) (by decide) ?_
      exact aw_iret hC dX9_whyNoCar_33 rfl rfl
    · refine aw_aload_n hC dX9_whyNoCar_19 rfl ?_
      refine aw_lload_n hC dX9_whyNoCar_20 rfl ?_
      refine aw_bind rfl (fun q1 hq1 => ?_)
      refine aw_cVi hC dX9_whyNoCar_21 cv_RX9_260 rfl rm_7_0_0 (am_some (inj := (fun r => (.inr (some (.int r)), h))) hq1 (A_X9_carNamed _ (hC.2.2.2.2.2.2.2.2.2.2.2.2.1) _ _ _ p1 h)) rfl rfl rfl rfl rfl ⟨rfl, rfl⟩ ?_
      refine aw_iconst hC dX9_whyNoCar_24 (v := -1) (by decide) ?_
      refine aw_icmp_eq hC dX9_whyNoCar_25 (tgt := 32) (by decide) ?_ ?_
      · refine aw_iconst hC dX9_whyNoCar_32 (v := 0) (by decide) ?_
        exact aw_iret hC dX9_whyNoCar_33 rfl rfl
      · refine aw_iconst hC dX9_whyNoCar_28 (v := 2) (by decide) ?_
        refine aw_goto hC dX9_whyNoCar_29 (tgt := 33) (by decide) ?_
        exact aw_iret hC dX9_whyNoCar_33 rfl rfl
  · refine aw_iconst hC dX9_whyNoCar_11 (v := 1) (by decide) ?_
    exact aw_iret hC dX9_whyNoCar_12 rfl rfl
set_option maxHeartbeats 4000000 in
set_option maxRecDepth 100000 in
theorem A_X9_comes (l : Launch) (hl0 : l.stackTraces = false) (D : va_G) (loc : Rf → Nat) (cy : Nat → ClassId) (p1 : Int64) (p2 : Int32) (h : HD) : AM l D loc cy yX9_comes cX9_comes 4 (some .int) 1 37 [.ref (loc (7, 0, 0)), .long p1, .int p2] h ((jX9_comes p1 p2 h).map (fun r => (.inr (some (.int r.1)), r.2))) := by
  refine am_start (y := yX9_comes) (av := [.ref (loc (7, 0, 0)), .long p1, .int p2]) (nL := 4) (h := h) (RF := fun (r : Option (Int32 × HD)) => r.map (fun r => (.inr (some (.int r.1)), r.2))) (x := jX9_comes p1 p2 h) hl0 (by decide +kernel) rfl ?_
  intro p e R s m below meth c A hC
  unfold jX9_comes
  refine aw_aload_n hC dX9_comes_0 rfl ?_
  refine aw_gfR hC dX9_comes_1 fg_RX9_35 rfl rfl rm_7_0_0 ?_
  refine aw_aload_n hC dX9_comes_4 rfl ?_
  refine aw_gfR hC dX9_comes_5 fg_RX9_20 rfl rfl rm_7_0_0 ?_
  refine aw_iconst hC dX9_comes_8 (v := 0) (by decide) ?_
  refine aw_iald hC dX9_comes_9 rm_7_0_2 rfl rfl (by decide) (k := 0) (by decide) ?_
  refine aw_lload_n hC dX9_comes_10 rfl ?_
  refine aw_guard rfl (fun g2 => ?_)
  refine aw_last hC dX9_comes_11 rm_7_0_7 rfl rfl g2 rfl (fun h1 => ?_)
  refine aw_aload_n hC dX9_comes_12 rfl ?_
  refine aw_gfR hC dX9_comes_13 fg_RX9_20 rfl rfl rm_7_0_0 ?_
  refine aw_iconst hC dX9_comes_16 (v := 2) (by decide) ?_
  refine aw_aload_n hC dX9_comes_17 rfl ?_
  refine aw_gfR hC dX9_comes_18 fg_RX9_20 rfl rfl rm_7_0_0 ?_
  refine aw_iconst hC dX9_comes_21 (v := 0) (by decide) ?_
  refine aw_iald hC dX9_comes_22 rm_7_0_2 rfl rfl (by decide) (k := 0) (by decide) ?_
  refine aw_iadd hC dX9_comes_23 ?_
  refine aw_iload_n hC dX9_comes_24 rfl ?_
  refine aw_guard rfl (fun g4 => ?_)
  refine aw_iast hC dX9_comes_25 rm_7_0_2 rfl rfl g4 rfl (fun h3 => ?_)
  refine aw_aload_n hC dX9_comes_26 rfl ?_
  refine aw_gfR hC dX9_comes_27 fg_RX9_20 rfl rfl rm_7_0_0 ?_
  refine aw_iconst hC dX9_comes_30 (v := 0) (by decide) ?_
  refine aw_dup2 hC dX9_comes_31 rfl rfl ?_
  refine aw_iald hC dX9_comes_32 rm_7_0_2 rfl rfl (by decide) (k := 0) (by decide) ?_
  refine aw_iconst hC dX9_comes_33 (v := 1) (by decide) ?_
  refine aw_iadd hC dX9_comes_34 ?_
  refine aw_iast hC dX9_comes_35 rm_7_0_2 rfl rfl (by decide) (k := 0) (by decide) (fun h5 => ?_)
  refine aw_aload_n hC dX9_comes_36 rfl ?_
  refine aw_gfR hC dX9_comes_37 fg_RX9_51 rfl rfl rm_7_0_0 ?_
  refine aw_iconst hC dX9_comes_40 (v := 2) (by decide) ?_
  refine aw_dup2 hC dX9_comes_41 rfl rfl ?_
  refine aw_iald hC dX9_comes_42 rm_7_0_12 rfl rfl (by decide) (k := 2) (by decide) ?_
  refine aw_iconst hC dX9_comes_43 (v := 1) (by decide) ?_
  refine aw_iadd hC dX9_comes_44 ?_
  refine aw_iast hC dX9_comes_45 rm_7_0_12 rfl rfl (by decide) (k := 2) (by decide) (fun h6 => ?_)
  refine aw_aload_n hC dX9_comes_46 rfl ?_
  refine aw_aload_n hC dX9_comes_47 rfl ?_
  refine aw_gfR hC dX9_comes_48 fg_RX9_20 rfl rfl rm_7_0_0 ?_
  refine aw_iconst hC dX9_comes_51 (v := 0) (by decide) ?_
  refine aw_iald hC dX9_comes_52 rm_7_0_2 rfl rfl (by decide) (k := 0) (by decide) ?_
  refine aw_bind rfl (fun q7 hq7 => ?_)
  refine aw_cVi hC dX9_comes_53 cv_RX9_421 rfl rm_7_0_0 (am_some (inj := (fun r => (.inr (some (.int r.1)), r.2))) hq7 (A_X9_acted _ (hC.2.2.2.2.2.2.2.2.2.2.2.2.1) _ _ _ (gI h6 (7, 0, 2) 0) h6)) rfl rfl rfl rfl rfl ⟨rfl, rfl⟩ ?_
  exact aw_iret hC dX9_comes_56 rfl rfl
set_option maxHeartbeats 4000000 in
set_option maxRecDepth 100000 in
theorem L_X9_bufferName_18 (h : HD) (k74 : Int64 → Int32 → Option Int64) (hC : Cx p l e R s m args meth c D loc cy A cX9_bufferName 5 (some .long) RX9 1 41 0 0) (hk74 : ∀ (x1 : Int64) (x3 : Int32), AW p l e R s m args below meth c D loc cy A 5 (QM below D loc cy A args s) (fun (r : Option Int64) => r.map (fun r => (.inr (some (.long r)), h))) (0, 0) 74 [(1, .long x1), (3, .int x3)] [] h (k74 x1 x3)) : ∀ (n18 : Nat) (x1 : Int64) (x3 : Int32) (x4 : Int32), AW p l e R s m args below meth c D loc cy A 5 (QM below D loc cy A args s) (fun (r : Option Int64) => r.map (fun r => (.inr (some (.long r)), h))) (0, 0) 18 [(0, .ref (loc (7, 0, 0))), (1, .long x1), (3, .int x3), (4, .int x4)] [] h (jX9_bufferName_L18 h k74 n18 x1 x3 x4) := by
  intro n18
  induction n18 with
  | zero => intro x1 x3 x4; exact aw_none rfl
  | succ n18 ih18 =>
    intro x1 x3 x4
    rw [jX9_bufferName_L18]
    refine aw_iload hC dX9_bufferName_18 rfl ?_
    refine aw_aload_n hC dX9_bufferName_20 rfl ?_
    refine aw_gfI hC dX9_bufferName_21 fg_RX9_119 rfl rm_7_0_0 ?_
    refine aw_icmp_ge hC dX9_bufferName_24 (tgt := 74) (by decide) ?_ ?_
    · refine aw_sub [1, 3] ?_
      exact hk74 x1 x3
    · refine aw_iload_n hC dX9_bufferName_27 rfl ?_
      refine aw_if_eq hC dX9_bufferName_28 (tgt := 74) (by decide) ?_ ?_
      · refine aw_sub [1, 3] ?_
        exact hk74 x1 x3
      · refine aw_aload_n hC dX9_bufferName_31 rfl ?_
        refine aw_gfR hC dX9_bufferName_32 fg_RX9_7 rfl rfl rm_7_0_0 ?_
        refine aw_iload hC dX9_bufferName_35 rfl ?_
        refine aw_guard rfl (fun g1 => ?_)
        refine aw_iald hC dX9_bufferName_37 rm_7_0_1 rfl rfl g1 rfl ?_
        refine aw_i2l hC dX9_bufferName_38 ?_
        refine aw_ldc2 hC dX9_bufferName_39 (v := 97) tw9_173 ?_
        refine aw_ldc2 hC dX9_bufferName_42 (v := 122) tw9_174 ?_
        refine aw_cSb hC dX9_bufferName_45 cv_RX9_130 (A_X9_isIn _ (hC.2.2.2.2.2.2.2.2.2.2.2.2.1) _ _ _ ((gI h (7, 0, 1) x4.toNatClampNeg).toInt64) (97 : Int64) (122 : Int64) h) rfl rfl rfl rfl rfl ⟨rfl, rfl⟩ ?_
        refine aw_istore_n hC dX9_bufferName_48 (by decide) ?_
        refine aw_ldc2 hC dX9_bufferName_49 (v := 32) tw9_175 ?_
        refine aw_lload_n hC dX9_bufferName_52 rfl ?_
        refine aw_lmul hC dX9_bufferName_53 ?_
        refine aw_aload_n hC dX9_bufferName_54 rfl ?_
        refine aw_gfR hC dX9_bufferName_55 fg_RX9_7 rfl rfl rm_7_0_0 ?_
        refine aw_iload hC dX9_bufferName_58 rfl ?_
        refine aw_guard rfl (fun g2 => ?_)
        refine aw_iald hC dX9_bufferName_60 rm_7_0_1 rfl rfl g2 rfl ?_
        refine aw_i2l hC dX9_bufferName_61 ?_
        refine aw_ladd hC dX9_bufferName_62 ?_
        refine aw_ldc2 hC dX9_bufferName_63 (v := 96) tw9_176 ?_
        refine aw_lsub hC dX9_bufferName_66 ?_
        refine aw_lstore_n hC dX9_bufferName_67 (by decide) ?_
        refine aw_iinc hC dX9_bufferName_68 rfl (v := x4 + 1) (by first | rfl | decide) (by decide) ?_
        refine aw_goto hC dX9_bufferName_71 (tgt := 18) (by decide) ?_
        refine aw_sub [0, 1, 3, 4] ?_
        exact ih18 ((((32 : Int64) * x1) + ((gI h (7, 0, 1) x4.toNatClampNeg).toInt64)) - (96 : Int64)) (b2i (jX9_isIn ((gI h (7, 0, 1) x4.toNatClampNeg).toInt64) (97 : Int64) (122 : Int64) h)) (x4 + 1)
set_option maxHeartbeats 4000000 in
set_option maxRecDepth 100000 in
theorem A_X9_bufferName (l : Launch) (hl0 : l.stackTraces = false) (D : va_G) (loc : Rf → Nat) (cy : Nat → ClassId)  (h : HD) : AM l D loc cy yX9_bufferName cX9_bufferName 5 (some .long) 1 41 [.ref (loc (7, 0, 0))] h ((jX9_bufferName h).map (fun r => (.inr (some (.long r)), h))) := by
  refine am_start (y := yX9_bufferName) (av := [.ref (loc (7, 0, 0))]) (nL := 5) (h := h) (RF := fun (r : Option Int64) => r.map (fun r => (.inr (some (.long r)), h))) (x := jX9_bufferName h) hl0 (by decide +kernel) rfl ?_
  intro p e R s m below meth c A hC
  unfold jX9_bufferName
  refine aw_lconst hC dX9_bufferName_0 (v := 0) (by decide) ?_
  refine aw_lstore_n hC dX9_bufferName_1 (by decide) ?_
  refine aw_aload_n hC dX9_bufferName_2 rfl ?_
  refine aw_gfI hC dX9_bufferName_3 fg_RX9_119 rfl rm_7_0_0 ?_
  refine aw_i2l hC dX9_bufferName_6 ?_
  refine aw_lconst hC dX9_bufferName_7 (v := 1) (by decide) ?_
  refine aw_ldc2 hC dX9_bufferName_8 (v := 8) tw9_172 ?_
  refine aw_cSb hC dX9_bufferName_11 cv_RX9_130 (A_X9_isIn _ (hC.2.2.2.2.2.2.2.2.2.2.2.2.1) _ _ _ ((gI h (7, 0, 0) 2).toInt64) (1 : Int64) (8 : Int64) h) rfl rfl rfl rfl rfl ⟨rfl, rfl⟩ ?_
  refine aw_istore_n hC dX9_bufferName_14 (by decide) ?_
  refine aw_iconst hC dX9_bufferName_15 (v := 0) (by decide) ?_
  refine aw_istore hC dX9_bufferName_16 (by decide) ?_
  refine aw_sub [0, 1, 3, 4] ?_
  refine L_X9_bufferName_18 h _ hC ?_ FU (0 : Int64) (b2i (jX9_isIn ((gI h (7, 0, 0) 2).toInt64) (1 : Int64) (8 : Int64) h)) (0 : Int32)
  · intro y18_1 y18_3
    refine aw_iload_n hC dX9_bufferName_74 rfl ?_
    refine aw_if_eq hC dX9_bufferName_75 (tgt := 82) (by decide) ?_ ?_
    · refine aw_lconst hC dX9_bufferName_82 (v := 0) (by decide) ?_
      exact aw_lret hC dX9_bufferName_83 rfl rfl
    · refine aw_lload_n hC dX9_bufferName_78 rfl ?_
      refine aw_goto hC dX9_bufferName_79 (tgt := 83) (by decide) ?_
      exact aw_lret hC dX9_bufferName_83 rfl rfl
set_option maxHeartbeats 4000000 in
set_option maxRecDepth 100000 in
theorem A_X9_come (l : Launch) (hl0 : l.stackTraces = false) (D : va_G) (loc : Rf → Nat) (cy : Nat → ClassId) (p1 : Int32) (h : HD) : AM l D loc cy yX9_come cX9_come 3 (some .boolean) 3 82 [.ref (loc (7, 0, 0)), .int p1] h ((jX9_come p1 h).map (fun r => (.inr (some (.int (b2i r.1))), r.2))) := by
  refine am_start (y := yX9_come) (av := [.ref (loc (7, 0, 0)), .int p1]) (nL := 3) (h := h) (RF := fun (r : Option (Bool × HD)) => r.map (fun r => (.inr (some (.int (b2i r.1))), r.2))) (x := jX9_come p1 h) hl0 (by decide +kernel) rfl ?_
  intro p e R s m below meth c A hC
  unfold jX9_come
  refine aw_aload_n hC dX9_come_0 rfl ?_
  refine aw_aload_n hC dX9_come_1 rfl ?_
  refine aw_iload_n hC dX9_come_2 rfl ?_
  refine aw_bind rfl (fun q1 hq1 => ?_)
  refine aw_cVb hC dX9_come_3 cv_RX9_460 rfl rm_7_0_0 (am_some (inj := (fun r => (.inr (some (.int (b2i r))), h))) hq1 (A_X9_mayCome _ (hC.2.2.2.2.2.2.2.2.2.2.2.2.1) _ _ _ p1 h)) rfl rfl rfl rfl rfl ⟨rfl, rfl⟩ ?_
  refine aw_bind rfl (fun q2 hq2 => ?_)
  refine aw_cVb hC dX9_come_6 cv_RX9_122 rfl rm_7_0_0 (am_some (inj := (fun r => (.inr (some (.int (b2i r.1))), r.2))) hq2 (A_X9_goes _ (hC.2.2.2.2.2.2.2.2.2.2.2.2.1) _ _ _ q1 h)) rfl rfl rfl rfl rfl ⟨rfl, rfl⟩ ?_
  refine aw_if_eq_b hC dX9_come_9 (tgt := 27) (by decide) ?_ ?_
  · refine aw_iconst hC dX9_come_27 (v := 0) (by decide) ?_
    exact aw_zret hC dX9_come_28 rfl (show _ = b2i false from rfl) rfl
  · refine aw_aload_n hC dX9_come_12 rfl ?_
    refine aw_aload_n hC dX9_come_13 rfl ?_
    refine aw_aload_n hC dX9_come_14 rfl ?_
    refine aw_bind rfl (fun q3 hq3 => ?_)
    refine aw_cVj hC dX9_come_15 cv_RX9_463 rfl rm_7_0_0 (am_some (inj := (fun r => (.inr (some (.long r)), q2.2))) hq3 (A_X9_bufferName _ (hC.2.2.2.2.2.2.2.2.2.2.2.2.1) _ _ _ q2.2)) rfl rfl rfl rfl rfl ⟨rfl, rfl⟩ ?_
    refine aw_bind rfl (fun q4 hq4 => ?_)
    refine aw_cVi hC dX9_come_18 cv_RX9_466 rfl rm_7_0_0 (am_some (inj := (fun r => (.inr (some (.int r)), q2.2))) hq4 (A_X9_whyNoCar _ (hC.2.2.2.2.2.2.2.2.2.2.2.2.1) _ _ _ q3 q2.2)) rfl rfl rfl rfl rfl ⟨rfl, rfl⟩ ?_
    refine aw_bind rfl (fun q5 hq5 => ?_)
    refine aw_cVb hC dX9_come_21 cv_RX9_433 rfl rm_7_0_0 (am_some (inj := (fun r => (.inr (some (.int (b2i r.1))), r.2))) hq5 (A_X9_refused _ (hC.2.2.2.2.2.2.2.2.2.2.2.2.1) _ _ _ q4 q2.2)) rfl rfl rfl rfl rfl ⟨rfl, rfl⟩ ?_
    refine aw_if_eq_b hC dX9_come_24 (tgt := 29) (by decide) ?_ ?_
    · refine aw_aload_n hC dX9_come_29 rfl ?_
      refine aw_bind rfl (fun q6 hq6 => ?_)
      refine aw_cVv hC dX9_come_30 cv_RX9_271 rfl rm_7_0_0 (am_some (inj := (fun r => (.inr (none), r))) hq6 (A_X9_laysAside _ (hC.2.2.2.2.2.2.2.2.2.2.2.2.1) _ _ _ q5.2)) rfl rfl rfl rfl rfl ⟨rfl, rfl⟩ ?_
      refine aw_aload_n hC dX9_come_33 rfl ?_
      refine aw_aload_n hC dX9_come_34 rfl ?_
      refine aw_bind rfl (fun q7 hq7 => ?_)
      refine aw_cVj hC dX9_come_35 cv_RX9_463 rfl rm_7_0_0 (am_some (inj := (fun r => (.inr (some (.long r)), q6))) hq7 (A_X9_bufferName _ (hC.2.2.2.2.2.2.2.2.2.2.2.2.1) _ _ _ q6)) rfl rfl rfl rfl rfl ⟨rfl, rfl⟩ ?_
      refine aw_iload_n hC dX9_come_38 rfl ?_
      refine aw_bind rfl (fun q8 hq8 => ?_)
      refine aw_cVi hC dX9_come_39 cv_RX9_469 rfl rm_7_0_0 (am_some (inj := (fun r => (.inr (some (.int r.1)), r.2))) hq8 (A_X9_comes _ (hC.2.2.2.2.2.2.2.2.2.2.2.2.1) _ _ _ q7 p1 q6)) rfl rfl rfl rfl rfl ⟨rfl, rfl⟩ ?_
      refine aw_istore_n hC dX9_come_42 (by decide) ?_
      refine aw_aload_n hC dX9_come_43 rfl ?_
      refine aw_iconst hC dX9_come_44 (v := 0) (by decide) ?_
      refine aw_pfI hC dX9_come_45 fg_RX9_119 fp_7_2 rfl rm_7_0_0 (fun h9 => ?_)
      refine aw_aload_n hC dX9_come_48 rfl ?_
      refine aw_iload_n hC dX9_come_49 rfl ?_
      refine aw_bind rfl (fun q10 hq10 => ?_)
      refine aw_cVi hC dX9_come_50 cv_RX9_427 rfl rm_7_0_0 (am_some (inj := (fun r => (.inr (some (.int r.1)), r.2))) hq10 (A_X9_kept _ (hC.2.2.2.2.2.2.2.2.2.2.2.2.1) _ _ _ q8.1 h9)) rfl rfl rfl rfl rfl ⟨rfl, rfl⟩ ?_
      refine aw_if_le hC dX9_come_53 (tgt := 60) (by decide) ?_ ?_
      · refine aw_iconst hC dX9_come_60 (v := 0) (by decide) ?_
        exact aw_zret hC dX9_come_61 rfl (show _ = b2i false from rfl) rfl
      · refine aw_iconst hC dX9_come_56 (v := 1) (by decide) ?_
        refine aw_goto hC dX9_come_57 (tgt := 61) (by decide) ?_
        exact aw_zret hC dX9_come_61 rfl (show _ = b2i true from rfl) rfl
    · refine aw_iconst hC dX9_come_27 (v := 0) (by decide) ?_
      exact aw_zret hC dX9_come_28 rfl (show _ = b2i false from rfl) rfl
set_option maxHeartbeats 4000000 in
set_option maxRecDepth 100000 in
theorem L_X9_whyNoGo_2 (p1 : Int32) (h : HD) (hC : Cx p l e R s m args meth c D loc cy A cX9_whyNoGo 3 (some .int) RX9 1 37 0 0)  : ∀ (n2 : Nat) (x2 : Int32), AW p l e R s m args below meth c D loc cy A 3 (QM below D loc cy A args s) (fun (r : Option Int32) => r.map (fun r => (.inr (some (.int r)), h))) (0, 0) 2 [(0, .ref (loc (7, 0, 0))), (1, .int p1), (2, .int x2)] [] h (jX9_whyNoGo_L2 p1 h n2 x2) := by
  intro n2
  induction n2 with
  | zero => intro x2; exact aw_none rfl
  | succ n2 ih2 =>
    intro x2
    rw [jX9_whyNoGo_L2]
    refine aw_iload_n hC dX9_whyNoGo_2 rfl ?_
    refine aw_aload_n hC dX9_whyNoGo_3 rfl ?_
    refine aw_gfR hC dX9_whyNoGo_4 fg_RX9_20 rfl rfl rm_7_0_0 ?_
    refine aw_iconst hC dX9_whyNoGo_7 (v := 0) (by decide) ?_
    refine aw_iald hC dX9_whyNoGo_8 rm_7_0_2 rfl rfl (by decide) (k := 0) (by decide) ?_
    refine aw_icmp_ge hC dX9_whyNoGo_9 (tgt := 39) (by decide) ?_ ?_
    · refine aw_iconst hC dX9_whyNoGo_39 (v := 0) (by decide) ?_
      exact aw_iret hC dX9_whyNoGo_40 rfl rfl
    · refine aw_iload_n hC dX9_whyNoGo_12 rfl ?_
      refine aw_iload_n hC dX9_whyNoGo_13 rfl ?_
      refine aw_icmp_eq hC dX9_whyNoGo_14 (tgt := 33) (by decide) ?_ ?_
      · refine aw_iinc hC dX9_whyNoGo_33 rfl (v := x2 + 1) (by first | rfl | decide) (by decide) ?_
        refine aw_goto hC dX9_whyNoGo_36 (tgt := 2) (by decide) ?_
        refine aw_sub [0, 1, 2] ?_
        exact ih2 (x2 + 1)
      · refine aw_aload_n hC dX9_whyNoGo_17 rfl ?_
        refine aw_iload_n hC dX9_whyNoGo_18 rfl ?_
        refine aw_bind rfl (fun q1 hq1 => ?_)
        refine aw_cVi hC dX9_whyNoGo_19 cv_RX9_221 rfl rm_7_0_0 (am_some (inj := (fun r => (.inr (some (.int r)), h))) hq1 (A_X9_wishOf _ (hC.2.2.2.2.2.2.2.2.2.2.2.2.1) _ _ _ x2 h)) rfl rfl rfl rfl rfl ⟨rfl, rfl⟩ ?_
        refine aw_aload_n hC dX9_whyNoGo_22 rfl ?_
        refine aw_gfR hC dX9_whyNoGo_23 fg_RX9_20 rfl rfl rm_7_0_0 ?_
        refine aw_iconst hC dX9_whyNoGo_26 (v := 0) (by decide) ?_
        refine aw_iald hC dX9_whyNoGo_27 rm_7_0_2 rfl rfl (by decide) (k := 0) (by decide) ?_
        refine aw_icmp_ne hC dX9_whyNoGo_28 (tgt := 33) (by decide) ?_ ?_
        · refine aw_iinc hC dX9_whyNoGo_33 rfl (v := x2 + 1) (by first | rfl | decide) (by decide) ?_
          refine aw_goto hC dX9_whyNoGo_36 (tgt := 2) (by decide) ?_
          refine aw_sub [0, 1, 2] ?_
          exact ih2 (x2 + 1)
        · refine aw_iconst hC dX9_whyNoGo_31 (v := 4) (by decide) ?_
          exact aw_iret hC dX9_whyNoGo_32 rfl rfl
set_option maxHeartbeats 4000000 in
set_option maxRecDepth 100000 in
theorem A_X9_whyNoGo (l : Launch) (hl0 : l.stackTraces = false) (D : va_G) (loc : Rf → Nat) (cy : Nat → ClassId) (p1 : Int32) (h : HD) : AM l D loc cy yX9_whyNoGo cX9_whyNoGo 3 (some .int) 1 37 [.ref (loc (7, 0, 0)), .int p1] h ((jX9_whyNoGo p1 h).map (fun r => (.inr (some (.int r)), h))) := by
  refine am_start (y := yX9_whyNoGo) (av := [.ref (loc (7, 0, 0)), .int p1]) (nL := 3) (h := h) (RF := fun (r : Option Int32) => r.map (fun r => (.inr (some (.int r)), h))) (x := jX9_whyNoGo p1 h) hl0 (by decide +kernel) rfl ?_
  intro p e R s m below meth c A hC
  unfold jX9_whyNoGo
  refine aw_iconst hC dX9_whyNoGo_0 (v := 0) (by decide) ?_
  refine aw_istore_n hC dX9_whyNoGo_1 (by decide) ?_
  refine aw_sub [0, 1, 2] ?_
  exact L_X9_whyNoGo_2 p1 h  hC FU (0 : Int32)
set_option maxHeartbeats 4000000 in
set_option maxRecDepth 100000 in
theorem A_X9_leaves0 (l : Launch) (hl0 : l.stackTraces = false) (D : va_G) (loc : Rf → Nat) (cy : Nat → ClassId) (p1 : Int32) (h : HD) : AM l D loc cy yX9_leaves0 cX9_leaves0 2 (some .int) 3 85 [.ref (loc (7, 0, 0)), .int p1] h ((jX9_leaves0 p1 h).map (fun r => (.inr (some (.int r.1)), r.2))) := by
  refine am_start (y := yX9_leaves0) (av := [.ref (loc (7, 0, 0)), .int p1]) (nL := 2) (h := h) (RF := fun (r : Option (Int32 × HD)) => r.map (fun r => (.inr (some (.int r.1)), r.2))) (x := jX9_leaves0 p1 h) hl0 (by decide +kernel) rfl ?_
  intro p e R s m below meth c A hC
  unfold jX9_leaves0
  refine aw_aload_n hC dX9_leaves0_0 rfl ?_
  refine aw_iload_n hC dX9_leaves0_1 rfl ?_
  refine aw_aload_n hC dX9_leaves0_2 rfl ?_
  refine aw_gfR hC dX9_leaves0_3 fg_RX9_20 rfl rfl rm_7_0_0 ?_
  refine aw_iconst hC dX9_leaves0_6 (v := 0) (by decide) ?_
  refine aw_iald hC dX9_leaves0_7 rm_7_0_2 rfl rfl (by decide) (k := 0) (by decide) ?_
  refine aw_iconst hC dX9_leaves0_8 (v := 1) (by decide) ?_
  refine aw_isub hC dX9_leaves0_9 ?_
  refine aw_bind rfl (fun q1 hq1 => ?_)
  refine aw_cVv hC dX9_leaves0_10 cv_RX9_412 rfl rm_7_0_0 (am_some (inj := (fun r => (.inr (none), r))) hq1 (A_X9_placesAt _ (hC.2.2.2.2.2.2.2.2.2.2.2.2.1) _ _ _ p1 ((gI h (7, 0, 2) 0) - (1 : Int32)) h)) rfl rfl rfl rfl rfl ⟨rfl, rfl⟩ ?_
  refine aw_aload_n hC dX9_leaves0_13 rfl ?_
  refine aw_gfR hC dX9_leaves0_14 fg_RX9_20 rfl rfl rm_7_0_0 ?_
  refine aw_iconst hC dX9_leaves0_17 (v := 0) (by decide) ?_
  refine aw_dup2 hC dX9_leaves0_18 rfl rfl ?_
  refine aw_iald hC dX9_leaves0_19 rm_7_0_2 rfl rfl (by decide) (k := 0) (by decide) ?_
  refine aw_iconst hC dX9_leaves0_20 (v := 1) (by decide) ?_
  refine aw_isub hC dX9_leaves0_21 ?_
  refine aw_iast hC dX9_leaves0_22 rm_7_0_2 rfl rfl (by decide) (k := 0) (by decide) (fun h2 => ?_)
  refine aw_aload_n hC dX9_leaves0_23 rfl ?_
  refine aw_gfR hC dX9_leaves0_24 fg_RX9_20 rfl rfl rm_7_0_0 ?_
  refine aw_iconst hC dX9_leaves0_27 (v := 2) (by decide) ?_
  refine aw_aload_n hC dX9_leaves0_28 rfl ?_
  refine aw_gfR hC dX9_leaves0_29 fg_RX9_20 rfl rfl rm_7_0_0 ?_
  refine aw_iconst hC dX9_leaves0_32 (v := 0) (by decide) ?_
  refine aw_iald hC dX9_leaves0_33 rm_7_0_2 rfl rfl (by decide) (k := 0) (by decide) ?_
  refine aw_iadd hC dX9_leaves0_34 ?_
  refine aw_iconst hC dX9_leaves0_35 (v := 0) (by decide) ?_
  refine aw_guard rfl (fun g4 => ?_)
  refine aw_iast hC dX9_leaves0_36 rm_7_0_2 rfl rfl g4 rfl (fun h3 => ?_)
  refine aw_aload_n hC dX9_leaves0_37 rfl ?_
  refine aw_gfR hC dX9_leaves0_38 fg_RX9_35 rfl rfl rm_7_0_0 ?_
  refine aw_aload_n hC dX9_leaves0_41 rfl ?_
  refine aw_gfR hC dX9_leaves0_42 fg_RX9_20 rfl rfl rm_7_0_0 ?_
  refine aw_iconst hC dX9_leaves0_45 (v := 0) (by decide) ?_
  refine aw_iald hC dX9_leaves0_46 rm_7_0_2 rfl rfl (by decide) (k := 0) (by decide) ?_
  refine aw_lconst hC dX9_leaves0_47 (v := 0) (by decide) ?_
  refine aw_guard rfl (fun g6 => ?_)
  refine aw_last hC dX9_leaves0_48 rm_7_0_7 rfl rfl g6 rfl (fun h5 => ?_)
  refine aw_aload_n hC dX9_leaves0_49 rfl ?_
  refine aw_gfR hC dX9_leaves0_50 fg_RX9_51 rfl rfl rm_7_0_0 ?_
  refine aw_iconst hC dX9_leaves0_53 (v := 3) (by decide) ?_
  refine aw_dup2 hC dX9_leaves0_54 rfl rfl ?_
  refine aw_iald hC dX9_leaves0_55 rm_7_0_12 rfl rfl (by decide) (k := 3) (by decide) ?_
  refine aw_iconst hC dX9_leaves0_56 (v := 1) (by decide) ?_
  refine aw_iadd hC dX9_leaves0_57 ?_
  refine aw_iast hC dX9_leaves0_58 rm_7_0_12 rfl rfl (by decide) (k := 3) (by decide) (fun h7 => ?_)
  refine aw_aload_n hC dX9_leaves0_59 rfl ?_
  refine aw_aload_n hC dX9_leaves0_60 rfl ?_
  refine aw_gfR hC dX9_leaves0_61 fg_RX9_20 rfl rfl rm_7_0_0 ?_
  refine aw_iconst hC dX9_leaves0_64 (v := 0) (by decide) ?_
  refine aw_iald hC dX9_leaves0_65 rm_7_0_2 rfl rfl (by decide) (k := 0) (by decide) ?_
  refine aw_bind rfl (fun q8 hq8 => ?_)
  refine aw_cVi hC dX9_leaves0_66 cv_RX9_421 rfl rm_7_0_0 (am_some (inj := (fun r => (.inr (some (.int r.1)), r.2))) hq8 (A_X9_acted _ (hC.2.2.2.2.2.2.2.2.2.2.2.2.1) _ _ _ (gI h7 (7, 0, 2) 0) h7)) rfl rfl rfl rfl rfl ⟨rfl, rfl⟩ ?_
  exact aw_iret hC dX9_leaves0_69 rfl rfl
set_option maxHeartbeats 4000000 in
set_option maxRecDepth 100000 in
theorem A_X9_go (l : Launch) (hl0 : l.stackTraces = false) (D : va_G) (loc : Rf → Nat) (cy : Nat → ClassId) (p1 : Int32) (h : HD) : AM l D loc cy yX9_go cX9_go 2 (some .boolean) 4 106 [.ref (loc (7, 0, 0)), .int p1] h ((jX9_go p1 h).map (fun r => (.inr (some (.int (b2i r.1))), r.2))) := by
  refine am_start (y := yX9_go) (av := [.ref (loc (7, 0, 0)), .int p1]) (nL := 2) (h := h) (RF := fun (r : Option (Bool × HD)) => r.map (fun r => (.inr (some (.int (b2i r.1))), r.2))) (x := jX9_go p1 h) hl0 (by decide +kernel) rfl ?_
  intro p e R s m below meth c A hC
  unfold jX9_go
  refine aw_aload_n hC dX9_go_0 rfl ?_
  refine aw_aload_n hC dX9_go_1 rfl ?_
  refine aw_iload_n hC dX9_go_2 rfl ?_
  refine aw_bind rfl (fun q1 hq1 => ?_)
  refine aw_cVb hC dX9_go_3 cv_RX9_325 rfl rm_7_0_0 (am_some (inj := (fun r => (.inr (some (.int (b2i r))), h))) hq1 (A_X9_isCar _ (hC.2.2.2.2.2.2.2.2.2.2.2.2.1) _ _ _ p1 h)) rfl rfl rfl rfl rfl ⟨rfl, rfl⟩ ?_
  refine aw_bind rfl (fun q2 hq2 => ?_)
  refine aw_cVb hC dX9_go_6 cv_RX9_122 rfl rm_7_0_0 (am_some (inj := (fun r => (.inr (some (.int (b2i r.1))), r.2))) hq2 (A_X9_goes _ (hC.2.2.2.2.2.2.2.2.2.2.2.2.1) _ _ _ q1 h)) rfl rfl rfl rfl rfl ⟨rfl, rfl⟩ ?_
  refine aw_if_eq_b hC dX9_go_9 (tgt := 24) (by decide) ?_ ?_
  · refine aw_iconst hC dX9_go_24 (v := 0) (by decide) ?_
    exact aw_zret hC dX9_go_25 rfl (show _ = b2i false from rfl) rfl
  · refine aw_aload_n hC dX9_go_12 rfl ?_
    refine aw_aload_n hC dX9_go_13 rfl ?_
    refine aw_iload_n hC dX9_go_14 rfl ?_
    refine aw_bind rfl (fun q3 hq3 => ?_)
    refine aw_cVi hC dX9_go_15 cv_RX9_472 rfl rm_7_0_0 (am_some (inj := (fun r => (.inr (some (.int r)), q2.2))) hq3 (A_X9_whyNoGo _ (hC.2.2.2.2.2.2.2.2.2.2.2.2.1) _ _ _ p1 q2.2)) rfl rfl rfl rfl rfl ⟨rfl, rfl⟩ ?_
    refine aw_bind rfl (fun q4 hq4 => ?_)
    refine aw_cVb hC dX9_go_18 cv_RX9_433 rfl rm_7_0_0 (am_some (inj := (fun r => (.inr (some (.int (b2i r.1))), r.2))) hq4 (A_X9_refused _ (hC.2.2.2.2.2.2.2.2.2.2.2.2.1) _ _ _ q3 q2.2)) rfl rfl rfl rfl rfl ⟨rfl, rfl⟩ ?_
    refine aw_if_eq_b hC dX9_go_21 (tgt := 26) (by decide) ?_ ?_
    · refine aw_aload_n hC dX9_go_26 rfl ?_
      refine aw_bind rfl (fun q5 hq5 => ?_)
      refine aw_cVv hC dX9_go_27 cv_RX9_271 rfl rm_7_0_0 (am_some (inj := (fun r => (.inr (none), r))) hq5 (A_X9_laysAside _ (hC.2.2.2.2.2.2.2.2.2.2.2.2.1) _ _ _ q4.2)) rfl rfl rfl rfl rfl ⟨rfl, rfl⟩ ?_
      refine aw_aload_n hC dX9_go_30 rfl ?_
      refine aw_aload_n hC dX9_go_31 rfl ?_
      refine aw_iload_n hC dX9_go_32 rfl ?_
      refine aw_bind rfl (fun q6 hq6 => ?_)
      refine aw_cVi hC dX9_go_33 cv_RX9_475 rfl rm_7_0_0 (am_some (inj := (fun r => (.inr (some (.int r.1)), r.2))) hq6 (A_X9_leaves0 _ (hC.2.2.2.2.2.2.2.2.2.2.2.2.1) _ _ _ p1 q5)) rfl rfl rfl rfl rfl ⟨rfl, rfl⟩ ?_
      refine aw_bind rfl (fun q7 hq7 => ?_)
      refine aw_cVi hC dX9_go_36 cv_RX9_427 rfl rm_7_0_0 (am_some (inj := (fun r => (.inr (some (.int r.1)), r.2))) hq7 (A_X9_kept _ (hC.2.2.2.2.2.2.2.2.2.2.2.2.1) _ _ _ q6.1 q6.2)) rfl rfl rfl rfl rfl ⟨rfl, rfl⟩ ?_
      refine aw_if_lt hC dX9_go_39 (tgt := 46) (by decide) ?_ ?_
      · refine aw_iconst hC dX9_go_46 (v := 0) (by decide) ?_
        exact aw_zret hC dX9_go_47 rfl (show _ = b2i false from rfl) rfl
      · refine aw_iconst hC dX9_go_42 (v := 1) (by decide) ?_
        refine aw_goto hC dX9_go_43 (tgt := 47) (by decide) ?_
        exact aw_zret hC dX9_go_47 rfl (show _ = b2i true from rfl) rfl
    · refine aw_iconst hC dX9_go_24 (v := 0) (by decide) ?_
      exact aw_zret hC dX9_go_25 rfl (show _ = b2i false from rfl) rfl
set_option maxHeartbeats 4000000 in
set_option maxRecDepth 100000 in
theorem L_X9_sorts_8 (k35 : HD → Option (Int32 × HD)) (hC : Cx p l e R s m args meth c D loc cy A cX9_sorts 3 (some .int) RX9 2 60 0 0) (hk35 : ∀  (h2 : HD), AW p l e R s m args below meth c D loc cy A 3 (QM below D loc cy A args s) (fun (r : Option (Int32 × HD)) => r.map (fun r => (.inr (some (.int r.1)), r.2))) (0, 0) 35 [(0, .ref (loc (7, 0, 0))), (1, .int (0 : Int32))] [] h2 (k35  h2)) : ∀ (n8 : Nat) (x2 : Int32) (h : HD), AW p l e R s m args below meth c D loc cy A 3 (QM below D loc cy A args s) (fun (r : Option (Int32 × HD)) => r.map (fun r => (.inr (some (.int r.1)), r.2))) (0, 0) 8 [(0, .ref (loc (7, 0, 0))), (1, .int (0 : Int32)), (2, .int x2)] [] h (jX9_sorts_L8 k35 n8 x2 h) := by
  intro n8
  induction n8 with
  | zero => intro x2 h; exact aw_none rfl
  | succ n8 ih8 =>
    intro x2 h
    rw [jX9_sorts_L8]
    refine aw_iload_n hC dX9_sorts_8 rfl ?_
    refine aw_aload_n hC dX9_sorts_9 rfl ?_
    refine aw_gfR hC dX9_sorts_10 fg_RX9_20 rfl rfl rm_7_0_0 ?_
    refine aw_iconst hC dX9_sorts_13 (v := 0) (by decide) ?_
    refine aw_iald hC dX9_sorts_14 rm_7_0_2 rfl rfl (by decide) (k := 0) (by decide) ?_
    refine aw_icmp_ge hC dX9_sorts_15 (tgt := 35) (by decide) ?_ ?_
    · refine aw_sub [0, 1] ?_
      exact hk35 h
    · refine aw_aload_n hC dX9_sorts_18 rfl ?_
      refine aw_gfR hC dX9_sorts_19 fg_RX9_81 rfl rfl rm_7_0_0 ?_
      refine aw_iload_n hC dX9_sorts_22 rfl ?_
      refine aw_aload_n hC dX9_sorts_23 rfl ?_
      refine aw_iload_n hC dX9_sorts_24 rfl ?_
      refine aw_bind rfl (fun q2 hq2 => ?_)
      refine aw_cVi hC dX9_sorts_25 cv_RX9_344 rfl rm_7_0_0 (am_some (inj := (fun r => (.inr (some (.int r)), h))) hq2 (A_X9_rankOf _ (hC.2.2.2.2.2.2.2.2.2.2.2.2.1) _ _ _ x2 h)) rfl rfl rfl rfl rfl ⟨rfl, rfl⟩ ?_
      refine aw_guard rfl (fun g4 => ?_)
      refine aw_iast hC dX9_sorts_28 rm_7_0_22 rfl rfl g4 rfl (fun h3 => ?_)
      refine aw_iinc hC dX9_sorts_29 rfl (v := x2 + 1) (by first | rfl | decide) (by decide) ?_
      refine aw_goto hC dX9_sorts_32 (tgt := 8) (by decide) ?_
      refine aw_sub [0, 1, 2] ?_
      exact ih8 (x2 + 1) h3
set_option maxHeartbeats 4000000 in
set_option maxRecDepth 100000 in
theorem L_X9_sorts_37 (k112 : Int32 → HD → Option (Int32 × HD)) (hC : Cx p l e R s m args meth c D loc cy A cX9_sorts 3 (some .int) RX9 2 60 0 0) (hk112 : ∀ (x1 : Int32) (h2 : HD), AW p l e R s m args below meth c D loc cy A 3 (QM below D loc cy A args s) (fun (r : Option (Int32 × HD)) => r.map (fun r => (.inr (some (.int r.1)), r.2))) (0, 0) 112 [(0, .ref (loc (7, 0, 0))), (1, .int x1)] [] h2 (k112 x1 h2)) : ∀ (n37 : Nat) (x1 : Int32) (x2 : Int32) (h : HD), AW p l e R s m args below meth c D loc cy A 3 (QM below D loc cy A args s) (fun (r : Option (Int32 × HD)) => r.map (fun r => (.inr (some (.int r.1)), r.2))) (0, 0) 37 [(0, .ref (loc (7, 0, 0))), (1, .int x1), (2, .int x2)] [] h (jX9_sorts_L37 k112 n37 x1 x2 h) := by
  intro n37
  induction n37 with
  | zero => intro x1 x2 h; exact aw_none rfl
  | succ n37 ih37 =>
    intro x1 x2 h
    rw [jX9_sorts_L37]
    refine aw_iload_n hC dX9_sorts_37 rfl ?_
    refine aw_aload_n hC dX9_sorts_38 rfl ?_
    refine aw_gfR hC dX9_sorts_39 fg_RX9_20 rfl rfl rm_7_0_0 ?_
    refine aw_iconst hC dX9_sorts_42 (v := 0) (by decide) ?_
    refine aw_iald hC dX9_sorts_43 rm_7_0_2 rfl rfl (by decide) (k := 0) (by decide) ?_
    refine aw_icmp_ge hC dX9_sorts_44 (tgt := 112) (by decide) ?_ ?_
    · refine aw_sub [0, 1] ?_
      exact hk112 x1 h
    · refine aw_aload_n hC dX9_sorts_47 rfl ?_
      refine aw_gfR hC dX9_sorts_48 fg_RX9_20 rfl rfl rm_7_0_0 ?_
      refine aw_iconst hC dX9_sorts_51 (v := 2) (by decide) ?_
      refine aw_aload_n hC dX9_sorts_52 rfl ?_
      refine aw_gfR hC dX9_sorts_53 fg_RX9_81 rfl rfl rm_7_0_0 ?_
      refine aw_iload_n hC dX9_sorts_56 rfl ?_
      refine aw_guard rfl (fun g6 => ?_)
      refine aw_iald hC dX9_sorts_57 rm_7_0_22 rfl rfl g6 rfl ?_
      refine aw_iadd hC dX9_sorts_58 ?_
      refine aw_aload_n hC dX9_sorts_59 rfl ?_
      refine aw_gfR hC dX9_sorts_60 fg_RX9_29 rfl rfl rm_7_0_0 ?_
      refine aw_iconst hC dX9_sorts_63 (v := 2) (by decide) ?_
      refine aw_iload_n hC dX9_sorts_64 rfl ?_
      refine aw_iadd hC dX9_sorts_65 ?_
      refine aw_guard rfl (fun g7 => ?_)
      refine aw_iald hC dX9_sorts_66 rm_7_0_5 rfl rfl g7 rfl ?_
      refine aw_guard rfl (fun g9 => ?_)
      refine aw_iast hC dX9_sorts_67 rm_7_0_2 rfl rfl g9 rfl (fun h8 => ?_)
      refine aw_aload_n hC dX9_sorts_68 rfl ?_
      refine aw_gfR hC dX9_sorts_69 fg_RX9_35 rfl rfl rm_7_0_0 ?_
      refine aw_aload_n hC dX9_sorts_72 rfl ?_
      refine aw_gfR hC dX9_sorts_73 fg_RX9_81 rfl rfl rm_7_0_0 ?_
      refine aw_iload_n hC dX9_sorts_76 rfl ?_
      refine aw_guard rfl (fun g10 => ?_)
      refine aw_iald hC dX9_sorts_77 rm_7_0_22 rfl rfl g10 rfl ?_
      refine aw_aload_n hC dX9_sorts_78 rfl ?_
      refine aw_gfR hC dX9_sorts_79 fg_RX9_45 rfl rfl rm_7_0_0 ?_
      refine aw_iload_n hC dX9_sorts_82 rfl ?_
      refine aw_guard rfl (fun g11 => ?_)
      refine aw_lald hC dX9_sorts_83 rm_7_0_10 rfl rfl g11 rfl ?_
      refine aw_guard rfl (fun g13 => ?_)
      refine aw_last hC dX9_sorts_84 rm_7_0_7 rfl rfl g13 rfl (fun h12 => ?_)
      refine aw_iload_n hC dX9_sorts_85 rfl ?_
      refine aw_aload_n hC dX9_sorts_86 rfl ?_
      refine aw_gfR hC dX9_sorts_87 fg_RX9_81 rfl rfl rm_7_0_0 ?_
      refine aw_iload_n hC dX9_sorts_90 rfl ?_
      refine aw_guard rfl (fun g14 => ?_)
      refine aw_iald hC dX9_sorts_91 rm_7_0_22 rfl rfl g14 rfl ?_
      refine aw_iload_n hC dX9_sorts_92 rfl ?_
      refine aw_icmp_eq hC dX9_sorts_93 (tgt := 100) (by decide) ?_ ?_
      · refine aw_iconst hC dX9_sorts_100 (v := 0) (by decide) ?_
        refine aw_cSi hC dX9_sorts_101 cv_RX9_115 (A_X9_truth _ (hC.2.2.2.2.2.2.2.2.2.2.2.2.1) _ _ _ false h12) rfl rfl rfl rfl rfl ⟨rfl, rfl⟩ ?_
        refine aw_iadd hC dX9_sorts_104 ?_
        refine aw_istore_n hC dX9_sorts_105 (by decide) ?_
        refine aw_iinc hC dX9_sorts_106 rfl (v := x2 + 1) (by first | rfl | decide) (by decide) ?_
        refine aw_goto hC dX9_sorts_109 (tgt := 37) (by decide) ?_
        refine aw_sub [0, 1, 2] ?_
        exact ih37 (x1 + (jX9_truth false h12)) (x2 + 1) h12
      · refine aw_iconst hC dX9_sorts_96 (v := 1) (by decide) ?_
        refine aw_goto hC dX9_sorts_97 (tgt := 101) (by decide) ?_
        refine aw_cSi hC dX9_sorts_101 cv_RX9_115 (A_X9_truth _ (hC.2.2.2.2.2.2.2.2.2.2.2.2.1) _ _ _ true h12) rfl rfl rfl rfl rfl ⟨rfl, rfl⟩ ?_
        refine aw_iadd hC dX9_sorts_104 ?_
        refine aw_istore_n hC dX9_sorts_105 (by decide) ?_
        refine aw_iinc hC dX9_sorts_106 rfl (v := x2 + 1) (by first | rfl | decide) (by decide) ?_
        refine aw_goto hC dX9_sorts_109 (tgt := 37) (by decide) ?_
        refine aw_sub [0, 1, 2] ?_
        exact ih37 (x1 + (jX9_truth true h12)) (x2 + 1) h12
set_option maxHeartbeats 4000000 in
set_option maxRecDepth 100000 in
theorem A_X9_sorts (l : Launch) (hl0 : l.stackTraces = false) (D : va_G) (loc : Rf → Nat) (cy : Nat → ClassId)  (h : HD) : AM l D loc cy yX9_sorts cX9_sorts 3 (some .int) 2 60 [.ref (loc (7, 0, 0))] h ((jX9_sorts h).map (fun r => (.inr (some (.int r.1)), r.2))) := by
  refine am_start (y := yX9_sorts) (av := [.ref (loc (7, 0, 0))]) (nL := 3) (h := h) (RF := fun (r : Option (Int32 × HD)) => r.map (fun r => (.inr (some (.int r.1)), r.2))) (x := jX9_sorts h) hl0 (by decide +kernel) rfl ?_
  intro p e R s m below meth c A hC
  unfold jX9_sorts
  refine aw_aload_n hC dX9_sorts_0 rfl ?_
  refine aw_bind rfl (fun q1 hq1 => ?_)
  refine aw_cVv hC dX9_sorts_1 cv_RX9_403 rfl rm_7_0_0 (am_some (inj := (fun r => (.inr (none), r))) hq1 (A_X9_laysAway _ (hC.2.2.2.2.2.2.2.2.2.2.2.2.1) _ _ _ h)) rfl rfl rfl rfl rfl ⟨rfl, rfl⟩ ?_
  refine aw_iconst hC dX9_sorts_4 (v := 0) (by decide) ?_
  refine aw_istore_n hC dX9_sorts_5 (by decide) ?_
  refine aw_iconst hC dX9_sorts_6 (v := 0) (by decide) ?_
  refine aw_istore_n hC dX9_sorts_7 (by decide) ?_
  refine aw_sub [0, 1, 2] ?_
  refine L_X9_sorts_8  _ hC ?_ FU (0 : Int32) q1
  · intro h5
    refine aw_iconst hC dX9_sorts_35 (v := 0) (by decide) ?_
    refine aw_istore_n hC dX9_sorts_36 (by decide) ?_
    refine aw_sub [0, 1, 2] ?_
    refine L_X9_sorts_37  _ hC ?_ FU (0 : Int32) (0 : Int32) h5
    · intro y37_1 h15
      refine aw_aload_n hC dX9_sorts_112 rfl ?_
      refine aw_iload_n hC dX9_sorts_113 rfl ?_
      refine aw_bind rfl (fun q16 hq16 => ?_)
      refine aw_cVi hC dX9_sorts_114 cv_RX9_421 rfl rm_7_0_0 (am_some (inj := (fun r => (.inr (some (.int r.1)), r.2))) hq16 (A_X9_acted _ (hC.2.2.2.2.2.2.2.2.2.2.2.2.1) _ _ _ y37_1 h15)) rfl rfl rfl rfl rfl ⟨rfl, rfl⟩ ?_
      exact aw_iret hC dX9_sorts_117 rfl rfl
set_option maxHeartbeats 4000000 in
set_option maxRecDepth 100000 in
theorem A_X9_sort (l : Launch) (hl0 : l.stackTraces = false) (D : va_G) (loc : Rf → Nat) (cy : Nat → ClassId)  (h : HD) : AM l D loc cy yX9_sort cX9_sort 1 (some .int) 3 82 [.ref (loc (7, 0, 0))] h ((jX9_sort h).map (fun r => (.inr (some (.int r.1)), r.2))) := by
  refine am_start (y := yX9_sort) (av := [.ref (loc (7, 0, 0))]) (nL := 1) (h := h) (RF := fun (r : Option (Int32 × HD)) => r.map (fun r => (.inr (some (.int r.1)), r.2))) (x := jX9_sort h) hl0 (by decide +kernel) rfl ?_
  intro p e R s m below meth c A hC
  unfold jX9_sort
  refine aw_aload_n hC dX9_sort_0 rfl ?_
  refine aw_iconst hC dX9_sort_1 (v := 0) (by decide) ?_
  refine aw_pfI hC dX9_sort_2 fg_RX9_112 fp_7_0 rfl rm_7_0_0 (fun h1 => ?_)
  refine aw_aload_n hC dX9_sort_5 rfl ?_
  refine aw_bind rfl (fun q2 hq2 => ?_)
  refine aw_cVv hC dX9_sort_6 cv_RX9_271 rfl rm_7_0_0 (am_some (inj := (fun r => (.inr (none), r))) hq2 (A_X9_laysAside _ (hC.2.2.2.2.2.2.2.2.2.2.2.2.1) _ _ _ h1)) rfl rfl rfl rfl rfl ⟨rfl, rfl⟩ ?_
  refine aw_aload_n hC dX9_sort_9 rfl ?_
  refine aw_aload_n hC dX9_sort_10 rfl ?_
  refine aw_bind rfl (fun q3 hq3 => ?_)
  refine aw_cVi hC dX9_sort_11 cv_RX9_478 rfl rm_7_0_0 (am_some (inj := (fun r => (.inr (some (.int r.1)), r.2))) hq3 (A_X9_sorts _ (hC.2.2.2.2.2.2.2.2.2.2.2.2.1) _ _ _ q2)) rfl rfl rfl rfl rfl ⟨rfl, rfl⟩ ?_
  refine aw_bind rfl (fun q4 hq4 => ?_)
  refine aw_cVi hC dX9_sort_14 cv_RX9_427 rfl rm_7_0_0 (am_some (inj := (fun r => (.inr (some (.int r.1)), r.2))) hq4 (A_X9_kept _ (hC.2.2.2.2.2.2.2.2.2.2.2.2.1) _ _ _ q3.1 q3.2)) rfl rfl rfl rfl rfl ⟨rfl, rfl⟩ ?_
  exact aw_iret hC dX9_sort_17 rfl rfl
set_option maxHeartbeats 4000000 in
set_option maxRecDepth 100000 in
theorem L_X9_reverses_2 (k37 : HD → Option (Int32 × HD)) (hC : Cx p l e R s m args meth c D loc cy A cX9_reverses 2 (some .int) RX9 6 147 0 0) (hk37 : ∀  (h2 : HD), AW p l e R s m args below meth c D loc cy A 2 (QM below D loc cy A args s) (fun (r : Option (Int32 × HD)) => r.map (fun r => (.inr (some (.int r.1)), r.2))) (0, 0) 37 [(0, .ref (loc (7, 0, 0)))] [] h2 (k37  h2)) : ∀ (n2 : Nat) (x1 : Int32) (h : HD), AW p l e R s m args below meth c D loc cy A 2 (QM below D loc cy A args s) (fun (r : Option (Int32 × HD)) => r.map (fun r => (.inr (some (.int r.1)), r.2))) (0, 0) 2 [(0, .ref (loc (7, 0, 0))), (1, .int x1)] [] h (jX9_reverses_L2 k37 n2 x1 h) := by
  intro n2
  induction n2 with
  | zero => intro x1 h; exact aw_none rfl
  | succ n2 ih2 =>
    intro x1 h
    rw [jX9_reverses_L2]
    refine aw_iload_n hC dX9_reverses_2 rfl ?_
    refine aw_aload_n hC dX9_reverses_3 rfl ?_
    refine aw_gfR hC dX9_reverses_4 fg_RX9_20 rfl rfl rm_7_0_0 ?_
    refine aw_iconst hC dX9_reverses_7 (v := 0) (by decide) ?_
    refine aw_iald hC dX9_reverses_8 rm_7_0_2 rfl rfl (by decide) (k := 0) (by decide) ?_
    refine aw_iconst hC dX9_reverses_9 (v := 1) (by decide) ?_
    refine aw_isub hC dX9_reverses_10 ?_
    refine aw_iload_n hC dX9_reverses_11 rfl ?_
    refine aw_isub hC dX9_reverses_12 ?_
    refine aw_icmp_ge hC dX9_reverses_13 (tgt := 37) (by decide) ?_ ?_
    · refine aw_sub [0] ?_
      exact hk37 h
    · refine aw_aload_n hC dX9_reverses_16 rfl ?_
      refine aw_iload_n hC dX9_reverses_17 rfl ?_
      refine aw_aload_n hC dX9_reverses_18 rfl ?_
      refine aw_gfR hC dX9_reverses_19 fg_RX9_20 rfl rfl rm_7_0_0 ?_
      refine aw_iconst hC dX9_reverses_22 (v := 0) (by decide) ?_
      refine aw_iald hC dX9_reverses_23 rm_7_0_2 rfl rfl (by decide) (k := 0) (by decide) ?_
      refine aw_iconst hC dX9_reverses_24 (v := 1) (by decide) ?_
      refine aw_isub hC dX9_reverses_25 ?_
      refine aw_iload_n hC dX9_reverses_26 rfl ?_
      refine aw_isub hC dX9_reverses_27 ?_
      refine aw_bind rfl (fun q1 hq1 => ?_)
      refine aw_cVv hC dX9_reverses_28 cv_RX9_409 rfl rm_7_0_0 (am_some (inj := (fun r => (.inr (none), r))) hq1 (A_X9_changesPlaces _ (hC.2.2.2.2.2.2.2.2.2.2.2.2.1) _ _ _ x1 (((gI h (7, 0, 2) 0) - (1 : Int32)) - x1) h)) rfl rfl rfl rfl rfl ⟨rfl, rfl⟩ ?_
      refine aw_iinc hC dX9_reverses_31 rfl (v := x1 + 1) (by first | rfl | decide) (by decide) ?_
      refine aw_goto hC dX9_reverses_34 (tgt := 2) (by decide) ?_
      refine aw_sub [0, 1] ?_
      exact ih2 (x1 + 1) q1
set_option maxHeartbeats 4000000 in
set_option maxRecDepth 100000 in
theorem A_X9_reverses (l : Launch) (hl0 : l.stackTraces = false) (D : va_G) (loc : Rf → Nat) (cy : Nat → ClassId)  (h : HD) : AM l D loc cy yX9_reverses cX9_reverses 2 (some .int) 6 147 [.ref (loc (7, 0, 0))] h ((jX9_reverses h).map (fun r => (.inr (some (.int r.1)), r.2))) := by
  refine am_start (y := yX9_reverses) (av := [.ref (loc (7, 0, 0))]) (nL := 2) (h := h) (RF := fun (r : Option (Int32 × HD)) => r.map (fun r => (.inr (some (.int r.1)), r.2))) (x := jX9_reverses h) hl0 (by decide +kernel) rfl ?_
  intro p e R s m below meth c A hC
  unfold jX9_reverses
  refine aw_iconst hC dX9_reverses_0 (v := 0) (by decide) ?_
  refine aw_istore_n hC dX9_reverses_1 (by decide) ?_
  refine aw_sub [0, 1] ?_
  refine L_X9_reverses_2  _ hC ?_ FU (0 : Int32) h
  · intro h2
    refine aw_aload_n hC dX9_reverses_37 rfl ?_
    refine aw_aload_n hC dX9_reverses_38 rfl ?_
    refine aw_iconst hC dX9_reverses_39 (v := 4) (by decide) ?_
    refine aw_bind rfl (fun q3 hq3 => ?_)
    refine aw_cVi hC dX9_reverses_40 cv_RX9_317 rfl rm_7_0_0 (am_some (inj := (fun r => (.inr (some (.int r.1)), r.2))) hq3 (A_X9_settingOf _ (hC.2.2.2.2.2.2.2.2.2.2.2.2.1) _ _ _ (4 : Int32) h2)) rfl rfl rfl rfl rfl ⟨rfl, rfl⟩ ?_
    refine aw_bind rfl (fun q4 hq4 => ?_)
    refine aw_cVi hC dX9_reverses_43 cv_RX9_421 rfl rm_7_0_0 (am_some (inj := (fun r => (.inr (some (.int r.1)), r.2))) hq4 (A_X9_acted _ (hC.2.2.2.2.2.2.2.2.2.2.2.2.1) _ _ _ q3.1 q3.2)) rfl rfl rfl rfl rfl ⟨rfl, rfl⟩ ?_
    exact aw_iret hC dX9_reverses_46 rfl rfl
set_option maxHeartbeats 4000000 in
set_option maxRecDepth 100000 in
theorem A_X9_reverse (l : Launch) (hl0 : l.stackTraces = false) (D : va_G) (loc : Rf → Nat) (cy : Nat → ClassId)  (h : HD) : AM l D loc cy yX9_reverse cX9_reverse 1 (some .int) 7 168 [.ref (loc (7, 0, 0))] h ((jX9_reverse h).map (fun r => (.inr (some (.int r.1)), r.2))) := by
  refine am_start (y := yX9_reverse) (av := [.ref (loc (7, 0, 0))]) (nL := 1) (h := h) (RF := fun (r : Option (Int32 × HD)) => r.map (fun r => (.inr (some (.int r.1)), r.2))) (x := jX9_reverse h) hl0 (by decide +kernel) rfl ?_
  intro p e R s m below meth c A hC
  unfold jX9_reverse
  refine aw_aload_n hC dX9_reverse_0 rfl ?_
  refine aw_iconst hC dX9_reverse_1 (v := 0) (by decide) ?_
  refine aw_pfI hC dX9_reverse_2 fg_RX9_112 fp_7_0 rfl rm_7_0_0 (fun h1 => ?_)
  refine aw_aload_n hC dX9_reverse_5 rfl ?_
  refine aw_bind rfl (fun q2 hq2 => ?_)
  refine aw_cVv hC dX9_reverse_6 cv_RX9_271 rfl rm_7_0_0 (am_some (inj := (fun r => (.inr (none), r))) hq2 (A_X9_laysAside _ (hC.2.2.2.2.2.2.2.2.2.2.2.2.1) _ _ _ h1)) rfl rfl rfl rfl rfl ⟨rfl, rfl⟩ ?_
  refine aw_aload_n hC dX9_reverse_9 rfl ?_
  refine aw_aload_n hC dX9_reverse_10 rfl ?_
  refine aw_bind rfl (fun q3 hq3 => ?_)
  refine aw_cVi hC dX9_reverse_11 cv_RX9_481 rfl rm_7_0_0 (am_some (inj := (fun r => (.inr (some (.int r.1)), r.2))) hq3 (A_X9_reverses _ (hC.2.2.2.2.2.2.2.2.2.2.2.2.1) _ _ _ q2)) rfl rfl rfl rfl rfl ⟨rfl, rfl⟩ ?_
  refine aw_bind rfl (fun q4 hq4 => ?_)
  refine aw_cVi hC dX9_reverse_14 cv_RX9_427 rfl rm_7_0_0 (am_some (inj := (fun r => (.inr (some (.int r.1)), r.2))) hq4 (A_X9_kept _ (hC.2.2.2.2.2.2.2.2.2.2.2.2.1) _ _ _ q3.1 q3.2)) rfl rfl rfl rfl rfl ⟨rfl, rfl⟩ ?_
  exact aw_iret hC dX9_reverse_17 rfl rfl
set_option maxHeartbeats 4000000 in
set_option maxRecDepth 100000 in
theorem A_X9_commandHere (l : Launch) (hl0 : l.stackTraces = false) (D : va_G) (loc : Rf → Nat) (cy : Nat → ClassId)  (h : HD) : AM l D loc cy yX9_commandHere cX9_commandHere 1 (some .int) 1 38 [.ref (loc (7, 0, 0))] h (some (.inr (some (.int (jX9_commandHere h))), h)) := by
  refine am_start (y := yX9_commandHere) (av := [.ref (loc (7, 0, 0))]) (nL := 1) (h := h) (RF := fun (r : Int32) => some (.inr (some (.int r)), h)) (x := jX9_commandHere h) hl0 (by decide +kernel) rfl ?_
  intro p e R s m below meth c A hC
  unfold jX9_commandHere
  refine aw_aload_n hC dX9_commandHere_0 rfl ?_
  refine aw_ldc2 hC dX9_commandHere_1 (v := 555915442) tw9_225 ?_
  refine aw_cVb hC dX9_commandHere_4 cv_RX9_180 rfl rm_7_0_0 (A_X9_isWord _ (hC.2.2.2.2.2.2.2.2.2.2.2.2.1) _ _ _ (555915442 : Int64) h) rfl rfl rfl rfl rfl ⟨rfl, rfl⟩ ?_
  refine aw_if_eq_b hC dX9_commandHere_7 (tgt := 12) (by decide) ?_ ?_
  · refine aw_aload_n hC dX9_commandHere_12 rfl ?_
    refine aw_ldc2 hC dX9_commandHere_13 (v := 114085) tw9_226 ?_
    refine aw_cVb hC dX9_commandHere_16 cv_RX9_180 rfl rm_7_0_0 (A_X9_isWord _ (hC.2.2.2.2.2.2.2.2.2.2.2.2.1) _ _ _ (114085 : Int64) h) rfl rfl rfl rfl rfl ⟨rfl, rfl⟩ ?_
    refine aw_if_eq_b hC dX9_commandHere_19 (tgt := 24) (by decide) ?_ ?_
    · refine aw_aload_n hC dX9_commandHere_24 rfl ?_
      refine aw_ldc2 hC dX9_commandHere_25 (v := 646192) tw9_227 ?_
      refine aw_cVb hC dX9_commandHere_28 cv_RX9_180 rfl rm_7_0_0 (A_X9_isWord _ (hC.2.2.2.2.2.2.2.2.2.2.2.2.1) _ _ _ (646192 : Int64) h) rfl rfl rfl rfl rfl ⟨rfl, rfl⟩ ?_
      refine aw_if_eq_b hC dX9_commandHere_31 (tgt := 36) (by decide) ?_ ?_
      · refine aw_aload_n hC dX9_commandHere_36 rfl ?_
        refine aw_ldc2 hC dX9_commandHere_37 (v := 239) tw9_228 ?_
        refine aw_cVb hC dX9_commandHere_40 cv_RX9_180 rfl rm_7_0_0 (A_X9_isWord _ (hC.2.2.2.2.2.2.2.2.2.2.2.2.1) _ _ _ (239 : Int64) h) rfl rfl rfl rfl rfl ⟨rfl, rfl⟩ ?_
        refine aw_if_eq_b hC dX9_commandHere_43 (tgt := 48) (by decide) ?_ ?_
        · refine aw_aload_n hC dX9_commandHere_48 rfl ?_
          refine aw_ldc2 hC dX9_commandHere_49 (v := 677454) tw9_229 ?_
          refine aw_cVb hC dX9_commandHere_52 cv_RX9_180 rfl rm_7_0_0 (A_X9_isWord _ (hC.2.2.2.2.2.2.2.2.2.2.2.2.1) _ _ _ (677454 : Int64) h) rfl rfl rfl rfl rfl ⟨rfl, rfl⟩ ?_
          refine aw_if_eq_b hC dX9_commandHere_55 (tgt := 60) (by decide) ?_ ?_
          · refine aw_aload_n hC dX9_commandHere_60 rfl ?_
            refine aw_ldc2 hC dX9_commandHere_61 (v := 66667) tw7_230 ?_
            refine aw_cVb hC dX9_commandHere_64 cv_RX9_180 rfl rm_7_0_0 (A_X9_isWord _ (hC.2.2.2.2.2.2.2.2.2.2.2.2.1) _ _ _ (66667 : Int64) h) rfl rfl rfl rfl rfl ⟨rfl, rfl⟩ ?_
            refine aw_if_eq_b hC dX9_commandHere_67 (tgt := 72) (by decide) ?_ ?_
            · refine aw_aload_n hC dX9_commandHere_72 rfl ?_
              refine aw_ldc2 hC dX9_commandHere_73 (v := 638548) tw9_230 ?_
              refine aw_cVb hC dX9_commandHere_76 cv_RX9_180 rfl rm_7_0_0 (A_X9_isWord _ (hC.2.2.2.2.2.2.2.2.2.2.2.2.1) _ _ _ (638548 : Int64) h) rfl rfl rfl rfl rfl ⟨rfl, rfl⟩ ?_
              refine aw_if_eq_b hC dX9_commandHere_79 (tgt := 85) (by decide) ?_ ?_
              · refine aw_aload_n hC dX9_commandHere_85 rfl ?_
                refine aw_ldc2 hC dX9_commandHere_86 (v := 19518376549) tw9_231 ?_
                refine aw_cVb hC dX9_commandHere_89 cv_RX9_180 rfl rm_7_0_0 (A_X9_isWord _ (hC.2.2.2.2.2.2.2.2.2.2.2.2.1) _ _ _ (19518376549 : Int64) h) rfl rfl rfl rfl rfl ⟨rfl, rfl⟩ ?_
                refine aw_if_eq_b hC dX9_commandHere_92 (tgt := 98) (by decide) ?_ ?_
                · refine aw_aload_n hC dX9_commandHere_98 rfl ?_
                  refine aw_ldc2 hC dX9_commandHere_99 (v := 609752116) tw9_232 ?_
                  refine aw_cVb hC dX9_commandHere_102 cv_RX9_180 rfl rm_7_0_0 (A_X9_isWord _ (hC.2.2.2.2.2.2.2.2.2.2.2.2.1) _ _ _ (609752116 : Int64) h) rfl rfl rfl rfl rfl ⟨rfl, rfl⟩ ?_
                  refine aw_if_eq_b hC dX9_commandHere_105 (tgt := 113) (by decide) ?_ ?_
                  · refine aw_iconst hC dX9_commandHere_113 (v := -1) (by decide) ?_
                    exact aw_iret hC dX9_commandHere_114 rfl rfl
                  · refine aw_bipush hC dX9_commandHere_108 (v := 8) (by decide) ?_
                    refine aw_goto hC dX9_commandHere_110 (tgt := 114) (by decide) ?_
                    exact aw_iret hC dX9_commandHere_114 rfl rfl
                · refine aw_bipush hC dX9_commandHere_95 (v := 7) (by decide) ?_
                  exact aw_iret hC dX9_commandHere_97 rfl rfl
              · refine aw_bipush hC dX9_commandHere_82 (v := 6) (by decide) ?_
                exact aw_iret hC dX9_commandHere_84 rfl rfl
            · refine aw_iconst hC dX9_commandHere_70 (v := 5) (by decide) ?_
              exact aw_iret hC dX9_commandHere_71 rfl rfl
          · refine aw_iconst hC dX9_commandHere_58 (v := 4) (by decide) ?_
            exact aw_iret hC dX9_commandHere_59 rfl rfl
        · refine aw_iconst hC dX9_commandHere_46 (v := 3) (by decide) ?_
          exact aw_iret hC dX9_commandHere_47 rfl rfl
      · refine aw_iconst hC dX9_commandHere_34 (v := 2) (by decide) ?_
        exact aw_iret hC dX9_commandHere_35 rfl rfl
    · refine aw_iconst hC dX9_commandHere_22 (v := 1) (by decide) ?_
      exact aw_iret hC dX9_commandHere_23 rfl rfl
  · refine aw_iconst hC dX9_commandHere_10 (v := 0) (by decide) ?_
    exact aw_iret hC dX9_commandHere_11 rfl rfl
set_option maxHeartbeats 4000000 in
set_option maxRecDepth 100000 in
theorem A_X9_readsRest (l : Launch) (hl0 : l.stackTraces = false) (D : va_G) (loc : Rf → Nat) (cy : Nat → ClassId) (p1 : Int32) (p2 : Int32) (h : HD) : AM l D loc cy yX9_readsRest cX9_readsRest 3 (none) 3 86 [.ref (loc (7, 0, 0)), .int p1, .int p2] h ((jX9_readsRest p1 p2 h).map (fun r => (.inr (none), r))) := by
  refine am_start (y := yX9_readsRest) (av := [.ref (loc (7, 0, 0)), .int p1, .int p2]) (nL := 3) (h := h) (RF := fun (r : Option HD) => r.map (fun r => (.inr (none), r))) (x := jX9_readsRest p1 p2 h) hl0 (by decide +kernel) rfl ?_
  intro p e R s m below meth c A hC
  unfold jX9_readsRest
  refine aw_iload_n hC dX9_readsRest_0 rfl ?_
  refine aw_i2l hC dX9_readsRest_1 ?_
  refine aw_lconst hC dX9_readsRest_2 (v := 0) (by decide) ?_
  refine aw_ldc2 hC dX9_readsRest_3 (v := 3) tw9_237 ?_
  refine aw_cSb hC dX9_readsRest_6 cv_RX9_130 (A_X9_isIn _ (hC.2.2.2.2.2.2.2.2.2.2.2.2.1) _ _ _ p2.toInt64 (0 : Int64) (3 : Int64) h) rfl rfl rfl rfl rfl ⟨rfl, rfl⟩ ?_
  refine aw_if_eq_b hC dX9_readsRest_9 (tgt := 22) (by decide) ?_ ?_
  · refine aw_iload_n hC dX9_readsRest_22 rfl ?_
    refine aw_if_eq hC dX9_readsRest_23 (tgt := 41) (by decide) ?_ ?_
    · refine aw_aload_n hC dX9_readsRest_41 rfl ?_
      refine aw_gfR hC dX9_readsRest_42 fg_RX9_94 rfl rfl rm_7_0_0 ?_
      refine aw_iload_n hC dX9_readsRest_45 rfl ?_
      refine aw_aload_n hC dX9_readsRest_46 rfl ?_
      refine aw_iconst hC dX9_readsRest_47 (v := 0) (by decide) ?_
      refine aw_sipush hC dX9_readsRest_48 (v := 999) (by decide) ?_
      refine aw_bind rfl (fun q1 hq1 => ?_)
      refine aw_cVi hC dX9_readsRest_51 cv_RX9_268 rfl rm_7_0_0 (am_some (inj := (fun r => (.inr (some (.int r.1)), r.2))) hq1 (A_X9_number _ (hC.2.2.2.2.2.2.2.2.2.2.2.2.1) _ _ _ (0 : Int32) (999 : Int32) h)) rfl rfl rfl rfl rfl ⟨rfl, rfl⟩ ?_
      refine aw_guard rfl (fun g3 => ?_)
      refine aw_iast hC dX9_readsRest_54 rm_7_0_26 rfl rfl g3 rfl (fun h2 => ?_)
      refine aw_iload_n hC dX9_readsRest_55 rfl ?_
      refine aw_bipush hC dX9_readsRest_56 (v := 8) (by decide) ?_
      refine aw_icmp_eq hC dX9_readsRest_58 (tgt := 62) (by decide) ?_ ?_
      · refine aw_aload_n hC dX9_readsRest_62 rfl ?_
        refine aw_gfR hC dX9_readsRest_63 fg_RX9_94 rfl rfl rm_7_0_0 ?_
        refine aw_iload_n hC dX9_readsRest_66 rfl ?_
        refine aw_aload_n hC dX9_readsRest_67 rfl ?_
        refine aw_iconst hC dX9_readsRest_68 (v := 1) (by decide) ?_
        refine aw_bipush hC dX9_readsRest_69 (v := 20) (by decide) ?_
        refine aw_bind rfl (fun q4 hq4 => ?_)
        refine aw_cVi hC dX9_readsRest_71 cv_RX9_268 rfl rm_7_0_0 (am_some (inj := (fun r => (.inr (some (.int r.1)), r.2))) hq4 (A_X9_number _ (hC.2.2.2.2.2.2.2.2.2.2.2.2.1) _ _ _ (1 : Int32) (20 : Int32) h2)) rfl rfl rfl rfl rfl ⟨rfl, rfl⟩ ?_
        refine aw_guard rfl (fun g6 => ?_)
        refine aw_iast hC dX9_readsRest_74 rm_7_0_26 rfl rfl g6 rfl (fun h5 => ?_)
        refine aw_aload_n hC dX9_readsRest_75 rfl ?_
        refine aw_bipush hC dX9_readsRest_76 (v := 40) (by decide) ?_
        refine aw_bind rfl (fun q7 hq7 => ?_)
        refine aw_cVv hC dX9_readsRest_78 cv_RX9_283 rfl rm_7_0_0 (am_some (inj := (fun r => (.inr (none), r))) hq7 (A_X9_mustSign _ (hC.2.2.2.2.2.2.2.2.2.2.2.2.1) _ _ _ (40 : Int32) h5)) rfl rfl rfl rfl rfl ⟨rfl, rfl⟩ ?_
        exact aw_vret hC dX9_readsRest_81 rfl rfl
      · exact aw_vret hC dX9_readsRest_61 rfl rfl
    · refine aw_iload_n hC dX9_readsRest_26 rfl ?_
      refine aw_iconst hC dX9_readsRest_27 (v := 1) (by decide) ?_
      refine aw_icmp_eq hC dX9_readsRest_28 (tgt := 41) (by decide) ?_ ?_
      · refine aw_aload_n hC dX9_readsRest_41 rfl ?_
        refine aw_gfR hC dX9_readsRest_42 fg_RX9_94 rfl rfl rm_7_0_0 ?_
        refine aw_iload_n hC dX9_readsRest_45 rfl ?_
        refine aw_aload_n hC dX9_readsRest_46 rfl ?_
        refine aw_iconst hC dX9_readsRest_47 (v := 0) (by decide) ?_
        refine aw_sipush hC dX9_readsRest_48 (v := 999) (by decide) ?_
        refine aw_bind rfl (fun q8 hq8 => ?_)
        refine aw_cVi hC dX9_readsRest_51 cv_RX9_268 rfl rm_7_0_0 (am_some (inj := (fun r => (.inr (some (.int r.1)), r.2))) hq8 (A_X9_number _ (hC.2.2.2.2.2.2.2.2.2.2.2.2.1) _ _ _ (0 : Int32) (999 : Int32) h)) rfl rfl rfl rfl rfl ⟨rfl, rfl⟩ ?_
        refine aw_guard rfl (fun g10 => ?_)
        refine aw_iast hC dX9_readsRest_54 rm_7_0_26 rfl rfl g10 rfl (fun h9 => ?_)
        refine aw_iload_n hC dX9_readsRest_55 rfl ?_
        refine aw_bipush hC dX9_readsRest_56 (v := 8) (by decide) ?_
        refine aw_icmp_eq hC dX9_readsRest_58 (tgt := 62) (by decide) ?_ ?_
        · refine aw_aload_n hC dX9_readsRest_62 rfl ?_
          refine aw_gfR hC dX9_readsRest_63 fg_RX9_94 rfl rfl rm_7_0_0 ?_
          refine aw_iload_n hC dX9_readsRest_66 rfl ?_
          refine aw_aload_n hC dX9_readsRest_67 rfl ?_
          refine aw_iconst hC dX9_readsRest_68 (v := 1) (by decide) ?_
          refine aw_bipush hC dX9_readsRest_69 (v := 20) (by decide) ?_
          refine aw_bind rfl (fun q11 hq11 => ?_)
          refine aw_cVi hC dX9_readsRest_71 cv_RX9_268 rfl rm_7_0_0 (am_some (inj := (fun r => (.inr (some (.int r.1)), r.2))) hq11 (A_X9_number _ (hC.2.2.2.2.2.2.2.2.2.2.2.2.1) _ _ _ (1 : Int32) (20 : Int32) h9)) rfl rfl rfl rfl rfl ⟨rfl, rfl⟩ ?_
          refine aw_guard rfl (fun g13 => ?_)
          refine aw_iast hC dX9_readsRest_74 rm_7_0_26 rfl rfl g13 rfl (fun h12 => ?_)
          refine aw_aload_n hC dX9_readsRest_75 rfl ?_
          refine aw_bipush hC dX9_readsRest_76 (v := 40) (by decide) ?_
          refine aw_bind rfl (fun q14 hq14 => ?_)
          refine aw_cVv hC dX9_readsRest_78 cv_RX9_283 rfl rm_7_0_0 (am_some (inj := (fun r => (.inr (none), r))) hq14 (A_X9_mustSign _ (hC.2.2.2.2.2.2.2.2.2.2.2.2.1) _ _ _ (40 : Int32) h12)) rfl rfl rfl rfl rfl ⟨rfl, rfl⟩ ?_
          exact aw_vret hC dX9_readsRest_81 rfl rfl
        · exact aw_vret hC dX9_readsRest_61 rfl rfl
      · refine aw_iload_n hC dX9_readsRest_31 rfl ?_
        refine aw_iconst hC dX9_readsRest_32 (v := 4) (by decide) ?_
        refine aw_icmp_eq hC dX9_readsRest_33 (tgt := 41) (by decide) ?_ ?_
        · refine aw_aload_n hC dX9_readsRest_41 rfl ?_
          refine aw_gfR hC dX9_readsRest_42 fg_RX9_94 rfl rfl rm_7_0_0 ?_
          refine aw_iload_n hC dX9_readsRest_45 rfl ?_
          refine aw_aload_n hC dX9_readsRest_46 rfl ?_
          refine aw_iconst hC dX9_readsRest_47 (v := 0) (by decide) ?_
          refine aw_sipush hC dX9_readsRest_48 (v := 999) (by decide) ?_
          refine aw_bind rfl (fun q15 hq15 => ?_)
          refine aw_cVi hC dX9_readsRest_51 cv_RX9_268 rfl rm_7_0_0 (am_some (inj := (fun r => (.inr (some (.int r.1)), r.2))) hq15 (A_X9_number _ (hC.2.2.2.2.2.2.2.2.2.2.2.2.1) _ _ _ (0 : Int32) (999 : Int32) h)) rfl rfl rfl rfl rfl ⟨rfl, rfl⟩ ?_
          refine aw_guard rfl (fun g17 => ?_)
          refine aw_iast hC dX9_readsRest_54 rm_7_0_26 rfl rfl g17 rfl (fun h16 => ?_)
          refine aw_iload_n hC dX9_readsRest_55 rfl ?_
          refine aw_bipush hC dX9_readsRest_56 (v := 8) (by decide) ?_
          refine aw_icmp_eq hC dX9_readsRest_58 (tgt := 62) (by decide) ?_ ?_
          · refine aw_aload_n hC dX9_readsRest_62 rfl ?_
            refine aw_gfR hC dX9_readsRest_63 fg_RX9_94 rfl rfl rm_7_0_0 ?_
            refine aw_iload_n hC dX9_readsRest_66 rfl ?_
            refine aw_aload_n hC dX9_readsRest_67 rfl ?_
            refine aw_iconst hC dX9_readsRest_68 (v := 1) (by decide) ?_
            refine aw_bipush hC dX9_readsRest_69 (v := 20) (by decide) ?_
            refine aw_bind rfl (fun q18 hq18 => ?_)
            refine aw_cVi hC dX9_readsRest_71 cv_RX9_268 rfl rm_7_0_0 (am_some (inj := (fun r => (.inr (some (.int r.1)), r.2))) hq18 (A_X9_number _ (hC.2.2.2.2.2.2.2.2.2.2.2.2.1) _ _ _ (1 : Int32) (20 : Int32) h16)) rfl rfl rfl rfl rfl ⟨rfl, rfl⟩ ?_
            refine aw_guard rfl (fun g20 => ?_)
            refine aw_iast hC dX9_readsRest_74 rm_7_0_26 rfl rfl g20 rfl (fun h19 => ?_)
            refine aw_aload_n hC dX9_readsRest_75 rfl ?_
            refine aw_bipush hC dX9_readsRest_76 (v := 40) (by decide) ?_
            refine aw_bind rfl (fun q21 hq21 => ?_)
            refine aw_cVv hC dX9_readsRest_78 cv_RX9_283 rfl rm_7_0_0 (am_some (inj := (fun r => (.inr (none), r))) hq21 (A_X9_mustSign _ (hC.2.2.2.2.2.2.2.2.2.2.2.2.1) _ _ _ (40 : Int32) h19)) rfl rfl rfl rfl rfl ⟨rfl, rfl⟩ ?_
            exact aw_vret hC dX9_readsRest_81 rfl rfl
          · exact aw_vret hC dX9_readsRest_61 rfl rfl
        · refine aw_iload_n hC dX9_readsRest_36 rfl ?_
          refine aw_iconst hC dX9_readsRest_37 (v := 5) (by decide) ?_
          refine aw_icmp_ne hC dX9_readsRest_38 (tgt := 55) (by decide) ?_ ?_
          · refine aw_iload_n hC dX9_readsRest_55 rfl ?_
            refine aw_bipush hC dX9_readsRest_56 (v := 8) (by decide) ?_
            refine aw_icmp_eq hC dX9_readsRest_58 (tgt := 62) (by decide) ?_ ?_
            · refine aw_aload_n hC dX9_readsRest_62 rfl ?_
              refine aw_gfR hC dX9_readsRest_63 fg_RX9_94 rfl rfl rm_7_0_0 ?_
              refine aw_iload_n hC dX9_readsRest_66 rfl ?_
              refine aw_aload_n hC dX9_readsRest_67 rfl ?_
              refine aw_iconst hC dX9_readsRest_68 (v := 1) (by decide) ?_
              refine aw_bipush hC dX9_readsRest_69 (v := 20) (by decide) ?_
              refine aw_bind rfl (fun q22 hq22 => ?_)
              refine aw_cVi hC dX9_readsRest_71 cv_RX9_268 rfl rm_7_0_0 (am_some (inj := (fun r => (.inr (some (.int r.1)), r.2))) hq22 (A_X9_number _ (hC.2.2.2.2.2.2.2.2.2.2.2.2.1) _ _ _ (1 : Int32) (20 : Int32) h)) rfl rfl rfl rfl rfl ⟨rfl, rfl⟩ ?_
              refine aw_guard rfl (fun g24 => ?_)
              refine aw_iast hC dX9_readsRest_74 rm_7_0_26 rfl rfl g24 rfl (fun h23 => ?_)
              refine aw_aload_n hC dX9_readsRest_75 rfl ?_
              refine aw_bipush hC dX9_readsRest_76 (v := 40) (by decide) ?_
              refine aw_bind rfl (fun q25 hq25 => ?_)
              refine aw_cVv hC dX9_readsRest_78 cv_RX9_283 rfl rm_7_0_0 (am_some (inj := (fun r => (.inr (none), r))) hq25 (A_X9_mustSign _ (hC.2.2.2.2.2.2.2.2.2.2.2.2.1) _ _ _ (40 : Int32) h23)) rfl rfl rfl rfl rfl ⟨rfl, rfl⟩ ?_
              exact aw_vret hC dX9_readsRest_81 rfl rfl
            · exact aw_vret hC dX9_readsRest_61 rfl rfl
          · refine aw_aload_n hC dX9_readsRest_41 rfl ?_
            refine aw_gfR hC dX9_readsRest_42 fg_RX9_94 rfl rfl rm_7_0_0 ?_
            refine aw_iload_n hC dX9_readsRest_45 rfl ?_
            refine aw_aload_n hC dX9_readsRest_46 rfl ?_
            refine aw_iconst hC dX9_readsRest_47 (v := 0) (by decide) ?_
            refine aw_sipush hC dX9_readsRest_48 (v := 999) (by decide) ?_
            refine aw_bind rfl (fun q26 hq26 => ?_)
            refine aw_cVi hC dX9_readsRest_51 cv_RX9_268 rfl rm_7_0_0 (am_some (inj := (fun r => (.inr (some (.int r.1)), r.2))) hq26 (A_X9_number _ (hC.2.2.2.2.2.2.2.2.2.2.2.2.1) _ _ _ (0 : Int32) (999 : Int32) h)) rfl rfl rfl rfl rfl ⟨rfl, rfl⟩ ?_
            refine aw_guard rfl (fun g28 => ?_)
            refine aw_iast hC dX9_readsRest_54 rm_7_0_26 rfl rfl g28 rfl (fun h27 => ?_)
            refine aw_iload_n hC dX9_readsRest_55 rfl ?_
            refine aw_bipush hC dX9_readsRest_56 (v := 8) (by decide) ?_
            refine aw_icmp_eq hC dX9_readsRest_58 (tgt := 62) (by decide) ?_ ?_
            · refine aw_aload_n hC dX9_readsRest_62 rfl ?_
              refine aw_gfR hC dX9_readsRest_63 fg_RX9_94 rfl rfl rm_7_0_0 ?_
              refine aw_iload_n hC dX9_readsRest_66 rfl ?_
              refine aw_aload_n hC dX9_readsRest_67 rfl ?_
              refine aw_iconst hC dX9_readsRest_68 (v := 1) (by decide) ?_
              refine aw_bipush hC dX9_readsRest_69 (v := 20) (by decide) ?_
              refine aw_bind rfl (fun q29 hq29 => ?_)
              refine aw_cVi hC dX9_readsRest_71 cv_RX9_268 rfl rm_7_0_0 (am_some (inj := (fun r => (.inr (some (.int r.1)), r.2))) hq29 (A_X9_number _ (hC.2.2.2.2.2.2.2.2.2.2.2.2.1) _ _ _ (1 : Int32) (20 : Int32) h27)) rfl rfl rfl rfl rfl ⟨rfl, rfl⟩ ?_
              refine aw_guard rfl (fun g31 => ?_)
              refine aw_iast hC dX9_readsRest_74 rm_7_0_26 rfl rfl g31 rfl (fun h30 => ?_)
              refine aw_aload_n hC dX9_readsRest_75 rfl ?_
              refine aw_bipush hC dX9_readsRest_76 (v := 40) (by decide) ?_
              refine aw_bind rfl (fun q32 hq32 => ?_)
              refine aw_cVv hC dX9_readsRest_78 cv_RX9_283 rfl rm_7_0_0 (am_some (inj := (fun r => (.inr (none), r))) hq32 (A_X9_mustSign _ (hC.2.2.2.2.2.2.2.2.2.2.2.2.1) _ _ _ (40 : Int32) h30)) rfl rfl rfl rfl rfl ⟨rfl, rfl⟩ ?_
              exact aw_vret hC dX9_readsRest_81 rfl rfl
            · exact aw_vret hC dX9_readsRest_61 rfl rfl
  · refine aw_aload_n hC dX9_readsRest_12 rfl ?_
    refine aw_gfR hC dX9_readsRest_13 fg_RX9_103 rfl rfl rm_7_0_0 ?_
    refine aw_iload_n hC dX9_readsRest_16 rfl ?_
    refine aw_aload_n hC dX9_readsRest_17 rfl ?_
    refine aw_bind rfl (fun q33 hq33 => ?_)
    refine aw_cVj hC dX9_readsRest_18 cv_RX9_264 rfl rm_7_0_0 (am_some (inj := (fun r => (.inr (some (.long r.1)), r.2))) hq33 (A_X9_nameHere _ (hC.2.2.2.2.2.2.2.2.2.2.2.2.1) _ _ _ h)) rfl rfl rfl rfl rfl ⟨rfl, rfl⟩ ?_
    refine aw_guard rfl (fun g35 => ?_)
    refine aw_last hC dX9_readsRest_21 rm_7_0_29 rfl rfl g35 rfl (fun h34 => ?_)
    refine aw_iload_n hC dX9_readsRest_22 rfl ?_
    refine aw_if_eq hC dX9_readsRest_23 (tgt := 41) (by decide) ?_ ?_
    · refine aw_aload_n hC dX9_readsRest_41 rfl ?_
      refine aw_gfR hC dX9_readsRest_42 fg_RX9_94 rfl rfl rm_7_0_0 ?_
      refine aw_iload_n hC dX9_readsRest_45 rfl ?_
      refine aw_aload_n hC dX9_readsRest_46 rfl ?_
      refine aw_iconst hC dX9_readsRest_47 (v := 0) (by decide) ?_
      refine aw_sipush hC dX9_readsRest_48 (v := 999) (by decide) ?_
      refine aw_bind rfl (fun q36 hq36 => ?_)
      refine aw_cVi hC dX9_readsRest_51 cv_RX9_268 rfl rm_7_0_0 (am_some (inj := (fun r => (.inr (some (.int r.1)), r.2))) hq36 (A_X9_number _ (hC.2.2.2.2.2.2.2.2.2.2.2.2.1) _ _ _ (0 : Int32) (999 : Int32) h34)) rfl rfl rfl rfl rfl ⟨rfl, rfl⟩ ?_
      refine aw_guard rfl (fun g38 => ?_)
      refine aw_iast hC dX9_readsRest_54 rm_7_0_26 rfl rfl g38 rfl (fun h37 => ?_)
      refine aw_iload_n hC dX9_readsRest_55 rfl ?_
      refine aw_bipush hC dX9_readsRest_56 (v := 8) (by decide) ?_
      refine aw_icmp_eq hC dX9_readsRest_58 (tgt := 62) (by decide) ?_ ?_
      · refine aw_aload_n hC dX9_readsRest_62 rfl ?_
        refine aw_gfR hC dX9_readsRest_63 fg_RX9_94 rfl rfl rm_7_0_0 ?_
        refine aw_iload_n hC dX9_readsRest_66 rfl ?_
        refine aw_aload_n hC dX9_readsRest_67 rfl ?_
        refine aw_iconst hC dX9_readsRest_68 (v := 1) (by decide) ?_
        refine aw_bipush hC dX9_readsRest_69 (v := 20) (by decide) ?_
        refine aw_bind rfl (fun q39 hq39 => ?_)
        refine aw_cVi hC dX9_readsRest_71 cv_RX9_268 rfl rm_7_0_0 (am_some (inj := (fun r => (.inr (some (.int r.1)), r.2))) hq39 (A_X9_number _ (hC.2.2.2.2.2.2.2.2.2.2.2.2.1) _ _ _ (1 : Int32) (20 : Int32) h37)) rfl rfl rfl rfl rfl ⟨rfl, rfl⟩ ?_
        refine aw_guard rfl (fun g41 => ?_)
        refine aw_iast hC dX9_readsRest_74 rm_7_0_26 rfl rfl g41 rfl (fun h40 => ?_)
        refine aw_aload_n hC dX9_readsRest_75 rfl ?_
        refine aw_bipush hC dX9_readsRest_76 (v := 40) (by decide) ?_
        refine aw_bind rfl (fun q42 hq42 => ?_)
        refine aw_cVv hC dX9_readsRest_78 cv_RX9_283 rfl rm_7_0_0 (am_some (inj := (fun r => (.inr (none), r))) hq42 (A_X9_mustSign _ (hC.2.2.2.2.2.2.2.2.2.2.2.2.1) _ _ _ (40 : Int32) h40)) rfl rfl rfl rfl rfl ⟨rfl, rfl⟩ ?_
        exact aw_vret hC dX9_readsRest_81 rfl rfl
      · exact aw_vret hC dX9_readsRest_61 rfl rfl
    · refine aw_iload_n hC dX9_readsRest_26 rfl ?_
      refine aw_iconst hC dX9_readsRest_27 (v := 1) (by decide) ?_
      refine aw_icmp_eq hC dX9_readsRest_28 (tgt := 41) (by decide) ?_ ?_
      · refine aw_aload_n hC dX9_readsRest_41 rfl ?_
        refine aw_gfR hC dX9_readsRest_42 fg_RX9_94 rfl rfl rm_7_0_0 ?_
        refine aw_iload_n hC dX9_readsRest_45 rfl ?_
        refine aw_aload_n hC dX9_readsRest_46 rfl ?_
        refine aw_iconst hC dX9_readsRest_47 (v := 0) (by decide) ?_
        refine aw_sipush hC dX9_readsRest_48 (v := 999) (by decide) ?_
        refine aw_bind rfl (fun q43 hq43 => ?_)
        refine aw_cVi hC dX9_readsRest_51 cv_RX9_268 rfl rm_7_0_0 (am_some (inj := (fun r => (.inr (some (.int r.1)), r.2))) hq43 (A_X9_number _ (hC.2.2.2.2.2.2.2.2.2.2.2.2.1) _ _ _ (0 : Int32) (999 : Int32) h34)) rfl rfl rfl rfl rfl ⟨rfl, rfl⟩ ?_
        refine aw_guard rfl (fun g45 => ?_)
        refine aw_iast hC dX9_readsRest_54 rm_7_0_26 rfl rfl g45 rfl (fun h44 => ?_)
        refine aw_iload_n hC dX9_readsRest_55 rfl ?_
        refine aw_bipush hC dX9_readsRest_56 (v := 8) (by decide) ?_
        refine aw_icmp_eq hC dX9_readsRest_58 (tgt := 62) (by decide) ?_ ?_
        · refine aw_aload_n hC dX9_readsRest_62 rfl ?_
          refine aw_gfR hC dX9_readsRest_63 fg_RX9_94 rfl rfl rm_7_0_0 ?_
          refine aw_iload_n hC dX9_readsRest_66 rfl ?_
          refine aw_aload_n hC dX9_readsRest_67 rfl ?_
          refine aw_iconst hC dX9_readsRest_68 (v := 1) (by decide) ?_
          refine aw_bipush hC dX9_readsRest_69 (v := 20) (by decide) ?_
          refine aw_bind rfl (fun q46 hq46 => ?_)
          refine aw_cVi hC dX9_readsRest_71 cv_RX9_268 rfl rm_7_0_0 (am_some (inj := (fun r => (.inr (some (.int r.1)), r.2))) hq46 (A_X9_number _ (hC.2.2.2.2.2.2.2.2.2.2.2.2.1) _ _ _ (1 : Int32) (20 : Int32) h44)) rfl rfl rfl rfl rfl ⟨rfl, rfl⟩ ?_
          refine aw_guard rfl (fun g48 => ?_)
          refine aw_iast hC dX9_readsRest_74 rm_7_0_26 rfl rfl g48 rfl (fun h47 => ?_)
          refine aw_aload_n hC dX9_readsRest_75 rfl ?_
          refine aw_bipush hC dX9_readsRest_76 (v := 40) (by decide) ?_
          refine aw_bind rfl (fun q49 hq49 => ?_)
          refine aw_cVv hC dX9_readsRest_78 cv_RX9_283 rfl rm_7_0_0 (am_some (inj := (fun r => (.inr (none), r))) hq49 (A_X9_mustSign _ (hC.2.2.2.2.2.2.2.2.2.2.2.2.1) _ _ _ (40 : Int32) h47)) rfl rfl rfl rfl rfl ⟨rfl, rfl⟩ ?_
          exact aw_vret hC dX9_readsRest_81 rfl rfl
        · exact aw_vret hC dX9_readsRest_61 rfl rfl
      · refine aw_iload_n hC dX9_readsRest_31 rfl ?_
        refine aw_iconst hC dX9_readsRest_32 (v := 4) (by decide) ?_
        refine aw_icmp_eq hC dX9_readsRest_33 (tgt := 41) (by decide) ?_ ?_
        · refine aw_aload_n hC dX9_readsRest_41 rfl ?_
          refine aw_gfR hC dX9_readsRest_42 fg_RX9_94 rfl rfl rm_7_0_0 ?_
          refine aw_iload_n hC dX9_readsRest_45 rfl ?_
          refine aw_aload_n hC dX9_readsRest_46 rfl ?_
          refine aw_iconst hC dX9_readsRest_47 (v := 0) (by decide) ?_
          refine aw_sipush hC dX9_readsRest_48 (v := 999) (by decide) ?_
          refine aw_bind rfl (fun q50 hq50 => ?_)
          refine aw_cVi hC dX9_readsRest_51 cv_RX9_268 rfl rm_7_0_0 (am_some (inj := (fun r => (.inr (some (.int r.1)), r.2))) hq50 (A_X9_number _ (hC.2.2.2.2.2.2.2.2.2.2.2.2.1) _ _ _ (0 : Int32) (999 : Int32) h34)) rfl rfl rfl rfl rfl ⟨rfl, rfl⟩ ?_
          refine aw_guard rfl (fun g52 => ?_)
          refine aw_iast hC dX9_readsRest_54 rm_7_0_26 rfl rfl g52 rfl (fun h51 => ?_)
          refine aw_iload_n hC dX9_readsRest_55 rfl ?_
          refine aw_bipush hC dX9_readsRest_56 (v := 8) (by decide) ?_
          refine aw_icmp_eq hC dX9_readsRest_58 (tgt := 62) (by decide) ?_ ?_
          · refine aw_aload_n hC dX9_readsRest_62 rfl ?_
            refine aw_gfR hC dX9_readsRest_63 fg_RX9_94 rfl rfl rm_7_0_0 ?_
            refine aw_iload_n hC dX9_readsRest_66 rfl ?_
            refine aw_aload_n hC dX9_readsRest_67 rfl ?_
            refine aw_iconst hC dX9_readsRest_68 (v := 1) (by decide) ?_
            refine aw_bipush hC dX9_readsRest_69 (v := 20) (by decide) ?_
            refine aw_bind rfl (fun q53 hq53 => ?_)
            refine aw_cVi hC dX9_readsRest_71 cv_RX9_268 rfl rm_7_0_0 (am_some (inj := (fun r => (.inr (some (.int r.1)), r.2))) hq53 (A_X9_number _ (hC.2.2.2.2.2.2.2.2.2.2.2.2.1) _ _ _ (1 : Int32) (20 : Int32) h51)) rfl rfl rfl rfl rfl ⟨rfl, rfl⟩ ?_
            refine aw_guard rfl (fun g55 => ?_)
            refine aw_iast hC dX9_readsRest_74 rm_7_0_26 rfl rfl g55 rfl (fun h54 => ?_)
            refine aw_aload_n hC dX9_readsRest_75 rfl ?_
            refine aw_bipush hC dX9_readsRest_76 (v := 40) (by decide) ?_
            refine aw_bind rfl (fun q56 hq56 => ?_)
            refine aw_cVv hC dX9_readsRest_78 cv_RX9_283 rfl rm_7_0_0 (am_some (inj := (fun r => (.inr (none), r))) hq56 (A_X9_mustSign _ (hC.2.2.2.2.2.2.2.2.2.2.2.2.1) _ _ _ (40 : Int32) h54)) rfl rfl rfl rfl rfl ⟨rfl, rfl⟩ ?_
            exact aw_vret hC dX9_readsRest_81 rfl rfl
          · exact aw_vret hC dX9_readsRest_61 rfl rfl
        · refine aw_iload_n hC dX9_readsRest_36 rfl ?_
          refine aw_iconst hC dX9_readsRest_37 (v := 5) (by decide) ?_
          refine aw_icmp_ne hC dX9_readsRest_38 (tgt := 55) (by decide) ?_ ?_
          · refine aw_iload_n hC dX9_readsRest_55 rfl ?_
            refine aw_bipush hC dX9_readsRest_56 (v := 8) (by decide) ?_
            refine aw_icmp_eq hC dX9_readsRest_58 (tgt := 62) (by decide) ?_ ?_
            · refine aw_aload_n hC dX9_readsRest_62 rfl ?_
              refine aw_gfR hC dX9_readsRest_63 fg_RX9_94 rfl rfl rm_7_0_0 ?_
              refine aw_iload_n hC dX9_readsRest_66 rfl ?_
              refine aw_aload_n hC dX9_readsRest_67 rfl ?_
              refine aw_iconst hC dX9_readsRest_68 (v := 1) (by decide) ?_
              refine aw_bipush hC dX9_readsRest_69 (v := 20) (by decide) ?_
              refine aw_bind rfl (fun q57 hq57 => ?_)
              refine aw_cVi hC dX9_readsRest_71 cv_RX9_268 rfl rm_7_0_0 (am_some (inj := (fun r => (.inr (some (.int r.1)), r.2))) hq57 (A_X9_number _ (hC.2.2.2.2.2.2.2.2.2.2.2.2.1) _ _ _ (1 : Int32) (20 : Int32) h34)) rfl rfl rfl rfl rfl ⟨rfl, rfl⟩ ?_
              refine aw_guard rfl (fun g59 => ?_)
              refine aw_iast hC dX9_readsRest_74 rm_7_0_26 rfl rfl g59 rfl (fun h58 => ?_)
              refine aw_aload_n hC dX9_readsRest_75 rfl ?_
              refine aw_bipush hC dX9_readsRest_76 (v := 40) (by decide) ?_
              refine aw_bind rfl (fun q60 hq60 => ?_)
              refine aw_cVv hC dX9_readsRest_78 cv_RX9_283 rfl rm_7_0_0 (am_some (inj := (fun r => (.inr (none), r))) hq60 (A_X9_mustSign _ (hC.2.2.2.2.2.2.2.2.2.2.2.2.1) _ _ _ (40 : Int32) h58)) rfl rfl rfl rfl rfl ⟨rfl, rfl⟩ ?_
              exact aw_vret hC dX9_readsRest_81 rfl rfl
            · exact aw_vret hC dX9_readsRest_61 rfl rfl
          · refine aw_aload_n hC dX9_readsRest_41 rfl ?_
            refine aw_gfR hC dX9_readsRest_42 fg_RX9_94 rfl rfl rm_7_0_0 ?_
            refine aw_iload_n hC dX9_readsRest_45 rfl ?_
            refine aw_aload_n hC dX9_readsRest_46 rfl ?_
            refine aw_iconst hC dX9_readsRest_47 (v := 0) (by decide) ?_
            refine aw_sipush hC dX9_readsRest_48 (v := 999) (by decide) ?_
            refine aw_bind rfl (fun q61 hq61 => ?_)
            refine aw_cVi hC dX9_readsRest_51 cv_RX9_268 rfl rm_7_0_0 (am_some (inj := (fun r => (.inr (some (.int r.1)), r.2))) hq61 (A_X9_number _ (hC.2.2.2.2.2.2.2.2.2.2.2.2.1) _ _ _ (0 : Int32) (999 : Int32) h34)) rfl rfl rfl rfl rfl ⟨rfl, rfl⟩ ?_
            refine aw_guard rfl (fun g63 => ?_)
            refine aw_iast hC dX9_readsRest_54 rm_7_0_26 rfl rfl g63 rfl (fun h62 => ?_)
            refine aw_iload_n hC dX9_readsRest_55 rfl ?_
            refine aw_bipush hC dX9_readsRest_56 (v := 8) (by decide) ?_
            refine aw_icmp_eq hC dX9_readsRest_58 (tgt := 62) (by decide) ?_ ?_
            · refine aw_aload_n hC dX9_readsRest_62 rfl ?_
              refine aw_gfR hC dX9_readsRest_63 fg_RX9_94 rfl rfl rm_7_0_0 ?_
              refine aw_iload_n hC dX9_readsRest_66 rfl ?_
              refine aw_aload_n hC dX9_readsRest_67 rfl ?_
              refine aw_iconst hC dX9_readsRest_68 (v := 1) (by decide) ?_
              refine aw_bipush hC dX9_readsRest_69 (v := 20) (by decide) ?_
              refine aw_bind rfl (fun q64 hq64 => ?_)
              refine aw_cVi hC dX9_readsRest_71 cv_RX9_268 rfl rm_7_0_0 (am_some (inj := (fun r => (.inr (some (.int r.1)), r.2))) hq64 (A_X9_number _ (hC.2.2.2.2.2.2.2.2.2.2.2.2.1) _ _ _ (1 : Int32) (20 : Int32) h62)) rfl rfl rfl rfl rfl ⟨rfl, rfl⟩ ?_
              refine aw_guard rfl (fun g66 => ?_)
              refine aw_iast hC dX9_readsRest_74 rm_7_0_26 rfl rfl g66 rfl (fun h65 => ?_)
              refine aw_aload_n hC dX9_readsRest_75 rfl ?_
              refine aw_bipush hC dX9_readsRest_76 (v := 40) (by decide) ?_
              refine aw_bind rfl (fun q67 hq67 => ?_)
              refine aw_cVv hC dX9_readsRest_78 cv_RX9_283 rfl rm_7_0_0 (am_some (inj := (fun r => (.inr (none), r))) hq67 (A_X9_mustSign _ (hC.2.2.2.2.2.2.2.2.2.2.2.2.1) _ _ _ (40 : Int32) h65)) rfl rfl rfl rfl rfl ⟨rfl, rfl⟩ ?_
              exact aw_vret hC dX9_readsRest_81 rfl rfl
            · exact aw_vret hC dX9_readsRest_61 rfl rfl
end PRF
