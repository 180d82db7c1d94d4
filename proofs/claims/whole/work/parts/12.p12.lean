section PRF
variable {p : Program} {l : Launch} {e : Env} {R : Room} {s : State} {m : MethodId} {args : Array Value} {below : List Frame} {meth : Method} {c : Code} {D : va_G} {loc : Rf → Nat} {cy : Nat → ClassId} {A : Nat → Prop}
set_option maxHeartbeats 4000000 in
set_option maxRecDepth 100000 in
theorem A_X9_reportByte (l : Launch) (hl0 : l.stackTraces = false) (D : va_G) (loc : Rf → Nat) (cy : Nat → ClassId) (p1 : Int32) (h : HD) : AM l D loc cy yX9_reportByte cX9_reportByte 2 (some .int) 2 57 [.ref (loc (7, 0, 0)), .int p1] h ((jX9_reportByte p1 h).map (fun r => (.inr (some (.int r.1)), r.2))) := by
  refine am_start (y := yX9_reportByte) (av := [.ref (loc (7, 0, 0)), .int p1]) (nL := 2) (h := h) (RF := fun (r : Option (Int32 × HD)) => r.map (fun r => (.inr (some (.int r.1)), r.2))) (x := jX9_reportByte p1 h) hl0 (by decide +kernel) rfl ?_
  intro p e R s m below meth c A hC
  unfold jX9_reportByte
  refine aw_aload_n hC dX9_reportByte_0 rfl ?_
  refine aw_aload_n hC dX9_reportByte_1 rfl ?_
  refine aw_gfI hC dX9_reportByte_2 fg_RX9_541 rfl rm_7_0_0 ?_
  refine aw_if_eq hC dX9_reportByte_5 (tgt := 28) (by decide) ?_ ?_
  · refine aw_iconst hC dX9_reportByte_28 (v := 0) (by decide) ?_
    refine aw_bind rfl (fun q1 hq1 => ?_)
    refine aw_cVb hC dX9_reportByte_29 cv_RX9_122 rfl rm_7_0_0 (am_some (inj := (fun r => (.inr (some (.int (b2i r.1))), r.2))) hq1 (A_X9_goes _ (hC.2.2.2.2.2.2.2.2.2.2.2.2.1) _ _ _ false h)) rfl rfl rfl rfl rfl ⟨rfl, rfl⟩ ?_
    refine aw_if_eq_b hC dX9_reportByte_32 (tgt := 44) (by decide) ?_ ?_
    · refine aw_iconst hC dX9_reportByte_44 (v := 0) (by decide) ?_
      exact aw_iret hC dX9_reportByte_45 rfl rfl
    · refine aw_aload_n hC dX9_reportByte_35 rfl ?_
      refine aw_gfR hC dX9_reportByte_36 fg_RX9_106 rfl rfl rm_7_0_0 ?_
      refine aw_iload_n hC dX9_reportByte_39 rfl ?_
      refine aw_guard rfl (fun g2 => ?_)
      refine aw_iald hC dX9_reportByte_40 rm_7_0_30 rfl rfl g2 rfl ?_
      refine aw_goto hC dX9_reportByte_41 (tgt := 45) (by decide) ?_
      exact aw_iret hC dX9_reportByte_45 rfl rfl
  · refine aw_iload_n hC dX9_reportByte_8 rfl ?_
    refine aw_i2l hC dX9_reportByte_9 ?_
    refine aw_lconst hC dX9_reportByte_10 (v := 0) (by decide) ?_
    refine aw_aload_n hC dX9_reportByte_11 rfl ?_
    refine aw_gfI hC dX9_reportByte_12 fg_RX9_532 rfl rm_7_0_0 ?_
    refine aw_iconst hC dX9_reportByte_15 (v := 1) (by decide) ?_
    refine aw_isub hC dX9_reportByte_16 ?_
    refine aw_i2l hC dX9_reportByte_17 ?_
    refine aw_cSb hC dX9_reportByte_18 cv_RX9_130 (A_X9_isIn _ (hC.2.2.2.2.2.2.2.2.2.2.2.2.1) _ _ _ p1.toInt64 (0 : Int64) (((gI h (7, 0, 0) 49) - (1 : Int32)).toInt64) h) rfl rfl rfl rfl rfl ⟨rfl, rfl⟩ ?_
    refine aw_if_eq_b hC dX9_reportByte_21 (tgt := 28) (by decide) ?_ ?_
    · refine aw_iconst hC dX9_reportByte_28 (v := 0) (by decide) ?_
      refine aw_bind rfl (fun q3 hq3 => ?_)
      refine aw_cVb hC dX9_reportByte_29 cv_RX9_122 rfl rm_7_0_0 (am_some (inj := (fun r => (.inr (some (.int (b2i r.1))), r.2))) hq3 (A_X9_goes _ (hC.2.2.2.2.2.2.2.2.2.2.2.2.1) _ _ _ false h)) rfl rfl rfl rfl rfl ⟨rfl, rfl⟩ ?_
      refine aw_if_eq_b hC dX9_reportByte_32 (tgt := 44) (by decide) ?_ ?_
      · refine aw_iconst hC dX9_reportByte_44 (v := 0) (by decide) ?_
        exact aw_iret hC dX9_reportByte_45 rfl rfl
      · refine aw_aload_n hC dX9_reportByte_35 rfl ?_
        refine aw_gfR hC dX9_reportByte_36 fg_RX9_106 rfl rfl rm_7_0_0 ?_
        refine aw_iload_n hC dX9_reportByte_39 rfl ?_
        refine aw_guard rfl (fun g4 => ?_)
        refine aw_iald hC dX9_reportByte_40 rm_7_0_30 rfl rfl g4 rfl ?_
        refine aw_goto hC dX9_reportByte_41 (tgt := 45) (by decide) ?_
        exact aw_iret hC dX9_reportByte_45 rfl rfl
    · refine aw_iconst hC dX9_reportByte_24 (v := 1) (by decide) ?_
      refine aw_goto hC dX9_reportByte_25 (tgt := 29) (by decide) ?_
      refine aw_bind rfl (fun q5 hq5 => ?_)
      refine aw_cVb hC dX9_reportByte_29 cv_RX9_122 rfl rm_7_0_0 (am_some (inj := (fun r => (.inr (some (.int (b2i r.1))), r.2))) hq5 (A_X9_goes _ (hC.2.2.2.2.2.2.2.2.2.2.2.2.1) _ _ _ true h)) rfl rfl rfl rfl rfl ⟨rfl, rfl⟩ ?_
      refine aw_if_eq_b hC dX9_reportByte_32 (tgt := 44) (by decide) ?_ ?_
      · refine aw_iconst hC dX9_reportByte_44 (v := 0) (by decide) ?_
        exact aw_iret hC dX9_reportByte_45 rfl rfl
      · refine aw_aload_n hC dX9_reportByte_35 rfl ?_
        refine aw_gfR hC dX9_reportByte_36 fg_RX9_106 rfl rfl rm_7_0_0 ?_
        refine aw_iload_n hC dX9_reportByte_39 rfl ?_
        refine aw_guard rfl (fun g6 => ?_)
        refine aw_iald hC dX9_reportByte_40 rm_7_0_30 rfl rfl g6 rfl ?_
        refine aw_goto hC dX9_reportByte_41 (tgt := 45) (by decide) ?_
        exact aw_iret hC dX9_reportByte_45 rfl rfl
set_option maxHeartbeats 4000000 in
set_option maxRecDepth 100000 in
theorem A_X2_empty (l : Launch) (hl0 : l.stackTraces = false) (D : va_G) (loc : Rf → Nat) (cy : Nat → ClassId) (o : Nat) (ho : o < 10) (h : HD) : AM l D loc cy yX2_empty cX2_empty 1 (none) 0 16 [.ref (loc (1, o, 0))] h ((jX2_empty o h).map (fun r => (.inr (none), r))) := by
  refine am_start (y := yX2_empty) (av := [.ref (loc (1, o, 0))]) (nL := 1) (h := h) (RF := fun (r : Option HD) => r.map (fun r => (.inr (none), r))) (x := jX2_empty o h) hl0 (by decide +kernel) rfl ?_
  intro p e R s m below meth c A hC
  unfold jX2_empty
  refine aw_aload_n hC dX2_empty_0 rfl ?_
  refine aw_iconst hC dX2_empty_1 (v := 0) (by decide) ?_
  refine aw_pfI hC dX2_empty_2 fg_RX2_19 fp_1_2 rfl (rv_1_0 ho) (fun h1 => ?_)
  refine aw_aload_n hC dX2_empty_5 rfl ?_
  refine aw_iconst hC dX2_empty_6 (v := 0) (by decide) ?_
  refine aw_pfI hC dX2_empty_7 fg_RX2_23 fp_1_3 rfl (rv_1_0 ho) (fun h2 => ?_)
  exact aw_vret hC dX2_empty_10 rfl rfl
set_option maxHeartbeats 4000000 in
set_option maxRecDepth 100000 in
theorem A_X5_count (l : Launch) (hl0 : l.stackTraces = false) (D : va_G) (loc : Rf → Nat) (cy : Nat → ClassId)  (h : HD) : AM l D loc cy yX5_count cX5_count 1 (some .int) 0 16 [.ref (loc (3, 0, 0))] h (some (.inr (some (.int (jX5_count h))), h)) := by
  refine am_start (y := yX5_count) (av := [.ref (loc (3, 0, 0))]) (nL := 1) (h := h) (RF := fun (r : Int32) => some (.inr (some (.int r)), h)) (x := jX5_count h) hl0 (by decide +kernel) rfl ?_
  intro p e R s m below meth c A hC
  unfold jX5_count
  refine aw_aload_n hC dX5_count_0 rfl ?_
  refine aw_gfI hC dX5_count_1 fg_RX5_35 rfl rm_3_0_0 ?_
  exact aw_iret hC dX5_count_4 rfl rfl
set_option maxHeartbeats 4000000 in
set_option maxRecDepth 100000 in
theorem A_X5_has (l : Launch) (hl0 : l.stackTraces = false) (D : va_G) (loc : Rf → Nat) (cy : Nat → ClassId) (p1 : Int32) (h : HD) : AM l D loc cy yX5_has cX5_has 2 (some .boolean) 0 16 [.ref (loc (3, 0, 0)), .int p1] h (some (.inr (some (.int (b2i (jX5_has p1 h)))), h)) := by
  refine am_start (y := yX5_has) (av := [.ref (loc (3, 0, 0)), .int p1]) (nL := 2) (h := h) (RF := fun (r : Bool) => some (.inr (some (.int (b2i r))), h)) (x := jX5_has p1 h) hl0 (by decide +kernel) rfl ?_
  intro p e R s m below meth c A hC
  unfold jX5_has
  refine aw_iload_n hC dX5_has_0 rfl ?_
  refine aw_if_lt hC dX5_has_1 (tgt := 22) (by decide) ?_ ?_
  · refine aw_iconst hC dX5_has_22 (v := 0) (by decide) ?_
    exact aw_zret hC dX5_has_23 rfl (show _ = b2i false from rfl) rfl
  · refine aw_iload_n hC dX5_has_4 rfl ?_
    refine aw_aload_n hC dX5_has_5 rfl ?_
    refine aw_gfI hC dX5_has_6 fg_RX5_35 rfl rm_3_0_0 ?_
    refine aw_icmp_ge hC dX5_has_9 (tgt := 22) (by decide) ?_ ?_
    · refine aw_iconst hC dX5_has_22 (v := 0) (by decide) ?_
      exact aw_zret hC dX5_has_23 rfl (show _ = b2i false from rfl) rfl
    · refine aw_iload_n hC dX5_has_12 rfl ?_
      refine aw_bipush hC dX5_has_13 (v := 30) (by decide) ?_
      refine aw_icmp_ge hC dX5_has_15 (tgt := 22) (by decide) ?_ ?_
      · refine aw_iconst hC dX5_has_22 (v := 0) (by decide) ?_
        exact aw_zret hC dX5_has_23 rfl (show _ = b2i false from rfl) rfl
      · refine aw_iconst hC dX5_has_18 (v := 1) (by decide) ?_
        refine aw_goto hC dX5_has_19 (tgt := 23) (by decide) ?_
        exact aw_zret hC dX5_has_23 rfl (show _ = b2i true from rfl) rfl
set_option maxHeartbeats 4000000 in
set_option maxRecDepth 100000 in
theorem A_X5_nameAt (l : Launch) (hl0 : l.stackTraces = false) (D : va_G) (loc : Rf → Nat) (cy : Nat → ClassId) (p1 : Int32) (h : HD) : AM l D loc cy yX5_nameAt cX5_nameAt 2 (some .long) 1 37 [.ref (loc (3, 0, 0)), .int p1] h ((jX5_nameAt p1 h).map (fun r => (.inr (some (.long r)), h))) := by
  refine am_start (y := yX5_nameAt) (av := [.ref (loc (3, 0, 0)), .int p1]) (nL := 2) (h := h) (RF := fun (r : Option Int64) => r.map (fun r => (.inr (some (.long r)), h))) (x := jX5_nameAt p1 h) hl0 (by decide +kernel) rfl ?_
  intro p e R s m below meth c A hC
  unfold jX5_nameAt
  refine aw_aload_n hC dX5_nameAt_0 rfl ?_
  refine aw_iload_n hC dX5_nameAt_1 rfl ?_
  refine aw_cVb hC dX5_nameAt_2 cv_RX5_38 rfl rm_3_0_0 (A_X5_has _ (hC.2.2.2.2.2.2.2.2.2.2.2.2.1) _ _ _ p1 h) rfl rfl rfl rfl rfl ⟨rfl, rfl⟩ ?_
  refine aw_if_eq_b hC dX5_nameAt_5 (tgt := 17) (by decide) ?_ ?_
  · refine aw_lconst hC dX5_nameAt_17 (v := 0) (by decide) ?_
    exact aw_lret hC dX5_nameAt_18 rfl rfl
  · refine aw_aload_n hC dX5_nameAt_8 rfl ?_
    refine aw_gfR hC dX5_nameAt_9 fg_RX5_17 rfl rfl rm_3_0_0 ?_
    refine aw_iload_n hC dX5_nameAt_12 rfl ?_
    refine aw_guard rfl (fun g1 => ?_)
    refine aw_lald hC dX5_nameAt_13 rm_3_0_2 rfl rfl g1 rfl ?_
    refine aw_goto hC dX5_nameAt_14 (tgt := 18) (by decide) ?_
    exact aw_lret hC dX5_nameAt_18 rfl rfl
set_option maxHeartbeats 4000000 in
set_option maxRecDepth 100000 in
theorem A_X5_numberAt (l : Launch) (hl0 : l.stackTraces = false) (D : va_G) (loc : Rf → Nat) (cy : Nat → ClassId) (p1 : Int32) (h : HD) : AM l D loc cy yX5_numberAt cX5_numberAt 2 (some .int) 1 37 [.ref (loc (3, 0, 0)), .int p1] h ((jX5_numberAt p1 h).map (fun r => (.inr (some (.int r)), h))) := by
  refine am_start (y := yX5_numberAt) (av := [.ref (loc (3, 0, 0)), .int p1]) (nL := 2) (h := h) (RF := fun (r : Option Int32) => r.map (fun r => (.inr (some (.int r)), h))) (x := jX5_numberAt p1 h) hl0 (by decide +kernel) rfl ?_
  intro p e R s m below meth c A hC
  unfold jX5_numberAt
  refine aw_aload_n hC dX5_numberAt_0 rfl ?_
  refine aw_iload_n hC dX5_numberAt_1 rfl ?_
  refine aw_cVb hC dX5_numberAt_2 cv_RX5_38 rfl rm_3_0_0 (A_X5_has _ (hC.2.2.2.2.2.2.2.2.2.2.2.2.1) _ _ _ p1 h) rfl rfl rfl rfl rfl ⟨rfl, rfl⟩ ?_
  refine aw_if_eq_b hC dX5_numberAt_5 (tgt := 17) (by decide) ?_ ?_
  · refine aw_iconst hC dX5_numberAt_17 (v := 0) (by decide) ?_
    exact aw_iret hC dX5_numberAt_18 rfl rfl
  · refine aw_aload_n hC dX5_numberAt_8 rfl ?_
    refine aw_gfR hC dX5_numberAt_9 fg_RX5_21 rfl rfl rm_3_0_0 ?_
    refine aw_iload_n hC dX5_numberAt_12 rfl ?_
    refine aw_guard rfl (fun g1 => ?_)
    refine aw_iald hC dX5_numberAt_13 rm_3_0_3 rfl rfl g1 rfl ?_
    refine aw_goto hC dX5_numberAt_14 (tgt := 18) (by decide) ?_
    exact aw_iret hC dX5_numberAt_18 rfl rfl
set_option maxHeartbeats 4000000 in
set_option maxRecDepth 100000 in
theorem A_X5_behind (l : Launch) (hl0 : l.stackTraces = false) (D : va_G) (loc : Rf → Nat) (cy : Nat → ClassId) (p1 : Int32) (h : HD) : AM l D loc cy yX5_behind cX5_behind 2 (some .int) 1 37 [.ref (loc (3, 0, 0)), .int p1] h ((jX5_behind p1 h).map (fun r => (.inr (some (.int r)), h))) := by
  refine am_start (y := yX5_behind) (av := [.ref (loc (3, 0, 0)), .int p1]) (nL := 2) (h := h) (RF := fun (r : Option Int32) => r.map (fun r => (.inr (some (.int r)), h))) (x := jX5_behind p1 h) hl0 (by decide +kernel) rfl ?_
  intro p e R s m below meth c A hC
  unfold jX5_behind
  refine aw_aload_n hC dX5_behind_0 rfl ?_
  refine aw_iload_n hC dX5_behind_1 rfl ?_
  refine aw_cVb hC dX5_behind_2 cv_RX5_38 rfl rm_3_0_0 (A_X5_has _ (hC.2.2.2.2.2.2.2.2.2.2.2.2.1) _ _ _ p1 h) rfl rfl rfl rfl rfl ⟨rfl, rfl⟩ ?_
  refine aw_if_eq_b hC dX5_behind_5 (tgt := 27) (by decide) ?_ ?_
  · refine aw_iload_n hC dX5_behind_27 rfl ?_
    refine aw_iconst hC dX5_behind_28 (v := 1) (by decide) ?_
    refine aw_iadd hC dX5_behind_29 ?_
    exact aw_iret hC dX5_behind_30 rfl rfl
  · refine aw_aload_n hC dX5_behind_8 rfl ?_
    refine aw_gfR hC dX5_behind_9 fg_RX5_25 rfl rfl rm_3_0_0 ?_
    refine aw_iload_n hC dX5_behind_12 rfl ?_
    refine aw_guard rfl (fun g1 => ?_)
    refine aw_iald hC dX5_behind_13 rm_3_0_4 rfl rfl g1 rfl ?_
    refine aw_iload_n hC dX5_behind_14 rfl ?_
    refine aw_icmp_le hC dX5_behind_15 (tgt := 27) (by decide) ?_ ?_
    · refine aw_iload_n hC dX5_behind_27 rfl ?_
      refine aw_iconst hC dX5_behind_28 (v := 1) (by decide) ?_
      refine aw_iadd hC dX5_behind_29 ?_
      exact aw_iret hC dX5_behind_30 rfl rfl
    · refine aw_aload_n hC dX5_behind_18 rfl ?_
      refine aw_gfR hC dX5_behind_19 fg_RX5_25 rfl rfl rm_3_0_0 ?_
      refine aw_iload_n hC dX5_behind_22 rfl ?_
      refine aw_guard rfl (fun g2 => ?_)
      refine aw_iald hC dX5_behind_23 rm_3_0_4 rfl rfl g2 rfl ?_
      refine aw_goto hC dX5_behind_24 (tgt := 30) (by decide) ?_
      exact aw_iret hC dX5_behind_30 rfl rfl
set_option maxHeartbeats 4000000 in
set_option maxRecDepth 100000 in
theorem A_X5_openRepeat (l : Launch) (hl0 : l.stackTraces = false) (D : va_G) (loc : Rf → Nat) (cy : Nat → ClassId) (p1 : Int32) (h : HD) : AM l D loc cy yX5_openRepeat cX5_openRepeat 2 (none) 0 16 [.ref (loc (3, 0, 0)), .int p1] h ((jX5_openRepeat p1 h).map (fun r => (.inr (none), r))) := by
  refine am_start (y := yX5_openRepeat) (av := [.ref (loc (3, 0, 0)), .int p1]) (nL := 2) (h := h) (RF := fun (r : Option HD) => r.map (fun r => (.inr (none), r))) (x := jX5_openRepeat p1 h) hl0 (by decide +kernel) rfl ?_
  intro p e R s m below meth c A hC
  unfold jX5_openRepeat
  refine aw_aload_n hC dX5_openRepeat_0 rfl ?_
  refine aw_gfI hC dX5_openRepeat_1 fg_RX5_31 rfl rm_3_0_0 ?_
  refine aw_if_lt hC dX5_openRepeat_4 (tgt := 35) (by decide) ?_ ?_
  · exact aw_vret hC dX5_openRepeat_35 rfl rfl
  · refine aw_aload_n hC dX5_openRepeat_7 rfl ?_
    refine aw_gfI hC dX5_openRepeat_8 fg_RX5_31 rfl rm_3_0_0 ?_
    refine aw_iconst hC dX5_openRepeat_11 (v := 2) (by decide) ?_
    refine aw_icmp_ge hC dX5_openRepeat_12 (tgt := 35) (by decide) ?_ ?_
    · exact aw_vret hC dX5_openRepeat_35 rfl rfl
    · refine aw_aload_n hC dX5_openRepeat_15 rfl ?_
      refine aw_gfR hC dX5_openRepeat_16 fg_RX5_28 rfl rfl rm_3_0_0 ?_
      refine aw_aload_n hC dX5_openRepeat_19 rfl ?_
      refine aw_gfI hC dX5_openRepeat_20 fg_RX5_31 rfl rm_3_0_0 ?_
      refine aw_iload_n hC dX5_openRepeat_23 rfl ?_
      refine aw_guard rfl (fun g2 => ?_)
      refine aw_iast hC dX5_openRepeat_24 rm_3_0_5 rfl rfl g2 rfl (fun h1 => ?_)
      refine aw_aload_n hC dX5_openRepeat_25 rfl ?_
      refine aw_dup hC dX5_openRepeat_26 rfl ?_
      refine aw_gfI hC dX5_openRepeat_27 fg_RX5_31 rfl rm_3_0_0 ?_
      refine aw_iconst hC dX5_openRepeat_30 (v := 1) (by decide) ?_
      refine aw_iadd hC dX5_openRepeat_31 ?_
      refine aw_pfI hC dX5_openRepeat_32 fg_RX5_31 fp_3_5 rfl rm_3_0_0 (fun h3 => ?_)
      exact aw_vret hC dX5_openRepeat_35 rfl rfl
set_option maxHeartbeats 4000000 in
set_option maxRecDepth 100000 in
theorem A_X5_closeRepeat (l : Launch) (hl0 : l.stackTraces = false) (D : va_G) (loc : Rf → Nat) (cy : Nat → ClassId)  (h : HD) : AM l D loc cy yX5_closeRepeat cX5_closeRepeat 1 (none) 1 37 [.ref (loc (3, 0, 0))] h ((jX5_closeRepeat h).map (fun r => (.inr (none), r))) := by
  refine am_start (y := yX5_closeRepeat) (av := [.ref (loc (3, 0, 0))]) (nL := 1) (h := h) (RF := fun (r : Option HD) => r.map (fun r => (.inr (none), r))) (x := jX5_closeRepeat h) hl0 (by decide +kernel) rfl ?_
  intro p e R s m below meth c A hC
  unfold jX5_closeRepeat
  refine aw_aload_n hC dX5_closeRepeat_0 rfl ?_
  refine aw_gfI hC dX5_closeRepeat_1 fg_RX5_31 rfl rm_3_0_0 ?_
  refine aw_if_le hC dX5_closeRepeat_4 (tgt := 59) (by decide) ?_ ?_
  · exact aw_vret hC dX5_closeRepeat_59 rfl rfl
  · refine aw_aload_n hC dX5_closeRepeat_7 rfl ?_
    refine aw_gfI hC dX5_closeRepeat_8 fg_RX5_31 rfl rm_3_0_0 ?_
    refine aw_iconst hC dX5_closeRepeat_11 (v := 2) (by decide) ?_
    refine aw_icmp_gt hC dX5_closeRepeat_12 (tgt := 59) (by decide) ?_ ?_
    · exact aw_vret hC dX5_closeRepeat_59 rfl rfl
    · refine aw_aload_n hC dX5_closeRepeat_15 rfl ?_
      refine aw_dup hC dX5_closeRepeat_16 rfl ?_
      refine aw_gfI hC dX5_closeRepeat_17 fg_RX5_31 rfl rm_3_0_0 ?_
      refine aw_iconst hC dX5_closeRepeat_20 (v := 1) (by decide) ?_
      refine aw_isub hC dX5_closeRepeat_21 ?_
      refine aw_pfI hC dX5_closeRepeat_22 fg_RX5_31 fp_3_5 rfl rm_3_0_0 (fun h1 => ?_)
      refine aw_aload_n hC dX5_closeRepeat_25 rfl ?_
      refine aw_aload_n hC dX5_closeRepeat_26 rfl ?_
      refine aw_gfR hC dX5_closeRepeat_27 fg_RX5_28 rfl rfl rm_3_0_0 ?_
      refine aw_aload_n hC dX5_closeRepeat_30 rfl ?_
      refine aw_gfI hC dX5_closeRepeat_31 fg_RX5_31 rfl rm_3_0_0 ?_
      refine aw_guard rfl (fun g2 => ?_)
      refine aw_iald hC dX5_closeRepeat_34 rm_3_0_5 rfl rfl g2 rfl ?_
      refine aw_cVb hC dX5_closeRepeat_35 cv_RX5_38 rfl rm_3_0_0 (A_X5_has _ (hC.2.2.2.2.2.2.2.2.2.2.2.2.1) _ _ _ (gI h1 (3, 0, 5) (gI h1 (3, 0, 0) 5).toNatClampNeg) h1) rfl rfl rfl rfl rfl ⟨rfl, rfl⟩ ?_
      refine aw_if_eq_b hC dX5_closeRepeat_38 (tgt := 59) (by decide) ?_ ?_
      · exact aw_vret hC dX5_closeRepeat_59 rfl rfl
      · refine aw_aload_n hC dX5_closeRepeat_41 rfl ?_
        refine aw_gfR hC dX5_closeRepeat_42 fg_RX5_25 rfl rfl rm_3_0_0 ?_
        refine aw_aload_n hC dX5_closeRepeat_45 rfl ?_
        refine aw_gfR hC dX5_closeRepeat_46 fg_RX5_28 rfl rfl rm_3_0_0 ?_
        refine aw_aload_n hC dX5_closeRepeat_49 rfl ?_
        refine aw_gfI hC dX5_closeRepeat_50 fg_RX5_31 rfl rm_3_0_0 ?_
        refine aw_guard rfl (fun g3 => ?_)
        refine aw_iald hC dX5_closeRepeat_53 rm_3_0_5 rfl rfl g3 rfl ?_
        refine aw_aload_n hC dX5_closeRepeat_54 rfl ?_
        refine aw_gfI hC dX5_closeRepeat_55 fg_RX5_35 rfl rm_3_0_0 ?_
        refine aw_guard rfl (fun g5 => ?_)
        refine aw_iast hC dX5_closeRepeat_58 rm_3_0_4 rfl rfl g5 rfl (fun h4 => ?_)
        exact aw_vret hC dX5_closeRepeat_59 rfl rfl
set_option maxHeartbeats 4000000 in
set_option maxRecDepth 100000 in
theorem A_X6_begin (l : Launch) (hl0 : l.stackTraces = false) (D : va_G) (loc : Rf → Nat) (cy : Nat → ClassId)  (h : HD) : AM l D loc cy yX6_begin cX6_begin 1 (none) 0 16 [.ref (loc (4, 0, 0))] h ((jX6_begin h).map (fun r => (.inr (none), r))) := by
  refine am_start (y := yX6_begin) (av := [.ref (loc (4, 0, 0))]) (nL := 1) (h := h) (RF := fun (r : Option HD) => r.map (fun r => (.inr (none), r))) (x := jX6_begin h) hl0 (by decide +kernel) rfl ?_
  intro p e R s m below meth c A hC
  unfold jX6_begin
  refine aw_aload_n hC dX6_begin_0 rfl ?_
  refine aw_iconst hC dX6_begin_1 (v := 0) (by decide) ?_
  refine aw_pfI hC dX6_begin_2 fg_RX6_20 fp_4_1 rfl rm_4_0_0 (fun h1 => ?_)
  refine aw_aload_n hC dX6_begin_5 rfl ?_
  refine aw_iconst hC dX6_begin_6 (v := 0) (by decide) ?_
  refine aw_pfI hC dX6_begin_7 fg_RX6_24 fp_4_2 rfl rm_4_0_0 (fun h2 => ?_)
  refine aw_aload_n hC dX6_begin_10 rfl ?_
  refine aw_iconst hC dX6_begin_11 (v := 0) (by decide) ?_
  refine aw_pfI hC dX6_begin_12 fg_RX6_27 fp_4_3 rfl rm_4_0_0 (fun h3 => ?_)
  refine aw_aload_n hC dX6_begin_15 rfl ?_
  refine aw_iconst hC dX6_begin_16 (v := 0) (by decide) ?_
  refine aw_pfI hC dX6_begin_17 fg_RX6_40 fp_4_7 rfl rm_4_0_0 (fun h4 => ?_)
  refine aw_aload_n hC dX6_begin_20 rfl ?_
  refine aw_iconst hC dX6_begin_21 (v := -1) (by decide) ?_
  refine aw_pfI hC dX6_begin_22 fg_RX6_43 fp_4_8 rfl rm_4_0_0 (fun h5 => ?_)
  exact aw_vret hC dX6_begin_25 rfl rfl
set_option maxHeartbeats 4000000 in
set_option maxRecDepth 100000 in
theorem A_X6_isEnd (l : Launch) (hl0 : l.stackTraces = false) (D : va_G) (loc : Rf → Nat) (cy : Nat → ClassId)  (h : HD) : AM l D loc cy yX6_isEnd cX6_isEnd 1 (some .boolean) 0 16 [.ref (loc (4, 0, 0))] h (some (.inr (some (.int (b2i (jX6_isEnd h)))), h)) := by
  refine am_start (y := yX6_isEnd) (av := [.ref (loc (4, 0, 0))]) (nL := 1) (h := h) (RF := fun (r : Bool) => some (.inr (some (.int (b2i r))), h)) (x := jX6_isEnd h) hl0 (by decide +kernel) rfl ?_
  intro p e R s m below meth c A hC
  unfold jX6_isEnd
  refine aw_aload_n hC dX6_isEnd_0 rfl ?_
  refine aw_gfI hC dX6_isEnd_1 fg_RX6_20 rfl rm_4_0_0 ?_
  refine aw_if_ne hC dX6_isEnd_4 (tgt := 11) (by decide) ?_ ?_
  · refine aw_iconst hC dX6_isEnd_11 (v := 0) (by decide) ?_
    exact aw_zret hC dX6_isEnd_12 rfl (show _ = b2i false from rfl) rfl
  · refine aw_iconst hC dX6_isEnd_7 (v := 1) (by decide) ?_
    refine aw_goto hC dX6_isEnd_8 (tgt := 12) (by decide) ?_
    exact aw_zret hC dX6_isEnd_12 rfl (show _ = b2i true from rfl) rfl
set_option maxHeartbeats 4000000 in
set_option maxRecDepth 100000 in
theorem A_X6_isWord (l : Launch) (hl0 : l.stackTraces = false) (D : va_G) (loc : Rf → Nat) (cy : Nat → ClassId)  (h : HD) : AM l D loc cy yX6_isWord cX6_isWord 1 (some .boolean) 0 16 [.ref (loc (4, 0, 0))] h (some (.inr (some (.int (b2i (jX6_isWord h)))), h)) := by
  refine am_start (y := yX6_isWord) (av := [.ref (loc (4, 0, 0))]) (nL := 1) (h := h) (RF := fun (r : Bool) => some (.inr (some (.int (b2i r))), h)) (x := jX6_isWord h) hl0 (by decide +kernel) rfl ?_
  intro p e R s m below meth c A hC
  unfold jX6_isWord
  refine aw_aload_n hC dX6_isWord_0 rfl ?_
  refine aw_gfI hC dX6_isWord_1 fg_RX6_20 rfl rm_4_0_0 ?_
  refine aw_iconst hC dX6_isWord_4 (v := 1) (by decide) ?_
  refine aw_icmp_ne hC dX6_isWord_5 (tgt := 12) (by decide) ?_ ?_
  · refine aw_iconst hC dX6_isWord_12 (v := 0) (by decide) ?_
    exact aw_zret hC dX6_isWord_13 rfl (show _ = b2i false from rfl) rfl
  · refine aw_iconst hC dX6_isWord_8 (v := 1) (by decide) ?_
    refine aw_goto hC dX6_isWord_9 (tgt := 13) (by decide) ?_
    exact aw_zret hC dX6_isWord_13 rfl (show _ = b2i true from rfl) rfl
set_option maxHeartbeats 4000000 in
set_option maxRecDepth 100000 in
theorem A_X6_word (l : Launch) (hl0 : l.stackTraces = false) (D : va_G) (loc : Rf → Nat) (cy : Nat → ClassId)  (h : HD) : AM l D loc cy yX6_word cX6_word 1 (some .long) 0 16 [.ref (loc (4, 0, 0))] h (some (.inr (some (.long (jX6_word h))), h)) := by
  refine am_start (y := yX6_word) (av := [.ref (loc (4, 0, 0))]) (nL := 1) (h := h) (RF := fun (r : Int64) => some (.inr (some (.long r)), h)) (x := jX6_word h) hl0 (by decide +kernel) rfl ?_
  intro p e R s m below meth c A hC
  unfold jX6_word
  refine aw_aload_n hC dX6_word_0 rfl ?_
  refine aw_gfJ hC dX6_word_1 fg_RX6_30 rfl rm_4_0_0 ?_
  exact aw_lret hC dX6_word_4 rfl rfl
set_option maxHeartbeats 4000000 in
set_option maxRecDepth 100000 in
theorem A_X6_readName (l : Launch) (hl0 : l.stackTraces = false) (D : va_G) (loc : Rf → Nat) (cy : Nat → ClassId)  (h : HD) : AM l D loc cy yX6_readName cX6_readName 1 (some .boolean) 3 80 [.ref (loc (4, 0, 0))] h ((jX6_readName h).map (fun r => (.inr (some (.int (b2i r.1))), r.2))) := by
  refine am_start (y := yX6_readName) (av := [.ref (loc (4, 0, 0))]) (nL := 1) (h := h) (RF := fun (r : Option (Bool × HD)) => r.map (fun r => (.inr (some (.int (b2i r.1))), r.2))) (x := jX6_readName h) hl0 (by decide +kernel) rfl ?_
  intro p e R s m below meth c A hC
  unfold jX6_readName
  refine aw_aload_n hC dX6_readName_0 rfl ?_
  refine aw_bind rfl (fun q1 hq1 => ?_)
  refine aw_cVv hC dX6_readName_1 cv_RX6_75 rfl rm_4_0_0 (am_some (inj := (fun r => (.inr (none), r))) hq1 (A_X6_advance _ (hC.2.2.2.2.2.2.2.2.2.2.2.2.1) _ _ _ h)) rfl rfl rfl rfl rfl ⟨rfl, rfl⟩ ?_
  refine aw_aload_n hC dX6_readName_4 rfl ?_
  refine aw_cVb hC dX6_readName_5 cv_RX6_85 rfl rm_4_0_0 (A_X6_isWord _ (hC.2.2.2.2.2.2.2.2.2.2.2.2.1) _ _ _ q1) rfl rfl rfl rfl rfl ⟨rfl, rfl⟩ ?_
  refine aw_if_ne_b hC dX6_readName_8 (tgt := 19) (by decide) ?_ ?_
  · refine aw_iconst hC dX6_readName_19 (v := 1) (by decide) ?_
    refine aw_goto hC dX6_readName_20 (tgt := 24) (by decide) ?_
    exact aw_zret hC dX6_readName_24 rfl (show _ = b2i true from rfl) rfl
  · refine aw_aload_n hC dX6_readName_11 rfl ?_
    refine aw_iconst hC dX6_readName_12 (v := 1) (by decide) ?_
    refine aw_bind rfl (fun q2 hq2 => ?_)
    refine aw_cVb hC dX6_readName_13 cv_RX6_82 rfl rm_4_0_0 (am_some (inj := (fun r => (.inr (some (.int (b2i r.1))), r.2))) hq2 (A_X6_fail _ (hC.2.2.2.2.2.2.2.2.2.2.2.2.1) _ _ _ (1 : Int32) q1)) rfl rfl rfl rfl rfl ⟨rfl, rfl⟩ ?_
    refine aw_if_eq_b hC dX6_readName_16 (tgt := 23) (by decide) ?_ ?_
    · refine aw_iconst hC dX6_readName_23 (v := 0) (by decide) ?_
      exact aw_zret hC dX6_readName_24 rfl (show _ = b2i false from rfl) rfl
    · refine aw_iconst hC dX6_readName_19 (v := 1) (by decide) ?_
      refine aw_goto hC dX6_readName_20 (tgt := 24) (by decide) ?_
      exact aw_zret hC dX6_readName_24 rfl (show _ = b2i true from rfl) rfl
end PRF
