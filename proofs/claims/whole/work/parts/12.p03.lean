section PRF
variable {p : Program} {l : Launch} {e : Env} {R : Room} {s : State} {m : MethodId} {args : Array Value} {below : List Frame} {meth : Method} {c : Code} {D : va_G} {loc : Rf → Nat} {cy : Nat → ClassId} {A : Nat → Prop}
set_option maxHeartbeats 4000000 in
set_option maxRecDepth 100000 in
theorem L_X7_leastOfWeightOne_2 (p1 : Int32) (h : HD) (hC : Cx p l e R s m args meth c D loc cy A cX7_leastOfWeightOne 3 (some .int) RX7 0 16 0 0)  : ∀ (n2 : Nat) (x2 : Int32), AW p l e R s m args below meth c D loc cy A 3 (QM below D loc cy A args s) (fun (r : Option Int32) => r.map (fun r => (.inr (some (.int r)), h))) (0, 0) 2 [(0, .ref (loc (5, 0, 0))), (1, .int p1), (2, .int x2)] [] h (jX7_leastOfWeightOne_L2 p1 h n2 x2) := by
  intro n2
  induction n2 with
  | zero => intro x2; exact aw_none rfl
  | succ n2 ih2 =>
    intro x2
    rw [jX7_leastOfWeightOne_L2]
    refine aw_iload_n hC dX7_leastOfWeightOne_2 rfl ?_
    refine aw_aload_n hC dX7_leastOfWeightOne_3 rfl ?_
    refine aw_gfI hC dX7_leastOfWeightOne_4 fg_RX7_33 rfl rm_5_0_0 ?_
    refine aw_icmp_ge hC dX7_leastOfWeightOne_7 (tgt := 39) (by decide) ?_ ?_
    · refine aw_iconst hC dX7_leastOfWeightOne_39 (v := -1) (by decide) ?_
      exact aw_iret hC dX7_leastOfWeightOne_40 rfl rfl
    · refine aw_iload_n hC dX7_leastOfWeightOne_10 rfl ?_
      refine aw_bipush hC dX7_leastOfWeightOne_11 (v := 12) (by decide) ?_
      refine aw_icmp_ge hC dX7_leastOfWeightOne_13 (tgt := 39) (by decide) ?_ ?_
      · refine aw_iconst hC dX7_leastOfWeightOne_39 (v := -1) (by decide) ?_
        exact aw_iret hC dX7_leastOfWeightOne_40 rfl rfl
      · refine aw_aload_n hC dX7_leastOfWeightOne_16 rfl ?_
        refine aw_gfR hC dX7_leastOfWeightOne_17 fg_RX7_25 rfl rfl rm_5_0_0 ?_
        refine aw_iload_n hC dX7_leastOfWeightOne_20 rfl ?_
        refine aw_guard rfl (fun g1 => ?_)
        refine aw_iald hC dX7_leastOfWeightOne_21 rm_5_0_5 rfl rfl g1 rfl ?_
        refine aw_iconst hC dX7_leastOfWeightOne_22 (v := 1) (by decide) ?_
        refine aw_icmp_ne hC dX7_leastOfWeightOne_23 (tgt := 33) (by decide) ?_ ?_
        · refine aw_iinc hC dX7_leastOfWeightOne_33 rfl (v := x2 + 1) (by first | rfl | decide) (by decide) ?_
          refine aw_goto hC dX7_leastOfWeightOne_36 (tgt := 2) (by decide) ?_
          refine aw_sub [0, 1, 2] ?_
          exact ih2 (x2 + 1)
        · refine aw_iload_n hC dX7_leastOfWeightOne_26 rfl ?_
          refine aw_iload_n hC dX7_leastOfWeightOne_27 rfl ?_
          refine aw_icmp_eq hC dX7_leastOfWeightOne_28 (tgt := 33) (by decide) ?_ ?_
          · refine aw_iinc hC dX7_leastOfWeightOne_33 rfl (v := x2 + 1) (by first | rfl | decide) (by decide) ?_
            refine aw_goto hC dX7_leastOfWeightOne_36 (tgt := 2) (by decide) ?_
            refine aw_sub [0, 1, 2] ?_
            exact ih2 (x2 + 1)
          · refine aw_iload_n hC dX7_leastOfWeightOne_31 rfl ?_
            exact aw_iret hC dX7_leastOfWeightOne_32 rfl rfl
set_option maxHeartbeats 4000000 in
set_option maxRecDepth 100000 in
theorem A_X7_leastOfWeightOne (l : Launch) (hl0 : l.stackTraces = false) (D : va_G) (loc : Rf → Nat) (cy : Nat → ClassId) (p1 : Int32) (h : HD) : AM l D loc cy yX7_leastOfWeightOne cX7_leastOfWeightOne 3 (some .int) 0 16 [.ref (loc (5, 0, 0)), .int p1] h ((jX7_leastOfWeightOne p1 h).map (fun r => (.inr (some (.int r)), h))) := by
  refine am_start (y := yX7_leastOfWeightOne) (av := [.ref (loc (5, 0, 0)), .int p1]) (nL := 3) (h := h) (RF := fun (r : Option Int32) => r.map (fun r => (.inr (some (.int r)), h))) (x := jX7_leastOfWeightOne p1 h) hl0 (by decide +kernel) rfl ?_
  intro p e R s m below meth c A hC
  unfold jX7_leastOfWeightOne
  refine aw_iconst hC dX7_leastOfWeightOne_0 (v := 0) (by decide) ?_
  refine aw_istore_n hC dX7_leastOfWeightOne_1 (by decide) ?_
  refine aw_sub [0, 1, 2] ?_
  exact L_X7_leastOfWeightOne_2 p1 h  hC FU (0 : Int32)
set_option maxHeartbeats 4000000 in
set_option maxRecDepth 100000 in
theorem A_X7_numberAt (l : Launch) (hl0 : l.stackTraces = false) (D : va_G) (loc : Rf → Nat) (cy : Nat → ClassId) (p1 : Int32) (h : HD) : AM l D loc cy yX7_numberAt cX7_numberAt 2 (some .int) 0 16 [.ref (loc (5, 0, 0)), .int p1] h ((jX7_numberAt p1 h).map (fun r => (.inr (some (.int r)), h))) := by
  refine am_start (y := yX7_numberAt) (av := [.ref (loc (5, 0, 0)), .int p1]) (nL := 2) (h := h) (RF := fun (r : Option Int32) => r.map (fun r => (.inr (some (.int r)), h))) (x := jX7_numberAt p1 h) hl0 (by decide +kernel) rfl ?_
  intro p e R s m below meth c A hC
  unfold jX7_numberAt
  refine aw_iload_n hC dX7_numberAt_0 rfl ?_
  refine aw_if_lt hC dX7_numberAt_1 (tgt := 27) (by decide) ?_ ?_
  · refine aw_iconst hC dX7_numberAt_27 (v := -1) (by decide) ?_
    exact aw_iret hC dX7_numberAt_28 rfl rfl
  · refine aw_iload_n hC dX7_numberAt_4 rfl ?_
    refine aw_aload_n hC dX7_numberAt_5 rfl ?_
    refine aw_gfI hC dX7_numberAt_6 fg_RX7_37 rfl rm_5_0_0 ?_
    refine aw_icmp_ge hC dX7_numberAt_9 (tgt := 27) (by decide) ?_ ?_
    · refine aw_iconst hC dX7_numberAt_27 (v := -1) (by decide) ?_
      exact aw_iret hC dX7_numberAt_28 rfl rfl
    · refine aw_iload_n hC dX7_numberAt_12 rfl ?_
      refine aw_bipush hC dX7_numberAt_13 (v := 11) (by decide) ?_
      refine aw_icmp_ge hC dX7_numberAt_15 (tgt := 27) (by decide) ?_ ?_
      · refine aw_iconst hC dX7_numberAt_27 (v := -1) (by decide) ?_
        exact aw_iret hC dX7_numberAt_28 rfl rfl
      · refine aw_aload_n hC dX7_numberAt_18 rfl ?_
        refine aw_gfR hC dX7_numberAt_19 fg_RX7_9 rfl rfl rm_5_0_0 ?_
        refine aw_iload_n hC dX7_numberAt_22 rfl ?_
        refine aw_guard rfl (fun g1 => ?_)
        refine aw_iald hC dX7_numberAt_23 rm_5_0_1 rfl rfl g1 rfl ?_
        refine aw_goto hC dX7_numberAt_24 (tgt := 28) (by decide) ?_
        exact aw_iret hC dX7_numberAt_28 rfl rfl
set_option maxHeartbeats 4000000 in
set_option maxRecDepth 100000 in
theorem A_X7_join (l : Launch) (hl0 : l.stackTraces = false) (D : va_G) (loc : Rf → Nat) (cy : Nat → ClassId) (p1 : Int32) (p2 : Int32) (h : HD) : AM l D loc cy yX7_join cX7_join 3 (none) 1 37 [.ref (loc (5, 0, 0)), .int p1, .int p2] h ((jX7_join p1 p2 h).map (fun r => (.inr (none), r))) := by
  refine am_start (y := yX7_join) (av := [.ref (loc (5, 0, 0)), .int p1, .int p2]) (nL := 3) (h := h) (RF := fun (r : Option HD) => r.map (fun r => (.inr (none), r))) (x := jX7_join p1 p2 h) hl0 (by decide +kernel) rfl ?_
  intro p e R s m below meth c A hC
  unfold jX7_join
  refine aw_aload_n hC dX7_join_0 rfl ?_
  refine aw_iload_n hC dX7_join_1 rfl ?_
  refine aw_cVb hC dX7_join_2 cv_RX7_66 rfl rm_5_0_0 (A_X7_isNode _ (hC.2.2.2.2.2.2.2.2.2.2.2.2.1) _ _ _ p1 h) rfl rfl rfl rfl rfl ⟨rfl, rfl⟩ ?_
  refine aw_if_eq_b hC dX7_join_5 (tgt := 72) (by decide) ?_ ?_
  · exact aw_vret hC dX7_join_72 rfl rfl
  · refine aw_aload_n hC dX7_join_8 rfl ?_
    refine aw_iload_n hC dX7_join_9 rfl ?_
    refine aw_cVb hC dX7_join_10 cv_RX7_66 rfl rm_5_0_0 (A_X7_isNode _ (hC.2.2.2.2.2.2.2.2.2.2.2.2.1) _ _ _ p2 h) rfl rfl rfl rfl rfl ⟨rfl, rfl⟩ ?_
    refine aw_if_eq_b hC dX7_join_13 (tgt := 72) (by decide) ?_ ?_
    · exact aw_vret hC dX7_join_72 rfl rfl
    · refine aw_aload_n hC dX7_join_16 rfl ?_
      refine aw_gfI hC dX7_join_17 fg_RX7_40 rfl rm_5_0_0 ?_
      refine aw_bipush hC dX7_join_20 (v := 11) (by decide) ?_
      refine aw_icmp_ge hC dX7_join_22 (tgt := 72) (by decide) ?_ ?_
      · exact aw_vret hC dX7_join_72 rfl rfl
      · refine aw_aload_n hC dX7_join_25 rfl ?_
        refine aw_gfR hC dX7_join_26 fg_RX7_15 rfl rfl rm_5_0_0 ?_
        refine aw_aload_n hC dX7_join_29 rfl ?_
        refine aw_gfI hC dX7_join_30 fg_RX7_40 rfl rm_5_0_0 ?_
        refine aw_iload_n hC dX7_join_33 rfl ?_
        refine aw_guard rfl (fun g2 => ?_)
        refine aw_iast hC dX7_join_34 rm_5_0_2 rfl rfl g2 rfl (fun h1 => ?_)
        refine aw_aload_n hC dX7_join_35 rfl ?_
        refine aw_gfR hC dX7_join_36 fg_RX7_18 rfl rfl rm_5_0_0 ?_
        refine aw_aload_n hC dX7_join_39 rfl ?_
        refine aw_gfI hC dX7_join_40 fg_RX7_40 rfl rm_5_0_0 ?_
        refine aw_iload_n hC dX7_join_43 rfl ?_
        refine aw_guard rfl (fun g4 => ?_)
        refine aw_iast hC dX7_join_44 rm_5_0_3 rfl rfl g4 rfl (fun h3 => ?_)
        refine aw_aload_n hC dX7_join_45 rfl ?_
        refine aw_dup hC dX7_join_46 rfl ?_
        refine aw_gfI hC dX7_join_47 fg_RX7_40 rfl rm_5_0_0 ?_
        refine aw_iconst hC dX7_join_50 (v := 1) (by decide) ?_
        refine aw_iadd hC dX7_join_51 ?_
        refine aw_pfI hC dX7_join_52 fg_RX7_40 fp_5_8 rfl rm_5_0_0 (fun h5 => ?_)
        refine aw_aload_n hC dX7_join_55 rfl ?_
        refine aw_gfR hC dX7_join_56 fg_RX7_25 rfl rfl rm_5_0_0 ?_
        refine aw_iload_n hC dX7_join_59 rfl ?_
        refine aw_iconst hC dX7_join_60 (v := 0) (by decide) ?_
        refine aw_guard rfl (fun g7 => ?_)
        refine aw_iast hC dX7_join_61 rm_5_0_5 rfl rfl g7 rfl (fun h6 => ?_)
        refine aw_aload_n hC dX7_join_62 rfl ?_
        refine aw_gfR hC dX7_join_63 fg_RX7_25 rfl rfl rm_5_0_0 ?_
        refine aw_iload_n hC dX7_join_66 rfl ?_
        refine aw_dup2 hC dX7_join_67 rfl rfl ?_
        refine aw_guard rfl (fun g8 => ?_)
        refine aw_iald hC dX7_join_68 rm_5_0_5 rfl rfl g8 rfl ?_
        refine aw_iconst hC dX7_join_69 (v := 1) (by decide) ?_
        refine aw_isub hC dX7_join_70 ?_
        refine aw_guard rfl (fun g10 => ?_)
        refine aw_iast hC dX7_join_71 rm_5_0_5 rfl rfl g10 rfl (fun h9 => ?_)
        exact aw_vret hC dX7_join_72 rfl rfl
set_option maxHeartbeats 4000000 in
set_option maxRecDepth 100000 in
theorem L_X7_grow_45 (r1 : Nat) (hr1 : r1 < 10) (k111 : HD → Option HD) (hC : Cx p l e R s m args meth c D loc cy A cX7_grow 4 (none) RX7 2 59 0 0) (hk111 : ∀  (h2 : HD), AW p l e R s m args below meth c D loc cy A 4 (QM below D loc cy A args s) (fun (r : Option HD) => r.map (fun r => (.inr (none), r))) (0, 0) 111 [(0, .ref (loc (5, 0, 0)))] [] h2 (k111  h2)) : ∀ (n45 : Nat) (x2 : Int32) (h : HD), AW p l e R s m args below meth c D loc cy A 4 (QM below D loc cy A args s) (fun (r : Option HD) => r.map (fun r => (.inr (none), r))) (0, 0) 45 [(0, .ref (loc (5, 0, 0))), (1, .ref (loc (1, r1, 0))), (2, .int x2)] [] h (jX7_grow_L45 r1 k111 n45 x2 h) := by
  intro n45
  induction n45 with
  | zero => intro x2 h; exact aw_none rfl
  | succ n45 ih45 =>
    intro x2 h
    rw [jX7_grow_L45]
    refine aw_iload_n hC dX7_grow_45 rfl ?_
    refine aw_aload_n hC dX7_grow_46 rfl ?_
    refine aw_gfI hC dX7_grow_47 fg_RX7_37 rfl rm_5_0_0 ?_
    refine aw_icmp_ge hC dX7_grow_50 (tgt := 111) (by decide) ?_ ?_
    · refine aw_sub [0] ?_
      exact hk111 h
    · refine aw_iload_n hC dX7_grow_53 rfl ?_
      refine aw_bipush hC dX7_grow_54 (v := 11) (by decide) ?_
      refine aw_icmp_ge hC dX7_grow_56 (tgt := 111) (by decide) ?_ ?_
      · refine aw_sub [0] ?_
        exact hk111 h
      · refine aw_aload_n hC dX7_grow_59 rfl ?_
        refine aw_iload_n hC dX7_grow_60 rfl ?_
        refine aw_iconst hC dX7_grow_61 (v := 1) (by decide) ?_
        refine aw_iadd hC dX7_grow_62 ?_
        refine aw_bind rfl (fun q5 hq5 => ?_)
        refine aw_cVi hC dX7_grow_63 cv_RX7_58 rfl (rv_1_0 hr1) (am_some (inj := (fun r => (.inr (some (.int r)), h))) hq5 (A_X2_preferenceOf _ (hC.2.2.2.2.2.2.2.2.2.2.2.2.1) _ _ _ r1 hr1 (x2 + (1 : Int32)) h)) rfl rfl rfl rfl rfl ⟨rfl, rfl⟩ ?_
        refine aw_aload_n hC dX7_grow_66 rfl ?_
        refine aw_iload_n hC dX7_grow_67 rfl ?_
        refine aw_bind rfl (fun q6 hq6 => ?_)
        refine aw_cVi hC dX7_grow_68 cv_RX7_58 rfl (rv_1_0 hr1) (am_some (inj := (fun r => (.inr (some (.int r)), h))) hq6 (A_X2_preferenceOf _ (hC.2.2.2.2.2.2.2.2.2.2.2.2.1) _ _ _ r1 hr1 x2 h)) rfl rfl rfl rfl rfl ⟨rfl, rfl⟩ ?_
        refine aw_isub hC dX7_grow_71 ?_
        refine aw_aload_n hC dX7_grow_72 rfl ?_
        refine aw_gfI hC dX7_grow_73 fg_RX7_33 rfl rm_5_0_0 ?_
        refine aw_bind rfl (fun q7 hq7 => ?_)
        refine aw_cNi hC dX7_grow_76 cv_RX7_62 (am_some (inj := (fun r => (.inr (some (.int r)), h))) hq7 (A_X8_wrapped _ (hC.2.2.2.2.2.2.2.2.2.2.2.2.1) _ _ _ (q5 - q6) (gI h (5, 0, 0) 6) h)) rfl rfl rfl rfl rfl ⟨rfl, rfl⟩ ?_
        refine aw_istore_n hC dX7_grow_79 (by decide) ?_
        refine aw_aload_n hC dX7_grow_80 rfl ?_
        refine aw_gfR hC dX7_grow_81 fg_RX7_9 rfl rfl rm_5_0_0 ?_
        refine aw_iload_n hC dX7_grow_84 rfl ?_
        refine aw_iload_n hC dX7_grow_85 rfl ?_
        refine aw_guard rfl (fun g9 => ?_)
        refine aw_iast hC dX7_grow_86 rm_5_0_1 rfl rfl g9 rfl (fun h8 => ?_)
        refine aw_aload_n hC dX7_grow_87 rfl ?_
        refine aw_iload_n hC dX7_grow_88 rfl ?_
        refine aw_cVb hC dX7_grow_89 cv_RX7_66 rfl rm_5_0_0 (A_X7_isNode _ (hC.2.2.2.2.2.2.2.2.2.2.2.2.1) _ _ _ q7 h8) rfl rfl rfl rfl rfl ⟨rfl, rfl⟩ ?_
        refine aw_if_eq_b hC dX7_grow_92 (tgt := 105) (by decide) ?_ ?_
        · refine aw_iinc hC dX7_grow_105 rfl (v := x2 + 1) (by first | rfl | decide) (by decide) ?_
          refine aw_goto hC dX7_grow_108 (tgt := 45) (by decide) ?_
          refine aw_sub [0, 1, 2] ?_
          exact ih45 (x2 + 1) h8
        · refine aw_aload_n hC dX7_grow_95 rfl ?_
          refine aw_gfR hC dX7_grow_96 fg_RX7_25 rfl rfl rm_5_0_0 ?_
          refine aw_iload_n hC dX7_grow_99 rfl ?_
          refine aw_dup2 hC dX7_grow_100 rfl rfl ?_
          refine aw_guard rfl (fun g10 => ?_)
          refine aw_iald hC dX7_grow_101 rm_5_0_5 rfl rfl g10 rfl ?_
          refine aw_iconst hC dX7_grow_102 (v := 1) (by decide) ?_
          refine aw_iadd hC dX7_grow_103 ?_
          refine aw_guard rfl (fun g12 => ?_)
          refine aw_iast hC dX7_grow_104 rm_5_0_5 rfl rfl g12 rfl (fun h11 => ?_)
          refine aw_iinc hC dX7_grow_105 rfl (v := x2 + 1) (by first | rfl | decide) (by decide) ?_
          refine aw_goto hC dX7_grow_108 (tgt := 45) (by decide) ?_
          refine aw_sub [0, 1, 2] ?_
          exact ih45 (x2 + 1) h11
set_option maxHeartbeats 4000000 in
set_option maxRecDepth 100000 in
theorem L_X7_grow_113 (r1 : Nat) (hr1 : r1 < 10) (k141 : HD → Option HD) (hC : Cx p l e R s m args meth c D loc cy A cX7_grow 4 (none) RX7 2 59 0 0) (hk141 : ∀  (h2 : HD), AW p l e R s m args below meth c D loc cy A 4 (QM below D loc cy A args s) (fun (r : Option HD) => r.map (fun r => (.inr (none), r))) (0, 0) 141 [(0, .ref (loc (5, 0, 0)))] [] h2 (k141  h2)) : ∀ (n113 : Nat) (x2 : Int32) (h : HD), AW p l e R s m args below meth c D loc cy A 4 (QM below D loc cy A args s) (fun (r : Option HD) => r.map (fun r => (.inr (none), r))) (0, 0) 113 [(0, .ref (loc (5, 0, 0))), (2, .int x2)] [] h (jX7_grow_L113 r1 k141 n113 x2 h) := by
  intro n113
  induction n113 with
  | zero => intro x2 h; exact aw_none rfl
  | succ n113 ih113 =>
    intro x2 h
    rw [jX7_grow_L113]
    refine aw_iload_n hC dX7_grow_113 rfl ?_
    refine aw_aload_n hC dX7_grow_114 rfl ?_
    refine aw_gfI hC dX7_grow_115 fg_RX7_37 rfl rm_5_0_0 ?_
    refine aw_icmp_ge hC dX7_grow_118 (tgt := 141) (by decide) ?_ ?_
    · refine aw_sub [0] ?_
      exact hk141 h
    · refine aw_aload_n hC dX7_grow_121 rfl ?_
      refine aw_aload_n hC dX7_grow_122 rfl ?_
      refine aw_iconst hC dX7_grow_123 (v := -1) (by decide) ?_
      refine aw_bind rfl (fun q14 hq14 => ?_)
      refine aw_cVi hC dX7_grow_124 cv_RX7_70 rfl rm_5_0_0 (am_some (inj := (fun r => (.inr (some (.int r)), h))) hq14 (A_X7_leastOfWeightOne _ (hC.2.2.2.2.2.2.2.2.2.2.2.2.1) _ _ _ (-1 : Int32) h)) rfl rfl rfl rfl rfl ⟨rfl, rfl⟩ ?_
      refine aw_aload_n hC dX7_grow_127 rfl ?_
      refine aw_iload_n hC dX7_grow_128 rfl ?_
      refine aw_bind rfl (fun q15 hq15 => ?_)
      refine aw_cVi hC dX7_grow_129 cv_RX7_73 rfl rm_5_0_0 (am_some (inj := (fun r => (.inr (some (.int r)), h))) hq15 (A_X7_numberAt _ (hC.2.2.2.2.2.2.2.2.2.2.2.2.1) _ _ _ x2 h)) rfl rfl rfl rfl rfl ⟨rfl, rfl⟩ ?_
      refine aw_bind rfl (fun q16 hq16 => ?_)
      refine aw_cVv hC dX7_grow_132 cv_RX7_76 rfl rm_5_0_0 (am_some (inj := (fun r => (.inr (none), r))) hq16 (A_X7_join _ (hC.2.2.2.2.2.2.2.2.2.2.2.2.1) _ _ _ q14 q15 h)) rfl rfl rfl rfl rfl ⟨rfl, rfl⟩ ?_
      refine aw_iinc hC dX7_grow_135 rfl (v := x2 + 1) (by first | rfl | decide) (by decide) ?_
      refine aw_goto hC dX7_grow_138 (tgt := 113) (by decide) ?_
      refine aw_sub [0, 2] ?_
      exact ih113 (x2 + 1) q16
set_option maxHeartbeats 4000000 in
set_option maxRecDepth 100000 in
theorem A_X7_grow (l : Launch) (hl0 : l.stackTraces = false) (D : va_G) (loc : Rf → Nat) (cy : Nat → ClassId) (r1 : Nat) (hr1 : r1 < 10) (h : HD) : AM l D loc cy yX7_grow cX7_grow 4 (none) 2 59 [.ref (loc (5, 0, 0)), .ref (loc (1, r1, 0))] h ((jX7_grow r1 h).map (fun r => (.inr (none), r))) := by
  refine am_start (y := yX7_grow) (av := [.ref (loc (5, 0, 0)), .ref (loc (1, r1, 0))]) (nL := 4) (h := h) (RF := fun (r : Option HD) => r.map (fun r => (.inr (none), r))) (x := jX7_grow r1 h) hl0 (by decide +kernel) rfl ?_
  intro p e R s m below meth c A hC
  unfold jX7_grow
  refine aw_aload_n hC dX7_grow_0 rfl ?_
  refine aw_aload_n hC dX7_grow_1 rfl ?_
  refine aw_cVi hC dX7_grow_2 cv_RX7_43 rfl (rv_1_0 hr1) (A_X2_spots _ (hC.2.2.2.2.2.2.2.2.2.2.2.2.1) _ _ _ r1 hr1 h) rfl rfl rfl rfl rfl ⟨rfl, rfl⟩ ?_
  refine aw_pfI hC dX7_grow_5 fg_RX7_33 fp_5_6 rfl rm_5_0_0 (fun h1 => ?_)
  refine aw_aload_n hC dX7_grow_8 rfl ?_
  refine aw_aload_n hC dX7_grow_9 rfl ?_
  refine aw_cVi hC dX7_grow_10 cv_RX7_49 rfl (rv_1_0 hr1) (A_X2_count _ (hC.2.2.2.2.2.2.2.2.2.2.2.2.1) _ _ _ r1 hr1 h1) rfl rfl rfl rfl rfl ⟨rfl, rfl⟩ ?_
  refine aw_iconst hC dX7_grow_13 (v := 1) (by decide) ?_
  refine aw_icmp_le hC dX7_grow_14 (tgt := 26) (by decide) ?_ ?_
  · refine aw_iconst hC dX7_grow_26 (v := 0) (by decide) ?_
    refine aw_pfI hC dX7_grow_27 fg_RX7_37 fp_5_7 rfl rm_5_0_0 (fun h2 => ?_)
    refine aw_aload_n hC dX7_grow_30 rfl ?_
    refine aw_iconst hC dX7_grow_31 (v := 0) (by decide) ?_
    refine aw_pfI hC dX7_grow_32 fg_RX7_40 fp_5_8 rfl rm_5_0_0 (fun h3 => ?_)
    refine aw_aload_n hC dX7_grow_35 rfl ?_
    refine aw_gfR hC dX7_grow_36 fg_RX7_25 rfl rfl rm_5_0_0 ?_
    refine aw_iconst hC dX7_grow_39 (v := 1) (by decide) ?_
    refine aw_bind rfl (fun q4 hq4 => ?_)
    refine aw_cSv hC dX7_grow_40 cv_RX7_52 (am_some (inj := (fun r => (.inr (none), r))) hq4 (A_J7_fill_53178 _ (hC.2.2.2.2.2.2.2.2.2.2.2.2.1) _ _ _ (5, 0, 5) rm_5_0_5 rfl rfl (1 : Int32) h3)) rfl rfl rfl rfl rfl ⟨rfl, rfl⟩ ?_
    refine aw_iconst hC dX7_grow_43 (v := 0) (by decide) ?_
    refine aw_istore_n hC dX7_grow_44 (by decide) ?_
    refine aw_sub [0, 1, 2] ?_
    refine L_X7_grow_45 r1 hr1 _ hC ?_ FU (0 : Int32) q4
    · intro h13
      refine aw_iconst hC dX7_grow_111 (v := 0) (by decide) ?_
      refine aw_istore_n hC dX7_grow_112 (by decide) ?_
      refine aw_sub [0, 2] ?_
      refine L_X7_grow_113 r1 hr1 _ hC ?_ FU (0 : Int32) h13
      · intro h17
        refine aw_aload_n hC dX7_grow_141 rfl ?_
        refine aw_iconst hC dX7_grow_142 (v := -1) (by decide) ?_
        refine aw_bind rfl (fun q18 hq18 => ?_)
        refine aw_cVi hC dX7_grow_143 cv_RX7_70 rfl rm_5_0_0 (am_some (inj := (fun r => (.inr (some (.int r)), h17))) hq18 (A_X7_leastOfWeightOne _ (hC.2.2.2.2.2.2.2.2.2.2.2.2.1) _ _ _ (-1 : Int32) h17)) rfl rfl rfl rfl rfl ⟨rfl, rfl⟩ ?_
        refine aw_istore_n hC dX7_grow_146 (by decide) ?_
        refine aw_aload_n hC dX7_grow_147 rfl ?_
        refine aw_iload_n hC dX7_grow_148 rfl ?_
        refine aw_aload_n hC dX7_grow_149 rfl ?_
        refine aw_iload_n hC dX7_grow_150 rfl ?_
        refine aw_bind rfl (fun q19 hq19 => ?_)
        refine aw_cVi hC dX7_grow_151 cv_RX7_70 rfl rm_5_0_0 (am_some (inj := (fun r => (.inr (some (.int r)), h17))) hq19 (A_X7_leastOfWeightOne _ (hC.2.2.2.2.2.2.2.2.2.2.2.2.1) _ _ _ q18 h17)) rfl rfl rfl rfl rfl ⟨rfl, rfl⟩ ?_
        refine aw_bind rfl (fun q20 hq20 => ?_)
        refine aw_cVv hC dX7_grow_154 cv_RX7_76 rfl rm_5_0_0 (am_some (inj := (fun r => (.inr (none), r))) hq20 (A_X7_join _ (hC.2.2.2.2.2.2.2.2.2.2.2.2.1) _ _ _ q18 q19 h17)) rfl rfl rfl rfl rfl ⟨rfl, rfl⟩ ?_
        exact aw_vret hC dX7_grow_157 rfl rfl
  · refine aw_aload_n hC dX7_grow_17 rfl ?_
    refine aw_cVi hC dX7_grow_18 cv_RX7_49 rfl (rv_1_0 hr1) (A_X2_count _ (hC.2.2.2.2.2.2.2.2.2.2.2.2.1) _ _ _ r1 hr1 h1) rfl rfl rfl rfl rfl ⟨rfl, rfl⟩ ?_
    refine aw_iconst hC dX7_grow_21 (v := 1) (by decide) ?_
    refine aw_isub hC dX7_grow_22 ?_
    refine aw_goto hC dX7_grow_23 (tgt := 27) (by decide) ?_
    refine aw_pfI hC dX7_grow_27 fg_RX7_37 fp_5_7 rfl rm_5_0_0 (fun h21 => ?_)
    refine aw_aload_n hC dX7_grow_30 rfl ?_
    refine aw_iconst hC dX7_grow_31 (v := 0) (by decide) ?_
    refine aw_pfI hC dX7_grow_32 fg_RX7_40 fp_5_8 rfl rm_5_0_0 (fun h22 => ?_)
    refine aw_aload_n hC dX7_grow_35 rfl ?_
    refine aw_gfR hC dX7_grow_36 fg_RX7_25 rfl rfl rm_5_0_0 ?_
    refine aw_iconst hC dX7_grow_39 (v := 1) (by decide) ?_
    refine aw_bind rfl (fun q23 hq23 => ?_)
    refine aw_cSv hC dX7_grow_40 cv_RX7_52 (am_some (inj := (fun r => (.inr (none), r))) hq23 (A_J7_fill_53178 _ (hC.2.2.2.2.2.2.2.2.2.2.2.2.1) _ _ _ (5, 0, 5) rm_5_0_5 rfl rfl (1 : Int32) h22)) rfl rfl rfl rfl rfl ⟨rfl, rfl⟩ ?_
    refine aw_iconst hC dX7_grow_43 (v := 0) (by decide) ?_
    refine aw_istore_n hC dX7_grow_44 (by decide) ?_
    refine aw_sub [0, 1, 2] ?_
    refine L_X7_grow_45 r1 hr1 _ hC ?_ FU (0 : Int32) q23
    · intro h32
      refine aw_iconst hC dX7_grow_111 (v := 0) (by decide) ?_
      refine aw_istore_n hC dX7_grow_112 (by decide) ?_
      refine aw_sub [0, 2] ?_
      refine L_X7_grow_113 r1 hr1 _ hC ?_ FU (0 : Int32) h32
      · intro h36
        refine aw_aload_n hC dX7_grow_141 rfl ?_
        refine aw_iconst hC dX7_grow_142 (v := -1) (by decide) ?_
        refine aw_bind rfl (fun q37 hq37 => ?_)
        refine aw_cVi hC dX7_grow_143 cv_RX7_70 rfl rm_5_0_0 (am_some (inj := (fun r => (.inr (some (.int r)), h36))) hq37 (A_X7_leastOfWeightOne _ (hC.2.2.2.2.2.2.2.2.2.2.2.2.1) _ _ _ (-1 : Int32) h36)) rfl rfl rfl rfl rfl ⟨rfl, rfl⟩ ?_
        refine aw_istore_n hC dX7_grow_146 (by decide) ?_
        refine aw_aload_n hC dX7_grow_147 rfl ?_
        refine aw_iload_n hC dX7_grow_148 rfl ?_
        refine aw_aload_n hC dX7_grow_149 rfl ?_
        refine aw_iload_n hC dX7_grow_150 rfl ?_
        refine aw_bind rfl (fun q38 hq38 => ?_)
        refine aw_cVi hC dX7_grow_151 cv_RX7_70 rfl rm_5_0_0 (am_some (inj := (fun r => (.inr (some (.int r)), h36))) hq38 (A_X7_leastOfWeightOne _ (hC.2.2.2.2.2.2.2.2.2.2.2.2.1) _ _ _ q37 h36)) rfl rfl rfl rfl rfl ⟨rfl, rfl⟩ ?_
        refine aw_bind rfl (fun q39 hq39 => ?_)
        refine aw_cVv hC dX7_grow_154 cv_RX7_76 rfl rm_5_0_0 (am_some (inj := (fun r => (.inr (none), r))) hq39 (A_X7_join _ (hC.2.2.2.2.2.2.2.2.2.2.2.2.1) _ _ _ q37 q38 h36)) rfl rfl rfl rfl rfl ⟨rfl, rfl⟩ ?_
        exact aw_vret hC dX7_grow_157 rfl rfl
set_option maxHeartbeats 4000000 in
set_option maxRecDepth 100000 in
theorem A_X8_grown (l : Launch) (hl0 : l.stackTraces = false) (D : va_G) (loc : Rf → Nat) (cy : Nat → ClassId)  (h : HD) : AM l D loc cy yX8_grown cX8_grown 1 (some (.object "ParkingCircle$Tree")) 3 82 [.ref (loc (6, 0, 0))] h ((jX8_grown h).map (fun r => (.inr (some (.ref (loc (5, 0, 0)))), r))) := by
  refine am_start (y := yX8_grown) (av := [.ref (loc (6, 0, 0))]) (nL := 1) (h := h) (RF := fun (r : Option HD) => r.map (fun r => (.inr (some (.ref (loc (5, 0, 0)))), r))) (x := jX8_grown h) hl0 (by decide +kernel) rfl ?_
  intro p e R s m below meth c A hC
  unfold jX8_grown
  refine aw_aload_n hC dX8_grown_0 rfl ?_
  refine aw_gfR hC dX8_grown_1 fg_RX8_72 rfl rfl rm_6_0_0 ?_
  refine aw_aload_n hC dX8_grown_4 rfl ?_
  refine aw_gfR hC dX8_grown_5 fg_RX8_42 rfl rfl rm_6_0_0 ?_
  refine aw_bind rfl (fun q1 hq1 => ?_)
  refine aw_cVv hC dX8_grown_8 cv_RX8_397 rfl rm_5_0_0 (am_some (inj := (fun r => (.inr (none), r))) hq1 (A_X7_grow _ (hC.2.2.2.2.2.2.2.2.2.2.2.2.1) _ _ _ 0 (by decide) h)) rfl rfl rfl rfl rfl ⟨rfl, rfl⟩ ?_
  refine aw_aload_n hC dX8_grown_11 rfl ?_
  refine aw_gfR hC dX8_grown_12 fg_RX8_72 rfl rfl rm_6_0_0 ?_
  exact aw_aret hC dX8_grown_15 rfl (Or.inl ⟨_, rfl⟩) (Or.inr ⟨_, rfl⟩) rfl
set_option maxHeartbeats 4000000 in
set_option maxRecDepth 100000 in
theorem A_X8_code (l : Launch) (hl0 : l.stackTraces = false) (D : va_G) (loc : Rf → Nat) (cy : Nat → ClassId) (p1 : Int32) (h : HD) : AM l D loc cy yX8_code cX8_code 2 (some .int) 4 102 [.ref (loc (6, 0, 0)), .int p1] h ((jX8_code p1 h).map (fun r => (.inr (some (.int r.1)), r.2))) := by
  refine am_start (y := yX8_code) (av := [.ref (loc (6, 0, 0)), .int p1]) (nL := 2) (h := h) (RF := fun (r : Option (Int32 × HD)) => r.map (fun r => (.inr (some (.int r.1)), r.2))) (x := jX8_code p1 h) hl0 (by decide +kernel) rfl ?_
  intro p e R s m below meth c A hC
  unfold jX8_code
  refine aw_aload_n hC dX8_code_0 rfl ?_
  refine aw_bind rfl (fun q1 hq1 => ?_)
  refine aw_cVr hC dX8_code_1 cv_RX8_366 rfl rm_6_0_0 (am_some (inj := (fun r => (.inr (some (.ref (loc (5, 0, 0)))), r))) hq1 (A_X8_grown _ (hC.2.2.2.2.2.2.2.2.2.2.2.2.1) _ _ _ h)) rfl rfl rfl rfl rfl ⟨rfl, rfl⟩ ?_
  refine aw_iload_n hC dX8_code_4 rfl ?_
  refine aw_bind rfl (fun q2 hq2 => ?_)
  refine aw_cVi hC dX8_code_5 cv_RX8_370 rfl rm_5_0_0 (am_some (inj := (fun r => (.inr (some (.int r)), q1))) hq2 (A_X7_numberAt _ (hC.2.2.2.2.2.2.2.2.2.2.2.2.1) _ _ _ p1 q1)) rfl rfl rfl rfl rfl ⟨rfl, rfl⟩ ?_
  exact aw_iret hC dX8_code_8 rfl rfl
set_option maxHeartbeats 4000000 in
set_option maxRecDepth 100000 in
theorem A_X7_isEdge (l : Launch) (hl0 : l.stackTraces = false) (D : va_G) (loc : Rf → Nat) (cy : Nat → ClassId) (p1 : Int32) (h : HD) : AM l D loc cy yX7_isEdge cX7_isEdge 2 (some .boolean) 0 16 [.ref (loc (5, 0, 0)), .int p1] h (some (.inr (some (.int (b2i (jX7_isEdge p1 h)))), h)) := by
  refine am_start (y := yX7_isEdge) (av := [.ref (loc (5, 0, 0)), .int p1]) (nL := 2) (h := h) (RF := fun (r : Bool) => some (.inr (some (.int (b2i r))), h)) (x := jX7_isEdge p1 h) hl0 (by decide +kernel) rfl ?_
  intro p e R s m below meth c A hC
  unfold jX7_isEdge
  refine aw_iload_n hC dX7_isEdge_0 rfl ?_
  refine aw_if_lt hC dX7_isEdge_1 (tgt := 22) (by decide) ?_ ?_
  · refine aw_iconst hC dX7_isEdge_22 (v := 0) (by decide) ?_
    exact aw_zret hC dX7_isEdge_23 rfl (show _ = b2i false from rfl) rfl
  · refine aw_iload_n hC dX7_isEdge_4 rfl ?_
    refine aw_aload_n hC dX7_isEdge_5 rfl ?_
    refine aw_gfI hC dX7_isEdge_6 fg_RX7_40 rfl rm_5_0_0 ?_
    refine aw_icmp_ge hC dX7_isEdge_9 (tgt := 22) (by decide) ?_ ?_
    · refine aw_iconst hC dX7_isEdge_22 (v := 0) (by decide) ?_
      exact aw_zret hC dX7_isEdge_23 rfl (show _ = b2i false from rfl) rfl
    · refine aw_iload_n hC dX7_isEdge_12 rfl ?_
      refine aw_bipush hC dX7_isEdge_13 (v := 11) (by decide) ?_
      refine aw_icmp_ge hC dX7_isEdge_15 (tgt := 22) (by decide) ?_ ?_
      · refine aw_iconst hC dX7_isEdge_22 (v := 0) (by decide) ?_
        exact aw_zret hC dX7_isEdge_23 rfl (show _ = b2i false from rfl) rfl
      · refine aw_iconst hC dX7_isEdge_18 (v := 1) (by decide) ?_
        refine aw_goto hC dX7_isEdge_19 (tgt := 23) (by decide) ?_
        exact aw_zret hC dX7_isEdge_23 rfl (show _ = b2i true from rfl) rfl
set_option maxHeartbeats 4000000 in
set_option maxRecDepth 100000 in
theorem A_X7_edgeAt (l : Launch) (hl0 : l.stackTraces = false) (D : va_G) (loc : Rf → Nat) (cy : Nat → ClassId) (p1 : Int32) (h : HD) : AM l D loc cy yX7_edgeAt cX7_edgeAt 2 (some .int) 1 64 [.ref (loc (5, 0, 0)), .int p1] h ((jX7_edgeAt p1 h).map (fun r => (.inr (some (.int r)), h))) := by
  refine am_start (y := yX7_edgeAt) (av := [.ref (loc (5, 0, 0)), .int p1]) (nL := 2) (h := h) (RF := fun (r : Option Int32) => r.map (fun r => (.inr (some (.int r)), h))) (x := jX7_edgeAt p1 h) hl0 (by decide +kernel) rfl ?_
  intro p e R s m below meth c A hC
  unfold jX7_edgeAt
  refine aw_aload_n hC dX7_edgeAt_0 rfl ?_
  refine aw_iload_n hC dX7_edgeAt_1 rfl ?_
  refine aw_cVb hC dX7_edgeAt_2 cv_RX7_80 rfl rm_5_0_0 (A_X7_isEdge _ (hC.2.2.2.2.2.2.2.2.2.2.2.2.1) _ _ _ p1 h) rfl rfl rfl rfl rfl ⟨rfl, rfl⟩ ?_
  refine aw_if_ne_b hC dX7_edgeAt_5 (tgt := 10) (by decide) ?_ ?_
  · refine aw_bipush hC dX7_edgeAt_10 (v := 100) (by decide) ?_
    refine aw_aload_n hC dX7_edgeAt_12 rfl ?_
    refine aw_gfR hC dX7_edgeAt_13 fg_RX7_15 rfl rfl rm_5_0_0 ?_
    refine aw_iload_n hC dX7_edgeAt_16 rfl ?_
    refine aw_guard rfl (fun g1 => ?_)
    refine aw_iald hC dX7_edgeAt_17 rm_5_0_2 rfl rfl g1 rfl ?_
    refine aw_aload_n hC dX7_edgeAt_18 rfl ?_
    refine aw_gfR hC dX7_edgeAt_19 fg_RX7_18 rfl rfl rm_5_0_0 ?_
    refine aw_iload_n hC dX7_edgeAt_22 rfl ?_
    refine aw_guard rfl (fun g2 => ?_)
    refine aw_iald hC dX7_edgeAt_23 rm_5_0_3 rfl rfl g2 rfl ?_
    refine aw_mmin hC dX7_edgeAt_24 tw3_16 tw3_17 tw1_22 tw3_18 rfl rfl ⟨rfl, rfl⟩ ?_
    refine aw_imul hC dX7_edgeAt_27 ?_
    refine aw_aload_n hC dX7_edgeAt_28 rfl ?_
    refine aw_gfR hC dX7_edgeAt_29 fg_RX7_15 rfl rfl rm_5_0_0 ?_
    refine aw_iload_n hC dX7_edgeAt_32 rfl ?_
    refine aw_guard rfl (fun g3 => ?_)
    refine aw_iald hC dX7_edgeAt_33 rm_5_0_2 rfl rfl g3 rfl ?_
    refine aw_aload_n hC dX7_edgeAt_34 rfl ?_
    refine aw_gfR hC dX7_edgeAt_35 fg_RX7_18 rfl rfl rm_5_0_0 ?_
    refine aw_iload_n hC dX7_edgeAt_38 rfl ?_
    refine aw_guard rfl (fun g4 => ?_)
    refine aw_iald hC dX7_edgeAt_39 rm_5_0_3 rfl rfl g4 rfl ?_
    refine aw_mmax hC dX7_edgeAt_40 tw3_19 tw3_20 tw1_22 tw3_21 rfl rfl ⟨rfl, rfl⟩ ?_
    refine aw_iadd hC dX7_edgeAt_43 ?_
    exact aw_iret hC dX7_edgeAt_44 rfl rfl
  · refine aw_iconst hC dX7_edgeAt_8 (v := -1) (by decide) ?_
    exact aw_iret hC dX7_edgeAt_9 rfl rfl
set_option maxHeartbeats 4000000 in
set_option maxRecDepth 100000 in
theorem A_X8_edge (l : Launch) (hl0 : l.stackTraces = false) (D : va_G) (loc : Rf → Nat) (cy : Nat → ClassId) (p1 : Int32) (h : HD) : AM l D loc cy yX8_edge cX8_edge 2 (some .int) 4 102 [.ref (loc (6, 0, 0)), .int p1] h ((jX8_edge p1 h).map (fun r => (.inr (some (.int r.1)), r.2))) := by
  refine am_start (y := yX8_edge) (av := [.ref (loc (6, 0, 0)), .int p1]) (nL := 2) (h := h) (RF := fun (r : Option (Int32 × HD)) => r.map (fun r => (.inr (some (.int r.1)), r.2))) (x := jX8_edge p1 h) hl0 (by decide +kernel) rfl ?_
  intro p e R s m below meth c A hC
  unfold jX8_edge
  refine aw_aload_n hC dX8_edge_0 rfl ?_
  refine aw_bind rfl (fun q1 hq1 => ?_)
  refine aw_cVr hC dX8_edge_1 cv_RX8_366 rfl rm_6_0_0 (am_some (inj := (fun r => (.inr (some (.ref (loc (5, 0, 0)))), r))) hq1 (A_X8_grown _ (hC.2.2.2.2.2.2.2.2.2.2.2.2.1) _ _ _ h)) rfl rfl rfl rfl rfl ⟨rfl, rfl⟩ ?_
  refine aw_iload_n hC dX8_edge_4 rfl ?_
  refine aw_bind rfl (fun q2 hq2 => ?_)
  refine aw_cVi hC dX8_edge_5 cv_RX8_373 rfl rm_5_0_0 (am_some (inj := (fun r => (.inr (some (.int r)), q1))) hq2 (A_X7_edgeAt _ (hC.2.2.2.2.2.2.2.2.2.2.2.2.1) _ _ _ p1 q1)) rfl rfl rfl rfl rfl ⟨rfl, rfl⟩ ?_
  exact aw_iret hC dX8_edge_8 rfl rfl
set_option maxHeartbeats 4000000 in
set_option maxRecDepth 100000 in
theorem A_X8_needNode (l : Launch) (hl0 : l.stackTraces = false) (D : va_G) (loc : Rf → Nat) (cy : Nat → ClassId) (p1 : Int32) (h : HD) : AX l D loc cy yX8_needNode (Cond.code yX8_needNode cX8_needNode 2 (none) :: LW) 6 100 1 6 [.ref (loc (6, 0, 0)), .int p1] h ((jX8_needNode p1 h).map (fun r => (xi (fun _ => none) r, h))) := by
  refine ax_start (y := yX8_needNode) (av := [.ref (loc (6, 0, 0)), .int p1]) (nL := 2) (h := h) (RF := fun (r : Option (Nat ⊕ Unit)) => r.map (fun r => (xi (fun _ => none) r, h))) (x := jX8_needNode p1 h) hl0 (by decide +kernel) rfl ?_
  intro p e R s m below meth c A hxt hC
  unfold jX8_needNode
  refine aw_aload_n hC dX8_needNode_0 rfl ?_
  refine aw_gfR hC dX8_needNode_1 fg_RX8_42 rfl rfl rm_6_0_0 ?_
  refine aw_iload_n hC dX8_needNode_4 rfl ?_
  refine aw_cVb hC dX8_needNode_5 cv_RX8_339 rfl rm_1_0_0 (A_X2_hasSpot _ (hC.2.2.2.2.2.2.2.2.2.2.2.2.1) _ _ _ 0 (by decide) p1 h) rfl rfl rfl rfl rfl ⟨rfl, rfl⟩ ?_
  refine aw_if_ne_b hC dX8_needNode_8 (tgt := 22) (by decide) ?_ ?_
  · exact aw_vreX hC dX8_needNode_22 rfl rfl rfl rfl
  · exact aw_throw2w (text := "there is no such node") (sid := 403) hC hxt dX8_needNode_11 dX8_needNode_14 dX8_needNode_15 dX8_needNode_18 dX8_needNode_21 tw5_192 tw1_24 (by decide +kernel) rfl rfl rfl rfl rfl rfl rfl
set_option maxHeartbeats 4000000 in
set_option maxRecDepth 100000 in
theorem A_X7_isAtEdge (l : Launch) (hl0 : l.stackTraces = false) (D : va_G) (loc : Rf → Nat) (cy : Nat → ClassId) (p1 : Int32) (p2 : Int32) (h : HD) : AM l D loc cy yX7_isAtEdge cX7_isAtEdge 3 (some .boolean) 1 37 [.ref (loc (5, 0, 0)), .int p1, .int p2] h ((jX7_isAtEdge p1 p2 h).map (fun r => (.inr (some (.int (b2i r))), h))) := by
  refine am_start (y := yX7_isAtEdge) (av := [.ref (loc (5, 0, 0)), .int p1, .int p2]) (nL := 3) (h := h) (RF := fun (r : Option Bool) => r.map (fun r => (.inr (some (.int (b2i r))), h))) (x := jX7_isAtEdge p1 p2 h) hl0 (by decide +kernel) rfl ?_
  intro p e R s m below meth c A hC
  unfold jX7_isAtEdge
  refine aw_aload_n hC dX7_isAtEdge_0 rfl ?_
  refine aw_iload_n hC dX7_isAtEdge_1 rfl ?_
  refine aw_cVb hC dX7_isAtEdge_2 cv_RX7_80 rfl rm_5_0_0 (A_X7_isEdge _ (hC.2.2.2.2.2.2.2.2.2.2.2.2.1) _ _ _ p2 h) rfl rfl rfl rfl rfl ⟨rfl, rfl⟩ ?_
  refine aw_if_eq_b hC dX7_isAtEdge_5 (tgt := 32) (by decide) ?_ ?_
  · refine aw_iconst hC dX7_isAtEdge_32 (v := 0) (by decide) ?_
    exact aw_zret hC dX7_isAtEdge_33 rfl (show _ = b2i false from rfl) rfl
  · refine aw_aload_n hC dX7_isAtEdge_8 rfl ?_
    refine aw_gfR hC dX7_isAtEdge_9 fg_RX7_15 rfl rfl rm_5_0_0 ?_
    refine aw_iload_n hC dX7_isAtEdge_12 rfl ?_
    refine aw_guard rfl (fun g1 => ?_)
    refine aw_iald hC dX7_isAtEdge_13 rm_5_0_2 rfl rfl g1 rfl ?_
    refine aw_iload_n hC dX7_isAtEdge_14 rfl ?_
    refine aw_icmp_eq hC dX7_isAtEdge_15 (tgt := 28) (by decide) ?_ ?_
    · refine aw_iconst hC dX7_isAtEdge_28 (v := 1) (by decide) ?_
      refine aw_goto hC dX7_isAtEdge_29 (tgt := 33) (by decide) ?_
      exact aw_zret hC dX7_isAtEdge_33 rfl (show _ = b2i true from rfl) rfl
    · refine aw_aload_n hC dX7_isAtEdge_18 rfl ?_
      refine aw_gfR hC dX7_isAtEdge_19 fg_RX7_18 rfl rfl rm_5_0_0 ?_
      refine aw_iload_n hC dX7_isAtEdge_22 rfl ?_
      refine aw_guard rfl (fun g2 => ?_)
      refine aw_iald hC dX7_isAtEdge_23 rm_5_0_3 rfl rfl g2 rfl ?_
      refine aw_iload_n hC dX7_isAtEdge_24 rfl ?_
      refine aw_icmp_ne hC dX7_isAtEdge_25 (tgt := 32) (by decide) ?_ ?_
      · refine aw_iconst hC dX7_isAtEdge_32 (v := 0) (by decide) ?_
        exact aw_zret hC dX7_isAtEdge_33 rfl (show _ = b2i false from rfl) rfl
      · refine aw_iconst hC dX7_isAtEdge_28 (v := 1) (by decide) ?_
        refine aw_goto hC dX7_isAtEdge_29 (tgt := 33) (by decide) ?_
        exact aw_zret hC dX7_isAtEdge_33 rfl (show _ = b2i true from rfl) rfl
set_option maxHeartbeats 4000000 in
set_option maxRecDepth 100000 in
theorem L_X7_edgesAt_4 (p1 : Int32) (h : HD) (hC : Cx p l e R s m args meth c D loc cy A cX7_edgesAt 4 (some .int) RX7 2 59 0 0)  : ∀ (n4 : Nat) (x2 : Int32) (x3 : Int32), AW p l e R s m args below meth c D loc cy A 4 (QM below D loc cy A args s) (fun (r : Option Int32) => r.map (fun r => (.inr (some (.int r)), h))) (0, 0) 4 [(0, .ref (loc (5, 0, 0))), (1, .int p1), (2, .int x2), (3, .int x3)] [] h (jX7_edgesAt_L4 p1 h n4 x2 x3) := by
  intro n4
  induction n4 with
  | zero => intro x2 x3; exact aw_none rfl
  | succ n4 ih4 =>
    intro x2 x3
    rw [jX7_edgesAt_L4]
    refine aw_iload_n hC dX7_edgesAt_4 rfl ?_
    refine aw_aload_n hC dX7_edgesAt_5 rfl ?_
    refine aw_gfI hC dX7_edgesAt_6 fg_RX7_40 rfl rm_5_0_0 ?_
    refine aw_icmp_ge hC dX7_edgesAt_9 (tgt := 30) (by decide) ?_ ?_
    · refine aw_iload_n hC dX7_edgesAt_30 rfl ?_
      exact aw_iret hC dX7_edgesAt_31 rfl rfl
    · refine aw_aload_n hC dX7_edgesAt_12 rfl ?_
      refine aw_iload_n hC dX7_edgesAt_13 rfl ?_
      refine aw_iload_n hC dX7_edgesAt_14 rfl ?_
      refine aw_bind rfl (fun q1 hq1 => ?_)
      refine aw_cVb hC dX7_edgesAt_15 cv_RX7_91 rfl rm_5_0_0 (am_some (inj := (fun r => (.inr (some (.int (b2i r))), h))) hq1 (A_X7_isAtEdge _ (hC.2.2.2.2.2.2.2.2.2.2.2.2.1) _ _ _ p1 x3 h)) rfl rfl rfl rfl rfl ⟨rfl, rfl⟩ ?_
      refine aw_if_eq_b hC dX7_edgesAt_18 (tgt := 24) (by decide) ?_ ?_
      · refine aw_iinc hC dX7_edgesAt_24 rfl (v := x3 + 1) (by first | rfl | decide) (by decide) ?_
        refine aw_goto hC dX7_edgesAt_27 (tgt := 4) (by decide) ?_
        refine aw_sub [0, 1, 2, 3] ?_
        exact ih4 x2 (x3 + 1)
      · refine aw_iinc hC dX7_edgesAt_21 rfl (v := x2 + 1) (by first | rfl | decide) (by decide) ?_
        refine aw_iinc hC dX7_edgesAt_24 rfl (v := x3 + 1) (by first | rfl | decide) (by decide) ?_
        refine aw_goto hC dX7_edgesAt_27 (tgt := 4) (by decide) ?_
        refine aw_sub [0, 1, 2, 3] ?_
        exact ih4 (x2 + 1) (x3 + 1)
set_option maxHeartbeats 4000000 in
set_option maxRecDepth 100000 in
theorem A_X7_edgesAt (l : Launch) (hl0 : l.stackTraces = false) (D : va_G) (loc : Rf → Nat) (cy : Nat → ClassId) (p1 : Int32) (h : HD) : AM l D loc cy yX7_edgesAt cX7_edgesAt 4 (some .int) 2 59 [.ref (loc (5, 0, 0)), .int p1] h ((jX7_edgesAt p1 h).map (fun r => (.inr (some (.int r)), h))) := by
  refine am_start (y := yX7_edgesAt) (av := [.ref (loc (5, 0, 0)), .int p1]) (nL := 4) (h := h) (RF := fun (r : Option Int32) => r.map (fun r => (.inr (some (.int r)), h))) (x := jX7_edgesAt p1 h) hl0 (by decide +kernel) rfl ?_
  intro p e R s m below meth c A hC
  unfold jX7_edgesAt
  refine aw_iconst hC dX7_edgesAt_0 (v := 0) (by decide) ?_
  refine aw_istore_n hC dX7_edgesAt_1 (by decide) ?_
  refine aw_iconst hC dX7_edgesAt_2 (v := 0) (by decide) ?_
  refine aw_istore_n hC dX7_edgesAt_3 (by decide) ?_
  refine aw_sub [0, 1, 2, 3] ?_
  exact L_X7_edgesAt_4 p1 h  hC FU (0 : Int32) (0 : Int32)
set_option maxHeartbeats 4000000 in
set_option maxRecDepth 100000 in
theorem A_X8_degree (l : Launch) (hl0 : l.stackTraces = false) (D : va_G) (loc : Rf → Nat) (cy : Nat → ClassId) (p1 : Int32) (h : HD) : AX l D loc cy yX8_degree (Cond.code yX8_degree cX8_degree 2 (some .int) :: LW) 7 121 1 6 [.ref (loc (6, 0, 0)), .int p1] h ((jX8_degree p1 h).map (fun r => (xi (fun v => some (.int v)) r.1, r.2))) := by
  refine ax_start (y := yX8_degree) (av := [.ref (loc (6, 0, 0)), .int p1]) (nL := 2) (h := h) (RF := fun (r : Option ((Nat ⊕ Int32) × HD)) => r.map (fun r => (xi (fun v => some (.int v)) r.1, r.2))) (x := jX8_degree p1 h) hl0 (by decide +kernel) rfl ?_
  intro p e R s m below meth c A hxt hC
  unfold jX8_degree
  refine aw_aload_n hC dX8_degree_0 rfl ?_
  refine aw_iload_n hC dX8_degree_1 rfl ?_
  refine aw_bind rfl (fun q1 hq1 => ?_)
  refine aw_cXv hC hxt dX8_degree_2 cv_RX8_376 rfl rm_6_0_0 (ax_some (inj := (fun r => (xi (fun _ => none) r, h))) hq1 (A_X8_needNode _ (hC.2.2.2.2.2.2.2.2.2.2.2.2.1) _ _ _ p1 h)) rfl rfl rfl rfl rfl ⟨rfl, rfl⟩ rfl rfl (fun _ => rfl) (fun v2 => ?_)
  refine aw_aload_n hC dX8_degree_5 rfl ?_
  refine aw_bind rfl (fun q3 hq3 => ?_)
  refine aw_cVr hC dX8_degree_6 cv_RX8_366 rfl rm_6_0_0 (am_some (inj := (fun r => (.inr (some (.ref (loc (5, 0, 0)))), r))) hq3 (A_X8_grown _ (hC.2.2.2.2.2.2.2.2.2.2.2.2.1) _ _ _ h)) rfl rfl rfl rfl rfl ⟨rfl, rfl⟩ ?_
  refine aw_iload_n hC dX8_degree_9 rfl ?_
  refine aw_bind rfl (fun q4 hq4 => ?_)
  refine aw_cVi hC dX8_degree_10 cv_RX8_379 rfl rm_5_0_0 (am_some (inj := (fun r => (.inr (some (.int r)), q3))) hq4 (A_X7_edgesAt _ (hC.2.2.2.2.2.2.2.2.2.2.2.2.1) _ _ _ p1 q3)) rfl rfl rfl rfl rfl ⟨rfl, rfl⟩ ?_
  exact aw_ireX hC dX8_degree_13 rfl rfl rfl rfl
set_option maxHeartbeats 4000000 in
set_option maxRecDepth 100000 in
theorem L_X7_measureFrom_19 (p1 : Int32) (p2 : Int32) (hC : Cx p l e R s m args meth c D loc cy A cX7_measureFrom 5 (none) RX7 1 37 0 0)  : ∀ (n19 : Nat) (x3 : Int32) (h : HD), AW p l e R s m args below meth c D loc cy A 5 (QM below D loc cy A args s) (fun (r : Option HD) => r.map (fun r => (.inr (none), r))) (0, 0) 19 [(0, .ref (loc (5, 0, 0))), (1, .int p1), (2, .int p2), (3, .int x3)] [] h (jX7_measureFrom_L19 p1 p2 n19 x3 h) := by
  intro n19
  induction n19 with
  | zero => intro x3 h; exact aw_none rfl
  | succ n19 ih19 =>
    intro x3 h
    rw [jX7_measureFrom_L19]
    refine aw_iload_n hC dX7_measureFrom_19 rfl ?_
    refine aw_aload_n hC dX7_measureFrom_20 rfl ?_
    refine aw_gfI hC dX7_measureFrom_21 fg_RX7_33 rfl rm_5_0_0 ?_
    refine aw_icmp_ge hC dX7_measureFrom_24 (tgt := 84) (by decide) ?_ ?_
    · exact aw_vret hC dX7_measureFrom_84 rfl rfl
    · refine aw_iload_n hC dX7_measureFrom_27 rfl ?_
      refine aw_bipush hC dX7_measureFrom_28 (v := 12) (by decide) ?_
      refine aw_icmp_ge hC dX7_measureFrom_30 (tgt := 84) (by decide) ?_ ?_
      · exact aw_vret hC dX7_measureFrom_84 rfl rfl
      · refine aw_aload_n hC dX7_measureFrom_33 rfl ?_
        refine aw_gfR hC dX7_measureFrom_34 fg_RX7_30 rfl rfl rm_5_0_0 ?_
        refine aw_iload_n hC dX7_measureFrom_37 rfl ?_
        refine aw_guard rfl (fun g1 => ?_)
        refine aw_dald hC dX7_measureFrom_38 g1 rfl ?_
        refine aw_iload_n hC dX7_measureFrom_39 rfl ?_
        refine aw_guard rfl (fun g2 => ?_)
        refine aw_iald hC dX7_measureFrom_40 (rv_row (inB_lt g1)) rfl rfl g2 rfl ?_
        refine aw_istore hC dX7_measureFrom_41 (by decide) ?_
        refine aw_iload_n hC dX7_measureFrom_43 rfl ?_
        refine aw_iload_n hC dX7_measureFrom_44 rfl ?_
        refine aw_icmp_eq hC dX7_measureFrom_45 (tgt := 78) (by decide) ?_ ?_
        · refine aw_iinc hC dX7_measureFrom_78 rfl (v := x3 + 1) (by first | rfl | decide) (by decide) ?_
          refine aw_goto hC dX7_measureFrom_81 (tgt := 19) (by decide) ?_
          refine aw_sub [0, 1, 2, 3] ?_
          exact ih19 (x3 + 1) h
        · refine aw_iload hC dX7_measureFrom_48 rfl ?_
          refine aw_iconst hC dX7_measureFrom_50 (v := -1) (by decide) ?_
          refine aw_icmp_eq hC dX7_measureFrom_51 (tgt := 78) (by decide) ?_ ?_
          · refine aw_iinc hC dX7_measureFrom_78 rfl (v := x3 + 1) (by first | rfl | decide) (by decide) ?_
            refine aw_goto hC dX7_measureFrom_81 (tgt := 19) (by decide) ?_
            refine aw_sub [0, 1, 2, 3] ?_
            exact ih19 (x3 + 1) h
          · refine aw_aload_n hC dX7_measureFrom_54 rfl ?_
            refine aw_gfR hC dX7_measureFrom_55 fg_RX7_30 rfl rfl rm_5_0_0 ?_
            refine aw_iload_n hC dX7_measureFrom_58 rfl ?_
            refine aw_guard rfl (fun g3 => ?_)
            refine aw_dald hC dX7_measureFrom_59 g3 rfl ?_
            refine aw_iload_n hC dX7_measureFrom_60 rfl ?_
            refine aw_iload hC dX7_measureFrom_61 rfl ?_
            refine aw_iconst hC dX7_measureFrom_63 (v := 1) (by decide) ?_
            refine aw_iadd hC dX7_measureFrom_64 ?_
            refine aw_guard rfl (fun g5 => ?_)
            refine aw_iast hC dX7_measureFrom_65 (rv_row (inB_lt g3)) rfl rfl g5 rfl (fun h4 => ?_)
            refine aw_aload_n hC dX7_measureFrom_66 rfl ?_
            refine aw_gfR hC dX7_measureFrom_67 fg_RX7_30 rfl rfl rm_5_0_0 ?_
            refine aw_iload_n hC dX7_measureFrom_70 rfl ?_
            refine aw_guard rfl (fun g6 => ?_)
            refine aw_dald hC dX7_measureFrom_71 g6 rfl ?_
            refine aw_iload_n hC dX7_measureFrom_72 rfl ?_
            refine aw_iload hC dX7_measureFrom_73 rfl ?_
            refine aw_iconst hC dX7_measureFrom_75 (v := 1) (by decide) ?_
            refine aw_iadd hC dX7_measureFrom_76 ?_
            refine aw_guard rfl (fun g8 => ?_)
            refine aw_iast hC dX7_measureFrom_77 (rv_row (inB_lt g6)) rfl rfl g8 rfl (fun h7 => ?_)
            refine aw_iinc hC dX7_measureFrom_78 rfl (v := x3 + 1) (by first | rfl | decide) (by decide) ?_
            refine aw_goto hC dX7_measureFrom_81 (tgt := 19) (by decide) ?_
            refine aw_sub [0, 1, 2, 3] ?_
            exact ih19 (x3 + 1) h7
set_option maxHeartbeats 4000000 in
set_option maxRecDepth 100000 in
theorem A_X7_measureFrom (l : Launch) (hl0 : l.stackTraces = false) (D : va_G) (loc : Rf → Nat) (cy : Nat → ClassId) (p1 : Int32) (p2 : Int32) (h : HD) : AM l D loc cy yX7_measureFrom cX7_measureFrom 5 (none) 1 37 [.ref (loc (5, 0, 0)), .int p1, .int p2] h ((jX7_measureFrom p1 p2 h).map (fun r => (.inr (none), r))) := by
  refine am_start (y := yX7_measureFrom) (av := [.ref (loc (5, 0, 0)), .int p1, .int p2]) (nL := 5) (h := h) (RF := fun (r : Option HD) => r.map (fun r => (.inr (none), r))) (x := jX7_measureFrom p1 p2 h) hl0 (by decide +kernel) rfl ?_
  intro p e R s m below meth c A hC
  unfold jX7_measureFrom
  refine aw_aload_n hC dX7_measureFrom_0 rfl ?_
  refine aw_iload_n hC dX7_measureFrom_1 rfl ?_
  refine aw_cVb hC dX7_measureFrom_2 cv_RX7_66 rfl rm_5_0_0 (A_X7_isNode _ (hC.2.2.2.2.2.2.2.2.2.2.2.2.1) _ _ _ p1 h) rfl rfl rfl rfl rfl ⟨rfl, rfl⟩ ?_
  refine aw_if_eq_b hC dX7_measureFrom_5 (tgt := 16) (by decide) ?_ ?_
  · exact aw_vret hC dX7_measureFrom_16 rfl rfl
  · refine aw_aload_n hC dX7_measureFrom_8 rfl ?_
    refine aw_iload_n hC dX7_measureFrom_9 rfl ?_
    refine aw_cVb hC dX7_measureFrom_10 cv_RX7_66 rfl rm_5_0_0 (A_X7_isNode _ (hC.2.2.2.2.2.2.2.2.2.2.2.2.1) _ _ _ p2 h) rfl rfl rfl rfl rfl ⟨rfl, rfl⟩ ?_
    refine aw_if_ne_b hC dX7_measureFrom_13 (tgt := 17) (by decide) ?_ ?_
    · refine aw_iconst hC dX7_measureFrom_17 (v := 0) (by decide) ?_
      refine aw_istore_n hC dX7_measureFrom_18 (by decide) ?_
      refine aw_sub [0, 1, 2, 3] ?_
      exact L_X7_measureFrom_19 p1 p2  hC FU (0 : Int32) h
    · exact aw_vret hC dX7_measureFrom_16 rfl rfl
set_option maxHeartbeats 4000000 in
set_option maxRecDepth 100000 in
theorem L_X7_measure_2 (k41 : HD → Option HD) (hC : Cx p l e R s m args meth c D loc cy A cX7_measure 2 (none) RX7 2 61 0 0) (hk41 : ∀  (h2 : HD), AW p l e R s m args below meth c D loc cy A 2 (QM below D loc cy A args s) (fun (r : Option HD) => r.map (fun r => (.inr (none), r))) (0, 0) 41 [(0, .ref (loc (5, 0, 0)))] [] h2 (k41  h2)) : ∀ (n2 : Nat) (x1 : Int32) (h : HD), AW p l e R s m args below meth c D loc cy A 2 (QM below D loc cy A args s) (fun (r : Option HD) => r.map (fun r => (.inr (none), r))) (0, 0) 2 [(0, .ref (loc (5, 0, 0))), (1, .int x1)] [] h (jX7_measure_L2 k41 n2 x1 h) := by
  intro n2
  induction n2 with
  | zero => intro x1 h; exact aw_none rfl
  | succ n2 ih2 =>
    intro x1 h
    rw [jX7_measure_L2]
    refine aw_iload_n hC dX7_measure_2 rfl ?_
    refine aw_aload_n hC dX7_measure_3 rfl ?_
    refine aw_gfI hC dX7_measure_4 fg_RX7_33 rfl rm_5_0_0 ?_
    refine aw_icmp_ge hC dX7_measure_7 (tgt := 41) (by decide) ?_ ?_
    · refine aw_sub [0] ?_
      exact hk41 h
    · refine aw_iload_n hC dX7_measure_10 rfl ?_
      refine aw_bipush hC dX7_measure_11 (v := 12) (by decide) ?_
      refine aw_icmp_ge hC dX7_measure_13 (tgt := 41) (by decide) ?_ ?_
      · refine aw_sub [0] ?_
        exact hk41 h
      · refine aw_aload_n hC dX7_measure_16 rfl ?_
        refine aw_gfR hC dX7_measure_17 fg_RX7_30 rfl rfl rm_5_0_0 ?_
        refine aw_iload_n hC dX7_measure_20 rfl ?_
        refine aw_guard rfl (fun g1 => ?_)
        refine aw_dald hC dX7_measure_21 g1 rfl ?_
        refine aw_iconst hC dX7_measure_22 (v := -1) (by decide) ?_
        refine aw_bind rfl (fun q2 hq2 => ?_)
        refine aw_cSv hC dX7_measure_23 cv_RX7_52 (am_some (inj := (fun r => (.inr (none), r))) hq2 (A_J7_fill_53178 _ (hC.2.2.2.2.2.2.2.2.2.2.2.2.1) _ _ _ (5, x1.toNatClampNeg, 7) (rv_row (inB_lt g1)) rfl rfl (-1 : Int32) h)) rfl rfl rfl rfl rfl ⟨rfl, rfl⟩ ?_
        refine aw_aload_n hC dX7_measure_26 rfl ?_
        refine aw_gfR hC dX7_measure_27 fg_RX7_30 rfl rfl rm_5_0_0 ?_
        refine aw_iload_n hC dX7_measure_30 rfl ?_
        refine aw_guard rfl (fun g3 => ?_)
        refine aw_dald hC dX7_measure_31 g3 rfl ?_
        refine aw_iload_n hC dX7_measure_32 rfl ?_
        refine aw_iconst hC dX7_measure_33 (v := 0) (by decide) ?_
        refine aw_guard rfl (fun g5 => ?_)
        refine aw_iast hC dX7_measure_34 (rv_row (inB_lt g3)) rfl rfl g5 rfl (fun h4 => ?_)
        refine aw_iinc hC dX7_measure_35 rfl (v := x1 + 1) (by first | rfl | decide) (by decide) ?_
        refine aw_goto hC dX7_measure_38 (tgt := 2) (by decide) ?_
        refine aw_sub [0, 1] ?_
        exact ih2 (x1 + 1) h4
set_option maxHeartbeats 4000000 in
set_option maxRecDepth 100000 in
theorem L_X7_measure_48  (hC : Cx p l e R s m args meth c D loc cy A cX7_measure 2 (none) RX7 2 61 0 0)  : ∀ (n48 : Nat) (x1 : Int32) (h : HD), AW p l e R s m args below meth c D loc cy A 2 (QM below D loc cy A args s) (fun (r : Option HD) => r.map (fun r => (.inr (none), r))) (0, 0) 48 [(0, .ref (loc (5, 0, 0))), (1, .int x1)] [] h (jX7_measure_L48 n48 x1 h) := by
  intro n48
  induction n48 with
  | zero => intro x1 h; exact aw_none rfl
  | succ n48 ih48 =>
    intro x1 h
    rw [jX7_measure_L48]
    refine aw_iload_n hC dX7_measure_48 rfl ?_
    refine aw_if_lt hC dX7_measure_49 (tgt := 82) (by decide) ?_ ?_
    · exact aw_vret hC dX7_measure_82 rfl rfl
    · refine aw_aload_n hC dX7_measure_52 rfl ?_
      refine aw_iload_n hC dX7_measure_53 rfl ?_
      refine aw_cVb hC dX7_measure_54 cv_RX7_80 rfl rm_5_0_0 (A_X7_isEdge _ (hC.2.2.2.2.2.2.2.2.2.2.2.2.1) _ _ _ x1 h) rfl rfl rfl rfl rfl ⟨rfl, rfl⟩ ?_
      refine aw_if_eq_b hC dX7_measure_57 (tgt := 76) (by decide) ?_ ?_
      · refine aw_iinc hC dX7_measure_76 rfl (v := x1 + (-1)) (by first | rfl | decide) (by decide) ?_
        refine aw_goto hC dX7_measure_79 (tgt := 48) (by decide) ?_
        refine aw_sub [0, 1] ?_
        exact ih48 (x1 + (-1)) h
      · refine aw_aload_n hC dX7_measure_60 rfl ?_
        refine aw_aload_n hC dX7_measure_61 rfl ?_
        refine aw_gfR hC dX7_measure_62 fg_RX7_15 rfl rfl rm_5_0_0 ?_
        refine aw_iload_n hC dX7_measure_65 rfl ?_
        refine aw_guard rfl (fun g7 => ?_)
        refine aw_iald hC dX7_measure_66 rm_5_0_2 rfl rfl g7 rfl ?_
        refine aw_aload_n hC dX7_measure_67 rfl ?_
        refine aw_gfR hC dX7_measure_68 fg_RX7_18 rfl rfl rm_5_0_0 ?_
        refine aw_iload_n hC dX7_measure_71 rfl ?_
        refine aw_guard rfl (fun g8 => ?_)
        refine aw_iald hC dX7_measure_72 rm_5_0_3 rfl rfl g8 rfl ?_
        refine aw_bind rfl (fun q9 hq9 => ?_)
        refine aw_cVv hC dX7_measure_73 cv_RX7_98 rfl rm_5_0_0 (am_some (inj := (fun r => (.inr (none), r))) hq9 (A_X7_measureFrom _ (hC.2.2.2.2.2.2.2.2.2.2.2.2.1) _ _ _ (gI h (5, 0, 2) x1.toNatClampNeg) (gI h (5, 0, 3) x1.toNatClampNeg) h)) rfl rfl rfl rfl rfl ⟨rfl, rfl⟩ ?_
        refine aw_iinc hC dX7_measure_76 rfl (v := x1 + (-1)) (by first | rfl | decide) (by decide) ?_
        refine aw_goto hC dX7_measure_79 (tgt := 48) (by decide) ?_
        refine aw_sub [0, 1] ?_
        exact ih48 (x1 + (-1)) q9
set_option maxHeartbeats 4000000 in
set_option maxRecDepth 100000 in
theorem A_X7_measure (l : Launch) (hl0 : l.stackTraces = false) (D : va_G) (loc : Rf → Nat) (cy : Nat → ClassId)  (h : HD) : AM l D loc cy yX7_measure cX7_measure 2 (none) 2 61 [.ref (loc (5, 0, 0))] h ((jX7_measure h).map (fun r => (.inr (none), r))) := by
  refine am_start (y := yX7_measure) (av := [.ref (loc (5, 0, 0))]) (nL := 2) (h := h) (RF := fun (r : Option HD) => r.map (fun r => (.inr (none), r))) (x := jX7_measure h) hl0 (by decide +kernel) rfl ?_
  intro p e R s m below meth c A hC
  unfold jX7_measure
  refine aw_iconst hC dX7_measure_0 (v := 0) (by decide) ?_
  refine aw_istore_n hC dX7_measure_1 (by decide) ?_
  refine aw_sub [0, 1] ?_
  refine L_X7_measure_2  _ hC ?_ FU (0 : Int32) h
  · intro h6
    refine aw_aload_n hC dX7_measure_41 rfl ?_
    refine aw_gfI hC dX7_measure_42 fg_RX7_40 rfl rm_5_0_0 ?_
    refine aw_iconst hC dX7_measure_45 (v := 1) (by decide) ?_
    refine aw_isub hC dX7_measure_46 ?_
    refine aw_istore_n hC dX7_measure_47 (by decide) ?_
    refine aw_sub [0, 1] ?_
    exact L_X7_measure_48   hC FU ((gI h6 (5, 0, 0) 8) - (1 : Int32)) h6
set_option maxHeartbeats 4000000 in
set_option maxRecDepth 100000 in
theorem A_X8_measured (l : Launch) (hl0 : l.stackTraces = false) (D : va_G) (loc : Rf → Nat) (cy : Nat → ClassId)  (h : HD) : AM l D loc cy yX8_measured cX8_measured 1 (some (.object "ParkingCircle$Tree")) 3 82 [.ref (loc (6, 0, 0))] h ((jX8_measured h).map (fun r => (.inr (some (.ref (loc (5, 0, 0)))), r))) := by
  refine am_start (y := yX8_measured) (av := [.ref (loc (6, 0, 0))]) (nL := 1) (h := h) (RF := fun (r : Option HD) => r.map (fun r => (.inr (some (.ref (loc (5, 0, 0)))), r))) (x := jX8_measured h) hl0 (by decide +kernel) rfl ?_
  intro p e R s m below meth c A hC
  unfold jX8_measured
  refine aw_aload_n hC dX8_measured_0 rfl ?_
  refine aw_gfR hC dX8_measured_1 fg_RX8_72 rfl rfl rm_6_0_0 ?_
  refine aw_aload_n hC dX8_measured_4 rfl ?_
  refine aw_gfR hC dX8_measured_5 fg_RX8_42 rfl rfl rm_6_0_0 ?_
  refine aw_bind rfl (fun q1 hq1 => ?_)
  refine aw_cVv hC dX8_measured_8 cv_RX8_397 rfl rm_5_0_0 (am_some (inj := (fun r => (.inr (none), r))) hq1 (A_X7_grow _ (hC.2.2.2.2.2.2.2.2.2.2.2.2.1) _ _ _ 0 (by decide) h)) rfl rfl rfl rfl rfl ⟨rfl, rfl⟩ ?_
  refine aw_aload_n hC dX8_measured_11 rfl ?_
  refine aw_gfR hC dX8_measured_12 fg_RX8_72 rfl rfl rm_6_0_0 ?_
  refine aw_bind rfl (fun q2 hq2 => ?_)
  refine aw_cVv hC dX8_measured_15 cv_RX8_400 rfl rm_5_0_0 (am_some (inj := (fun r => (.inr (none), r))) hq2 (A_X7_measure _ (hC.2.2.2.2.2.2.2.2.2.2.2.2.1) _ _ _ q1)) rfl rfl rfl rfl rfl ⟨rfl, rfl⟩ ?_
  refine aw_aload_n hC dX8_measured_18 rfl ?_
  refine aw_gfR hC dX8_measured_19 fg_RX8_72 rfl rfl rm_6_0_0 ?_
  exact aw_aret hC dX8_measured_22 rfl (Or.inl ⟨_, rfl⟩) (Or.inr ⟨_, rfl⟩) rfl
set_option maxHeartbeats 4000000 in
set_option maxRecDepth 100000 in
theorem A_X7_distance (l : Launch) (hl0 : l.stackTraces = false) (D : va_G) (loc : Rf → Nat) (cy : Nat → ClassId) (p1 : Int32) (p2 : Int32) (h : HD) : AM l D loc cy yX7_distance cX7_distance 3 (some .int) 1 37 [.ref (loc (5, 0, 0)), .int p1, .int p2] h ((jX7_distance p1 p2 h).map (fun r => (.inr (some (.int r)), h))) := by
  refine am_start (y := yX7_distance) (av := [.ref (loc (5, 0, 0)), .int p1, .int p2]) (nL := 3) (h := h) (RF := fun (r : Option Int32) => r.map (fun r => (.inr (some (.int r)), h))) (x := jX7_distance p1 p2 h) hl0 (by decide +kernel) rfl ?_
  intro p e R s m below meth c A hC
  unfold jX7_distance
  refine aw_aload_n hC dX7_distance_0 rfl ?_
  refine aw_iload_n hC dX7_distance_1 rfl ?_
  refine aw_cVb hC dX7_distance_2 cv_RX7_66 rfl rm_5_0_0 (A_X7_isNode _ (hC.2.2.2.2.2.2.2.2.2.2.2.2.1) _ _ _ p1 h) rfl rfl rfl rfl rfl ⟨rfl, rfl⟩ ?_
  refine aw_if_eq_b hC dX7_distance_5 (tgt := 27) (by decide) ?_ ?_
  · refine aw_iconst hC dX7_distance_27 (v := -1) (by decide) ?_
    exact aw_iret hC dX7_distance_28 rfl rfl
  · refine aw_aload_n hC dX7_distance_8 rfl ?_
    refine aw_iload_n hC dX7_distance_9 rfl ?_
    refine aw_cVb hC dX7_distance_10 cv_RX7_66 rfl rm_5_0_0 (A_X7_isNode _ (hC.2.2.2.2.2.2.2.2.2.2.2.2.1) _ _ _ p2 h) rfl rfl rfl rfl rfl ⟨rfl, rfl⟩ ?_
    refine aw_if_eq_b hC dX7_distance_13 (tgt := 27) (by decide) ?_ ?_
    · refine aw_iconst hC dX7_distance_27 (v := -1) (by decide) ?_
      exact aw_iret hC dX7_distance_28 rfl rfl
    · refine aw_aload_n hC dX7_distance_16 rfl ?_
      refine aw_gfR hC dX7_distance_17 fg_RX7_30 rfl rfl rm_5_0_0 ?_
      refine aw_iload_n hC dX7_distance_20 rfl ?_
      refine aw_guard rfl (fun g1 => ?_)
      refine aw_dald hC dX7_distance_21 g1 rfl ?_
      refine aw_iload_n hC dX7_distance_22 rfl ?_
      refine aw_guard rfl (fun g2 => ?_)
      refine aw_iald hC dX7_distance_23 (rv_row (inB_lt g1)) rfl rfl g2 rfl ?_
      refine aw_goto hC dX7_distance_24 (tgt := 28) (by decide) ?_
      exact aw_iret hC dX7_distance_28 rfl rfl
set_option maxHeartbeats 4000000 in
set_option maxRecDepth 100000 in
theorem A_X8_far (l : Launch) (hl0 : l.stackTraces = false) (D : va_G) (loc : Rf → Nat) (cy : Nat → ClassId) (p1 : Int32) (p2 : Int32) (h : HD) : AX l D loc cy yX8_far (Cond.code yX8_far cX8_far 3 (some .int) :: LW) 7 121 2 12 [.ref (loc (6, 0, 0)), .int p1, .int p2] h ((jX8_far p1 p2 h).map (fun r => (xi (fun v => some (.int v)) r.1, r.2))) := by
  refine ax_start (y := yX8_far) (av := [.ref (loc (6, 0, 0)), .int p1, .int p2]) (nL := 3) (h := h) (RF := fun (r : Option ((Nat ⊕ Int32) × HD)) => r.map (fun r => (xi (fun v => some (.int v)) r.1, r.2))) (x := jX8_far p1 p2 h) hl0 (by decide +kernel) rfl ?_
  intro p e R s m below meth c A hxt hC
  unfold jX8_far
  refine aw_aload_n hC dX8_far_0 rfl ?_
  refine aw_iload_n hC dX8_far_1 rfl ?_
  refine aw_bind rfl (fun q1 hq1 => ?_)
  refine aw_cXv hC hxt dX8_far_2 cv_RX8_376 rfl rm_6_0_0 (ax_some (inj := (fun r => (xi (fun _ => none) r, h))) hq1 (A_X8_needNode _ (hC.2.2.2.2.2.2.2.2.2.2.2.2.1) _ _ _ p1 h)) rfl rfl rfl rfl rfl ⟨rfl, rfl⟩ rfl rfl (fun _ => rfl) (fun v2 => ?_)
  refine aw_aload_n hC dX8_far_5 rfl ?_
  refine aw_iload_n hC dX8_far_6 rfl ?_
  refine aw_bind rfl (fun q3 hq3 => ?_)
  refine aw_cXv hC hxt dX8_far_7 cv_RX8_376 rfl rm_6_0_0 (ax_some (inj := (fun r => (xi (fun _ => none) r, h))) hq3 (A_X8_needNode _ (hC.2.2.2.2.2.2.2.2.2.2.2.2.1) _ _ _ p2 h)) rfl rfl rfl rfl rfl ⟨rfl, rfl⟩ rfl rfl (fun _ => rfl) (fun v4 => ?_)
  refine aw_aload_n hC dX8_far_10 rfl ?_
  refine aw_bind rfl (fun q5 hq5 => ?_)
  refine aw_cVr hC dX8_far_11 cv_RX8_382 rfl rm_6_0_0 (am_some (inj := (fun r => (.inr (some (.ref (loc (5, 0, 0)))), r))) hq5 (A_X8_measured _ (hC.2.2.2.2.2.2.2.2.2.2.2.2.1) _ _ _ h)) rfl rfl rfl rfl rfl ⟨rfl, rfl⟩ ?_
  refine aw_iload_n hC dX8_far_14 rfl ?_
  refine aw_iload_n hC dX8_far_15 rfl ?_
  refine aw_bind rfl (fun q6 hq6 => ?_)
  refine aw_cVi hC dX8_far_16 cv_RX8_385 rfl rm_5_0_0 (am_some (inj := (fun r => (.inr (some (.int r)), q5))) hq6 (A_X7_distance _ (hC.2.2.2.2.2.2.2.2.2.2.2.2.1) _ _ _ p1 p2 q5)) rfl rfl rfl rfl rfl ⟨rfl, rfl⟩ ?_
  exact aw_ireX hC dX8_far_19 rfl rfl rfl rfl
set_option maxHeartbeats 4000000 in
set_option maxRecDepth 100000 in
theorem L_X7_greatestDistance_14 (x2 : Int32) (h : HD) (k36 : Int32 → Option Int32) (hC : Cx p l e R s m args meth c D loc cy A cX7_greatestDistance 4 (some .int) RX7 2 64 0 0) (hk36 : ∀ (x1 : Int32), AW p l e R s m args below meth c D loc cy A 4 (QM below D loc cy A args s) (fun (r : Option Int32) => r.map (fun r => (.inr (some (.int r)), h))) (0, 0) 36 [(0, .ref (loc (5, 0, 0))), (1, .int x1), (2, .int x2)] [] h (k36 x1)) : ∀ (n14 : Nat) (x1 : Int32) (x3 : Int32), AW p l e R s m args below meth c D loc cy A 4 (QM below D loc cy A args s) (fun (r : Option Int32) => r.map (fun r => (.inr (some (.int r)), h))) (0, 0) 14 [(0, .ref (loc (5, 0, 0))), (1, .int x1), (2, .int x2), (3, .int x3)] [] h (jX7_greatestDistance_L14 x2 h k36 n14 x1 x3) := by
  intro n14
  induction n14 with
  | zero => intro x1 x3; exact aw_none rfl
  | succ n14 ih14 =>
    intro x1 x3
    rw [jX7_greatestDistance_L14]
    refine aw_iload_n hC dX7_greatestDistance_14 rfl ?_
    refine aw_iload_n hC dX7_greatestDistance_15 rfl ?_
    refine aw_icmp_ge hC dX7_greatestDistance_16 (tgt := 36) (by decide) ?_ ?_
    · refine aw_sub [0, 1, 2] ?_
      exact hk36 x1
    · refine aw_iload_n hC dX7_greatestDistance_19 rfl ?_
      refine aw_aload_n hC dX7_greatestDistance_20 rfl ?_
      refine aw_iload_n hC dX7_greatestDistance_21 rfl ?_
      refine aw_iload_n hC dX7_greatestDistance_22 rfl ?_
      refine aw_bind rfl (fun q1 hq1 => ?_)
      refine aw_cVi hC dX7_greatestDistance_23 cv_RX7_101 rfl rm_5_0_0 (am_some (inj := (fun r => (.inr (some (.int r)), h))) hq1 (A_X7_distance _ (hC.2.2.2.2.2.2.2.2.2.2.2.2.1) _ _ _ x2 x3 h)) rfl rfl rfl rfl rfl ⟨rfl, rfl⟩ ?_
      refine aw_mmax hC dX7_greatestDistance_26 tw3_19 tw3_20 tw1_22 tw3_21 rfl rfl ⟨rfl, rfl⟩ ?_
      refine aw_istore_n hC dX7_greatestDistance_29 (by decide) ?_
      refine aw_iinc hC dX7_greatestDistance_30 rfl (v := x3 + 1) (by first | rfl | decide) (by decide) ?_
      refine aw_goto hC dX7_greatestDistance_33 (tgt := 14) (by decide) ?_
      refine aw_sub [0, 1, 2, 3] ?_
      exact ih14 (if x1 < q1 then q1 else x1) (x3 + 1)
set_option maxHeartbeats 4000000 in
set_option maxRecDepth 100000 in
theorem L_X7_greatestDistance_4 (h : HD) (hC : Cx p l e R s m args meth c D loc cy A cX7_greatestDistance 4 (some .int) RX7 2 64 0 0)  : ∀ (n4 : Nat) (x1 : Int32) (x2 : Int32), AW p l e R s m args below meth c D loc cy A 4 (QM below D loc cy A args s) (fun (r : Option Int32) => r.map (fun r => (.inr (some (.int r)), h))) (0, 0) 4 [(0, .ref (loc (5, 0, 0))), (1, .int x1), (2, .int x2)] [] h (jX7_greatestDistance_L4 h n4 x1 x2) := by
  intro n4
  induction n4 with
  | zero => intro x1 x2; exact aw_none rfl
  | succ n4 ih4 =>
    intro x1 x2
    rw [jX7_greatestDistance_L4]
    refine aw_iload_n hC dX7_greatestDistance_4 rfl ?_
    refine aw_aload_n hC dX7_greatestDistance_5 rfl ?_
    refine aw_gfI hC dX7_greatestDistance_6 fg_RX7_33 rfl rm_5_0_0 ?_
    refine aw_icmp_ge hC dX7_greatestDistance_9 (tgt := 42) (by decide) ?_ ?_
    · refine aw_iload_n hC dX7_greatestDistance_42 rfl ?_
      exact aw_iret hC dX7_greatestDistance_43 rfl rfl
    · refine aw_iconst hC dX7_greatestDistance_12 (v := 0) (by decide) ?_
      refine aw_istore_n hC dX7_greatestDistance_13 (by decide) ?_
      refine aw_sub [0, 1, 2, 3] ?_
      refine L_X7_greatestDistance_14 x2 h _ hC ?_ FU x1 (0 : Int32)
      · intro y14_1
        refine aw_iinc hC dX7_greatestDistance_36 rfl (v := x2 + 1) (by first | rfl | decide) (by decide) ?_
        refine aw_goto hC dX7_greatestDistance_39 (tgt := 4) (by decide) ?_
        refine aw_sub [0, 1, 2] ?_
        exact ih4 y14_1 (x2 + 1)
set_option maxHeartbeats 4000000 in
set_option maxRecDepth 100000 in
theorem A_X7_greatestDistance (l : Launch) (hl0 : l.stackTraces = false) (D : va_G) (loc : Rf → Nat) (cy : Nat → ClassId)  (h : HD) : AM l D loc cy yX7_greatestDistance cX7_greatestDistance 4 (some .int) 2 64 [.ref (loc (5, 0, 0))] h ((jX7_greatestDistance h).map (fun r => (.inr (some (.int r)), h))) := by
  refine am_start (y := yX7_greatestDistance) (av := [.ref (loc (5, 0, 0))]) (nL := 4) (h := h) (RF := fun (r : Option Int32) => r.map (fun r => (.inr (some (.int r)), h))) (x := jX7_greatestDistance h) hl0 (by decide +kernel) rfl ?_
  intro p e R s m below meth c A hC
  unfold jX7_greatestDistance
  refine aw_iconst hC dX7_greatestDistance_0 (v := 0) (by decide) ?_
  refine aw_istore_n hC dX7_greatestDistance_1 (by decide) ?_
  refine aw_iconst hC dX7_greatestDistance_2 (v := 0) (by decide) ?_
  refine aw_istore_n hC dX7_greatestDistance_3 (by decide) ?_
  refine aw_sub [0, 1, 2] ?_
  exact L_X7_greatestDistance_4 h  hC FU (0 : Int32) (0 : Int32)
set_option maxHeartbeats 4000000 in
set_option maxRecDepth 100000 in
theorem A_X8_wide (l : Launch) (hl0 : l.stackTraces = false) (D : va_G) (loc : Rf → Nat) (cy : Nat → ClassId)  (h : HD) : AM l D loc cy yX8_wide cX8_wide 1 (some .int) 4 102 [.ref (loc (6, 0, 0))] h ((jX8_wide h).map (fun r => (.inr (some (.int r.1)), r.2))) := by
  refine am_start (y := yX8_wide) (av := [.ref (loc (6, 0, 0))]) (nL := 1) (h := h) (RF := fun (r : Option (Int32 × HD)) => r.map (fun r => (.inr (some (.int r.1)), r.2))) (x := jX8_wide h) hl0 (by decide +kernel) rfl ?_
  intro p e R s m below meth c A hC
  unfold jX8_wide
  refine aw_aload_n hC dX8_wide_0 rfl ?_
  refine aw_bind rfl (fun q1 hq1 => ?_)
  refine aw_cVr hC dX8_wide_1 cv_RX8_382 rfl rm_6_0_0 (am_some (inj := (fun r => (.inr (some (.ref (loc (5, 0, 0)))), r))) hq1 (A_X8_measured _ (hC.2.2.2.2.2.2.2.2.2.2.2.2.1) _ _ _ h)) rfl rfl rfl rfl rfl ⟨rfl, rfl⟩ ?_
  refine aw_bind rfl (fun q2 hq2 => ?_)
  refine aw_cVi hC dX8_wide_4 cv_RX8_388 rfl rm_5_0_0 (am_some (inj := (fun r => (.inr (some (.int r)), q1))) hq2 (A_X7_greatestDistance _ (hC.2.2.2.2.2.2.2.2.2.2.2.2.1) _ _ _ q1)) rfl rfl rfl rfl rfl ⟨rfl, rfl⟩ ?_
  exact aw_iret hC dX8_wide_7 rfl rfl
set_option maxHeartbeats 4000000 in
set_option maxRecDepth 100000 in
theorem L_X7_nodesWithOneEdge_4 (h : HD) (hC : Cx p l e R s m args meth c D loc cy A cX7_nodesWithOneEdge 3 (some .int) RX7 3 82 0 0)  : ∀ (n4 : Nat) (x1 : Int32) (x2 : Int32), AW p l e R s m args below meth c D loc cy A 3 (QM below D loc cy A args s) (fun (r : Option Int32) => r.map (fun r => (.inr (some (.int r)), h))) (0, 0) 4 [(0, .ref (loc (5, 0, 0))), (1, .int x1), (2, .int x2)] [] h (jX7_nodesWithOneEdge_L4 h n4 x1 x2) := by
  intro n4
  induction n4 with
  | zero => intro x1 x2; exact aw_none rfl
  | succ n4 ih4 =>
    intro x1 x2
    rw [jX7_nodesWithOneEdge_L4]
    refine aw_iload_n hC dX7_nodesWithOneEdge_4 rfl ?_
    refine aw_aload_n hC dX7_nodesWithOneEdge_5 rfl ?_
    refine aw_gfI hC dX7_nodesWithOneEdge_6 fg_RX7_33 rfl rm_5_0_0 ?_
    refine aw_icmp_ge hC dX7_nodesWithOneEdge_9 (tgt := 30) (by decide) ?_ ?_
    · refine aw_iload_n hC dX7_nodesWithOneEdge_30 rfl ?_
      exact aw_iret hC dX7_nodesWithOneEdge_31 rfl rfl
    · refine aw_aload_n hC dX7_nodesWithOneEdge_12 rfl ?_
      refine aw_iload_n hC dX7_nodesWithOneEdge_13 rfl ?_
      refine aw_bind rfl (fun q1 hq1 => ?_)
      refine aw_cVi hC dX7_nodesWithOneEdge_14 cv_RX7_95 rfl rm_5_0_0 (am_some (inj := (fun r => (.inr (some (.int r)), h))) hq1 (A_X7_edgesAt _ (hC.2.2.2.2.2.2.2.2.2.2.2.2.1) _ _ _ x2 h)) rfl rfl rfl rfl rfl ⟨rfl, rfl⟩ ?_
      refine aw_iconst hC dX7_nodesWithOneEdge_17 (v := 1) (by decide) ?_
      refine aw_icmp_ne hC dX7_nodesWithOneEdge_18 (tgt := 24) (by decide) ?_ ?_
      · refine aw_iinc hC dX7_nodesWithOneEdge_24 rfl (v := x2 + 1) (by first | rfl | decide) (by decide) ?_
        refine aw_goto hC dX7_nodesWithOneEdge_27 (tgt := 4) (by decide) ?_
        refine aw_sub [0, 1, 2] ?_
        exact ih4 x1 (x2 + 1)
      · refine aw_iinc hC dX7_nodesWithOneEdge_21 rfl (v := x1 + 1) (by first | rfl | decide) (by decide) ?_
        refine aw_iinc hC dX7_nodesWithOneEdge_24 rfl (v := x2 + 1) (by first | rfl | decide) (by decide) ?_
        refine aw_goto hC dX7_nodesWithOneEdge_27 (tgt := 4) (by decide) ?_
        refine aw_sub [0, 1, 2] ?_
        exact ih4 (x1 + 1) (x2 + 1)
set_option maxHeartbeats 4000000 in
set_option maxRecDepth 100000 in
theorem A_X7_nodesWithOneEdge (l : Launch) (hl0 : l.stackTraces = false) (D : va_G) (loc : Rf → Nat) (cy : Nat → ClassId)  (h : HD) : AM l D loc cy yX7_nodesWithOneEdge cX7_nodesWithOneEdge 3 (some .int) 3 82 [.ref (loc (5, 0, 0))] h ((jX7_nodesWithOneEdge h).map (fun r => (.inr (some (.int r)), h))) := by
  refine am_start (y := yX7_nodesWithOneEdge) (av := [.ref (loc (5, 0, 0))]) (nL := 3) (h := h) (RF := fun (r : Option Int32) => r.map (fun r => (.inr (some (.int r)), h))) (x := jX7_nodesWithOneEdge h) hl0 (by decide +kernel) rfl ?_
  intro p e R s m below meth c A hC
  unfold jX7_nodesWithOneEdge
  refine aw_iconst hC dX7_nodesWithOneEdge_0 (v := 0) (by decide) ?_
  refine aw_istore_n hC dX7_nodesWithOneEdge_1 (by decide) ?_
  refine aw_iconst hC dX7_nodesWithOneEdge_2 (v := 0) (by decide) ?_
  refine aw_istore_n hC dX7_nodesWithOneEdge_3 (by decide) ?_
  refine aw_sub [0, 1, 2] ?_
  exact L_X7_nodesWithOneEdge_4 h  hC FU (0 : Int32) (0 : Int32)
set_option maxHeartbeats 4000000 in
set_option maxRecDepth 100000 in
theorem A_X8_leaves (l : Launch) (hl0 : l.stackTraces = false) (D : va_G) (loc : Rf → Nat) (cy : Nat → ClassId)  (h : HD) : AM l D loc cy yX8_leaves cX8_leaves 1 (some .int) 4 104 [.ref (loc (6, 0, 0))] h ((jX8_leaves h).map (fun r => (.inr (some (.int r.1)), r.2))) := by
  refine am_start (y := yX8_leaves) (av := [.ref (loc (6, 0, 0))]) (nL := 1) (h := h) (RF := fun (r : Option (Int32 × HD)) => r.map (fun r => (.inr (some (.int r.1)), r.2))) (x := jX8_leaves h) hl0 (by decide +kernel) rfl ?_
  intro p e R s m below meth c A hC
  unfold jX8_leaves
  refine aw_aload_n hC dX8_leaves_0 rfl ?_
  refine aw_bind rfl (fun q1 hq1 => ?_)
  refine aw_cVr hC dX8_leaves_1 cv_RX8_366 rfl rm_6_0_0 (am_some (inj := (fun r => (.inr (some (.ref (loc (5, 0, 0)))), r))) hq1 (A_X8_grown _ (hC.2.2.2.2.2.2.2.2.2.2.2.2.1) _ _ _ h)) rfl rfl rfl rfl rfl ⟨rfl, rfl⟩ ?_
  refine aw_bind rfl (fun q2 hq2 => ?_)
  refine aw_cVi hC dX8_leaves_4 cv_RX8_391 rfl rm_5_0_0 (am_some (inj := (fun r => (.inr (some (.int r)), q1))) hq2 (A_X7_nodesWithOneEdge _ (hC.2.2.2.2.2.2.2.2.2.2.2.2.1) _ _ _ q1)) rfl rfl rfl rfl rfl ⟨rfl, rfl⟩ ?_
  exact aw_iret hC dX8_leaves_7 rfl rfl
set_option maxHeartbeats 4000000 in
set_option maxRecDepth 100000 in
theorem A_X7_lighten (l : Launch) (hl0 : l.stackTraces = false) (D : va_G) (loc : Rf → Nat) (cy : Nat → ClassId) (p1 : Int32) (h : HD) : AM l D loc cy yX7_lighten cX7_lighten 2 (none) 1 37 [.ref (loc (5, 0, 0)), .int p1] h ((jX7_lighten p1 h).map (fun r => (.inr (none), r))) := by
  refine am_start (y := yX7_lighten) (av := [.ref (loc (5, 0, 0)), .int p1]) (nL := 2) (h := h) (RF := fun (r : Option HD) => r.map (fun r => (.inr (none), r))) (x := jX7_lighten p1 h) hl0 (by decide +kernel) rfl ?_
  intro p e R s m below meth c A hC
  unfold jX7_lighten
  refine aw_aload_n hC dX7_lighten_0 rfl ?_
  refine aw_iload_n hC dX7_lighten_1 rfl ?_
  refine aw_cVb hC dX7_lighten_2 cv_RX7_66 rfl rm_5_0_0 (A_X7_isNode _ (hC.2.2.2.2.2.2.2.2.2.2.2.2.1) _ _ _ p1 h) rfl rfl rfl rfl rfl ⟨rfl, rfl⟩ ?_
  refine aw_if_eq_b hC dX7_lighten_5 (tgt := 18) (by decide) ?_ ?_
  · exact aw_vret hC dX7_lighten_18 rfl rfl
  · refine aw_aload_n hC dX7_lighten_8 rfl ?_
    refine aw_gfR hC dX7_lighten_9 fg_RX7_25 rfl rfl rm_5_0_0 ?_
    refine aw_iload_n hC dX7_lighten_12 rfl ?_
    refine aw_dup2 hC dX7_lighten_13 rfl rfl ?_
    refine aw_guard rfl (fun g1 => ?_)
    refine aw_iald hC dX7_lighten_14 rm_5_0_5 rfl rfl g1 rfl ?_
    refine aw_iconst hC dX7_lighten_15 (v := 1) (by decide) ?_
    refine aw_isub hC dX7_lighten_16 ?_
    refine aw_guard rfl (fun g3 => ?_)
    refine aw_iast hC dX7_lighten_17 rm_5_0_5 rfl rfl g3 rfl (fun h2 => ?_)
    exact aw_vret hC dX7_lighten_18 rfl rfl
set_option maxHeartbeats 4000000 in
set_option maxRecDepth 100000 in
theorem L_X7_cutOff_2 (p1 : Int32) (h : HD) (k28 : Int32 → Option (Int32 × HD)) (hC : Cx p l e R s m args meth c D loc cy A cX7_cutOff 3 (some .int) RX7 2 59 0 0) (hk28 : ∀ (x2 : Int32), AW p l e R s m args below meth c D loc cy A 3 (QM below D loc cy A args s) (fun (r : Option (Int32 × HD)) => r.map (fun r => (.inr (some (.int r.1)), r.2))) (0, 0) 28 [(0, .ref (loc (5, 0, 0))), (1, .int p1), (2, .int x2)] [] h (k28 x2)) : ∀ (n2 : Nat) (x2 : Int32), AW p l e R s m args below meth c D loc cy A 3 (QM below D loc cy A args s) (fun (r : Option (Int32 × HD)) => r.map (fun r => (.inr (some (.int r.1)), r.2))) (0, 0) 2 [(0, .ref (loc (5, 0, 0))), (1, .int p1), (2, .int x2)] [] h (jX7_cutOff_L2 p1 h k28 n2 x2) := by
  intro n2
  induction n2 with
  | zero => intro x2; exact aw_none rfl
  | succ n2 ih2 =>
    intro x2
    rw [jX7_cutOff_L2]
    refine aw_iload_n hC dX7_cutOff_2 rfl ?_
    refine aw_aload_n hC dX7_cutOff_3 rfl ?_
    refine aw_gfI hC dX7_cutOff_4 fg_RX7_40 rfl rm_5_0_0 ?_
    refine aw_icmp_ge hC dX7_cutOff_7 (tgt := 87) (by decide) ?_ ?_
    · refine aw_iconst hC dX7_cutOff_87 (v := -1) (by decide) ?_
      exact aw_iret hC dX7_cutOff_88 rfl rfl
    · refine aw_aload_n hC dX7_cutOff_10 rfl ?_
      refine aw_iload_n hC dX7_cutOff_11 rfl ?_
      refine aw_iload_n hC dX7_cutOff_12 rfl ?_
      refine aw_bind rfl (fun q1 hq1 => ?_)
      refine aw_cVb hC dX7_cutOff_13 cv_RX7_91 rfl rm_5_0_0 (am_some (inj := (fun r => (.inr (some (.int (b2i r))), h))) hq1 (A_X7_isAtEdge _ (hC.2.2.2.2.2.2.2.2.2.2.2.2.1) _ _ _ p1 x2 h)) rfl rfl rfl rfl rfl ⟨rfl, rfl⟩ ?_
      refine aw_if_eq_b hC dX7_cutOff_16 (tgt := 81) (by decide) ?_ ?_
      · refine aw_iinc hC dX7_cutOff_81 rfl (v := x2 + 1) (by first | rfl | decide) (by decide) ?_
        refine aw_goto hC dX7_cutOff_84 (tgt := 2) (by decide) ?_
        refine aw_sub [0, 1, 2] ?_
        exact ih2 (x2 + 1)
      · refine aw_aload_n hC dX7_cutOff_19 rfl ?_
        refine aw_gfR hC dX7_cutOff_20 fg_RX7_21 rfl rfl rm_5_0_0 ?_
        refine aw_iload_n hC dX7_cutOff_23 rfl ?_
        refine aw_guard rfl (fun g2 => ?_)
        refine aw_zald hC dX7_cutOff_24 rm_5_0_4 rfl rfl g2 rfl ?_
        refine aw_if_ne hC dX7_cutOff_25 (tgt := 81) (by decide) ?_ ?_
        · refine aw_iinc hC dX7_cutOff_81 rfl (v := x2 + 1) (by first | rfl | decide) (by decide) ?_
          refine aw_goto hC dX7_cutOff_84 (tgt := 2) (by decide) ?_
          refine aw_sub [0, 1, 2] ?_
          exact ih2 (x2 + 1)
        · refine aw_sub [0, 1, 2] ?_
          exact hk28 x2
set_option maxHeartbeats 4000000 in
set_option maxRecDepth 100000 in
theorem A_X7_cutOff (l : Launch) (hl0 : l.stackTraces = false) (D : va_G) (loc : Rf → Nat) (cy : Nat → ClassId) (p1 : Int32) (h : HD) : AM l D loc cy yX7_cutOff cX7_cutOff 3 (some .int) 2 59 [.ref (loc (5, 0, 0)), .int p1] h ((jX7_cutOff p1 h).map (fun r => (.inr (some (.int r.1)), r.2))) := by
  refine am_start (y := yX7_cutOff) (av := [.ref (loc (5, 0, 0)), .int p1]) (nL := 3) (h := h) (RF := fun (r : Option (Int32 × HD)) => r.map (fun r => (.inr (some (.int r.1)), r.2))) (x := jX7_cutOff p1 h) hl0 (by decide +kernel) rfl ?_
  intro p e R s m below meth c A hC
  unfold jX7_cutOff
  refine aw_iconst hC dX7_cutOff_0 (v := 0) (by decide) ?_
  refine aw_istore_n hC dX7_cutOff_1 (by decide) ?_
  refine aw_sub [0, 1, 2] ?_
  refine L_X7_cutOff_2 p1 h _ hC ?_ FU (0 : Int32)
  · intro y2_2
    refine aw_aload_n hC dX7_cutOff_28 rfl ?_
    refine aw_gfR hC dX7_cutOff_29 fg_RX7_21 rfl rfl rm_5_0_0 ?_
    refine aw_iload_n hC dX7_cutOff_32 rfl ?_
    refine aw_iconst hC dX7_cutOff_33 (v := 1) (by decide) ?_
    refine aw_guard rfl (fun g4 => ?_)
    refine aw_zast hC dX7_cutOff_34 rm_5_0_4 rfl rfl g4 rfl (fun h3 => ?_)
    refine aw_aload_n hC dX7_cutOff_35 rfl ?_
    refine aw_aload_n hC dX7_cutOff_36 rfl ?_
    refine aw_gfR hC dX7_cutOff_37 fg_RX7_15 rfl rfl rm_5_0_0 ?_
    refine aw_iload_n hC dX7_cutOff_40 rfl ?_
    refine aw_guard rfl (fun g5 => ?_)
    refine aw_iald hC dX7_cutOff_41 rm_5_0_2 rfl rfl g5 rfl ?_
    refine aw_bind rfl (fun q6 hq6 => ?_)
    refine aw_cVv hC dX7_cutOff_42 cv_RX7_107 rfl rm_5_0_0 (am_some (inj := (fun r => (.inr (none), r))) hq6 (A_X7_lighten _ (hC.2.2.2.2.2.2.2.2.2.2.2.2.1) _ _ _ (gI h3 (5, 0, 2) y2_2.toNatClampNeg) h3)) rfl rfl rfl rfl rfl ⟨rfl, rfl⟩ ?_
    refine aw_aload_n hC dX7_cutOff_45 rfl ?_
    refine aw_aload_n hC dX7_cutOff_46 rfl ?_
    refine aw_gfR hC dX7_cutOff_47 fg_RX7_18 rfl rfl rm_5_0_0 ?_
    refine aw_iload_n hC dX7_cutOff_50 rfl ?_
    refine aw_guard rfl (fun g7 => ?_)
    refine aw_iald hC dX7_cutOff_51 rm_5_0_3 rfl rfl g7 rfl ?_
    refine aw_bind rfl (fun q8 hq8 => ?_)
    refine aw_cVv hC dX7_cutOff_52 cv_RX7_107 rfl rm_5_0_0 (am_some (inj := (fun r => (.inr (none), r))) hq8 (A_X7_lighten _ (hC.2.2.2.2.2.2.2.2.2.2.2.2.1) _ _ _ (gI q6 (5, 0, 3) y2_2.toNatClampNeg) q6)) rfl rfl rfl rfl rfl ⟨rfl, rfl⟩ ?_
    refine aw_aload_n hC dX7_cutOff_55 rfl ?_
    refine aw_gfR hC dX7_cutOff_56 fg_RX7_15 rfl rfl rm_5_0_0 ?_
    refine aw_iload_n hC dX7_cutOff_59 rfl ?_
    refine aw_guard rfl (fun g9 => ?_)
    refine aw_iald hC dX7_cutOff_60 rm_5_0_2 rfl rfl g9 rfl ?_
    refine aw_iload_n hC dX7_cutOff_61 rfl ?_
    refine aw_icmp_ne hC dX7_cutOff_62 (tgt := 74) (by decide) ?_ ?_
    · refine aw_aload_n hC dX7_cutOff_74 rfl ?_
      refine aw_gfR hC dX7_cutOff_75 fg_RX7_15 rfl rfl rm_5_0_0 ?_
      refine aw_iload_n hC dX7_cutOff_78 rfl ?_
      refine aw_guard rfl (fun g10 => ?_)
      refine aw_iald hC dX7_cutOff_79 rm_5_0_2 rfl rfl g10 rfl ?_
      exact aw_iret hC dX7_cutOff_80 rfl rfl
    · refine aw_aload_n hC dX7_cutOff_65 rfl ?_
      refine aw_gfR hC dX7_cutOff_66 fg_RX7_18 rfl rfl rm_5_0_0 ?_
      refine aw_iload_n hC dX7_cutOff_69 rfl ?_
      refine aw_guard rfl (fun g11 => ?_)
      refine aw_iald hC dX7_cutOff_70 rm_5_0_3 rfl rfl g11 rfl ?_
      refine aw_goto hC dX7_cutOff_71 (tgt := 80) (by decide) ?_
      exact aw_iret hC dX7_cutOff_80 rfl rfl
set_option maxHeartbeats 4000000 in
set_option maxRecDepth 100000 in
theorem L_X7_differencesOfCodes_2 (k29 : HD → Option (Int32 × HD)) (hC : Cx p l e R s m args meth c D loc cy A cX7_differencesOfCodes 3 (some .int) RX7 3 82 0 0) (hk29 : ∀  (h2 : HD), AW p l e R s m args below meth c D loc cy A 3 (QM below D loc cy A args s) (fun (r : Option (Int32 × HD)) => r.map (fun r => (.inr (some (.int r.1)), r.2))) (0, 0) 29 [(0, .ref (loc (5, 0, 0)))] [] h2 (k29  h2)) : ∀ (n2 : Nat) (x1 : Int32) (h : HD), AW p l e R s m args below meth c D loc cy A 3 (QM below D loc cy A args s) (fun (r : Option (Int32 × HD)) => r.map (fun r => (.inr (some (.int r.1)), r.2))) (0, 0) 2 [(0, .ref (loc (5, 0, 0))), (1, .int x1)] [] h (jX7_differencesOfCodes_L2 k29 n2 x1 h) := by
  intro n2
  induction n2 with
  | zero => intro x1 h; exact aw_none rfl
  | succ n2 ih2 =>
    intro x1 h
    rw [jX7_differencesOfCodes_L2]
    refine aw_iload_n hC dX7_differencesOfCodes_2 rfl ?_
    refine aw_aload_n hC dX7_differencesOfCodes_3 rfl ?_
    refine aw_gfI hC dX7_differencesOfCodes_4 fg_RX7_40 rfl rm_5_0_0 ?_
    refine aw_icmp_ge hC dX7_differencesOfCodes_7 (tgt := 29) (by decide) ?_ ?_
    · refine aw_sub [0] ?_
      exact hk29 h
    · refine aw_iload_n hC dX7_differencesOfCodes_10 rfl ?_
      refine aw_bipush hC dX7_differencesOfCodes_11 (v := 11) (by decide) ?_
      refine aw_icmp_ge hC dX7_differencesOfCodes_13 (tgt := 29) (by decide) ?_ ?_
      · refine aw_sub [0] ?_
        exact hk29 h
      · refine aw_aload_n hC dX7_differencesOfCodes_16 rfl ?_
        refine aw_gfR hC dX7_differencesOfCodes_17 fg_RX7_21 rfl rfl rm_5_0_0 ?_
        refine aw_iload_n hC dX7_differencesOfCodes_20 rfl ?_
        refine aw_iconst hC dX7_differencesOfCodes_21 (v := 0) (by decide) ?_
        refine aw_guard rfl (fun g2 => ?_)
        refine aw_zast hC dX7_differencesOfCodes_22 rm_5_0_4 rfl rfl g2 rfl (fun h1 => ?_)
        refine aw_iinc hC dX7_differencesOfCodes_23 rfl (v := x1 + 1) (by first | rfl | decide) (by decide) ?_
        refine aw_goto hC dX7_differencesOfCodes_26 (tgt := 2) (by decide) ?_
        refine aw_sub [0, 1] ?_
        exact ih2 (x1 + 1) h1
set_option maxHeartbeats 4000000 in
set_option maxRecDepth 100000 in
theorem L_X7_differencesOfCodes_31 (k62 : HD → Option (Int32 × HD)) (hC : Cx p l e R s m args meth c D loc cy A cX7_differencesOfCodes 3 (some .int) RX7 3 82 0 0) (hk62 : ∀  (h2 : HD), AW p l e R s m args below meth c D loc cy A 3 (QM below D loc cy A args s) (fun (r : Option (Int32 × HD)) => r.map (fun r => (.inr (some (.int r.1)), r.2))) (0, 0) 62 [(0, .ref (loc (5, 0, 0)))] [] h2 (k62  h2)) : ∀ (n31 : Nat) (x1 : Int32) (h : HD), AW p l e R s m args below meth c D loc cy A 3 (QM below D loc cy A args s) (fun (r : Option (Int32 × HD)) => r.map (fun r => (.inr (some (.int r.1)), r.2))) (0, 0) 31 [(0, .ref (loc (5, 0, 0))), (1, .int x1)] [] h (jX7_differencesOfCodes_L31 k62 n31 x1 h) := by
  intro n31
  induction n31 with
  | zero => intro x1 h; exact aw_none rfl
  | succ n31 ih31 =>
    intro x1 h
    rw [jX7_differencesOfCodes_L31]
    refine aw_iload_n hC dX7_differencesOfCodes_31 rfl ?_
    refine aw_aload_n hC dX7_differencesOfCodes_32 rfl ?_
    refine aw_gfI hC dX7_differencesOfCodes_33 fg_RX7_33 rfl rm_5_0_0 ?_
    refine aw_icmp_ge hC dX7_differencesOfCodes_36 (tgt := 62) (by decide) ?_ ?_
    · refine aw_sub [0] ?_
      exact hk62 h
    · refine aw_iload_n hC dX7_differencesOfCodes_39 rfl ?_
      refine aw_bipush hC dX7_differencesOfCodes_40 (v := 12) (by decide) ?_
      refine aw_icmp_ge hC dX7_differencesOfCodes_42 (tgt := 62) (by decide) ?_ ?_
      · refine aw_sub [0] ?_
        exact hk62 h
      · refine aw_aload_n hC dX7_differencesOfCodes_45 rfl ?_
        refine aw_gfR hC dX7_differencesOfCodes_46 fg_RX7_25 rfl rfl rm_5_0_0 ?_
        refine aw_iload_n hC dX7_differencesOfCodes_49 rfl ?_
        refine aw_aload_n hC dX7_differencesOfCodes_50 rfl ?_
        refine aw_iload_n hC dX7_differencesOfCodes_51 rfl ?_
        refine aw_bind rfl (fun q4 hq4 => ?_)
        refine aw_cVi hC dX7_differencesOfCodes_52 cv_RX7_95 rfl rm_5_0_0 (am_some (inj := (fun r => (.inr (some (.int r)), h))) hq4 (A_X7_edgesAt _ (hC.2.2.2.2.2.2.2.2.2.2.2.2.1) _ _ _ x1 h)) rfl rfl rfl rfl rfl ⟨rfl, rfl⟩ ?_
        refine aw_guard rfl (fun g6 => ?_)
        refine aw_iast hC dX7_differencesOfCodes_55 rm_5_0_5 rfl rfl g6 rfl (fun h5 => ?_)
        refine aw_iinc hC dX7_differencesOfCodes_56 rfl (v := x1 + 1) (by first | rfl | decide) (by decide) ?_
        refine aw_goto hC dX7_differencesOfCodes_59 (tgt := 31) (by decide) ?_
        refine aw_sub [0, 1] ?_
        exact ih31 (x1 + 1) h5
set_option maxHeartbeats 4000000 in
set_option maxRecDepth 100000 in
theorem L_X7_differencesOfCodes_66  (hC : Cx p l e R s m args meth c D loc cy A cX7_differencesOfCodes 3 (some .int) RX7 3 82 0 0)  : ∀ (n66 : Nat) (x1 : Int32) (x2 : Int32) (h : HD), AW p l e R s m args below meth c D loc cy A 3 (QM below D loc cy A args s) (fun (r : Option (Int32 × HD)) => r.map (fun r => (.inr (some (.int r.1)), r.2))) (0, 0) 66 [(0, .ref (loc (5, 0, 0))), (1, .int x1), (2, .int x2)] [] h (jX7_differencesOfCodes_L66 n66 x1 x2 h) := by
  intro n66
  induction n66 with
  | zero => intro x1 x2 h; exact aw_none rfl
  | succ n66 ih66 =>
    intro x1 x2 h
    rw [jX7_differencesOfCodes_L66]
    refine aw_iload_n hC dX7_differencesOfCodes_66 rfl ?_
    refine aw_aload_n hC dX7_differencesOfCodes_67 rfl ?_
    refine aw_gfI hC dX7_differencesOfCodes_68 fg_RX7_37 rfl rm_5_0_0 ?_
    refine aw_icmp_ge hC dX7_differencesOfCodes_71 (tgt := 100) (by decide) ?_ ?_
    · refine aw_iload_n hC dX7_differencesOfCodes_100 rfl ?_
      exact aw_iret hC dX7_differencesOfCodes_101 rfl rfl
    · refine aw_aload_n hC dX7_differencesOfCodes_74 rfl ?_
      refine aw_aload_n hC dX7_differencesOfCodes_75 rfl ?_
      refine aw_iconst hC dX7_differencesOfCodes_76 (v := -1) (by decide) ?_
      refine aw_bind rfl (fun q8 hq8 => ?_)
      refine aw_cVi hC dX7_differencesOfCodes_77 cv_RX7_70 rfl rm_5_0_0 (am_some (inj := (fun r => (.inr (some (.int r)), h))) hq8 (A_X7_leastOfWeightOne _ (hC.2.2.2.2.2.2.2.2.2.2.2.2.1) _ _ _ (-1 : Int32) h)) rfl rfl rfl rfl rfl ⟨rfl, rfl⟩ ?_
      refine aw_bind rfl (fun q9 hq9 => ?_)
      refine aw_cVi hC dX7_differencesOfCodes_80 cv_RX7_104 rfl rm_5_0_0 (am_some (inj := (fun r => (.inr (some (.int r.1)), r.2))) hq9 (A_X7_cutOff _ (hC.2.2.2.2.2.2.2.2.2.2.2.2.1) _ _ _ q8 h)) rfl rfl rfl rfl rfl ⟨rfl, rfl⟩ ?_
      refine aw_aload_n hC dX7_differencesOfCodes_83 rfl ?_
      refine aw_iload_n hC dX7_differencesOfCodes_84 rfl ?_
      refine aw_bind rfl (fun q10 hq10 => ?_)
      refine aw_cVi hC dX7_differencesOfCodes_85 cv_RX7_73 rfl rm_5_0_0 (am_some (inj := (fun r => (.inr (some (.int r)), q9.2))) hq10 (A_X7_numberAt _ (hC.2.2.2.2.2.2.2.2.2.2.2.2.1) _ _ _ x2 q9.2)) rfl rfl rfl rfl rfl ⟨rfl, rfl⟩ ?_
      refine aw_icmp_eq hC dX7_differencesOfCodes_88 (tgt := 94) (by decide) ?_ ?_
      · refine aw_iinc hC dX7_differencesOfCodes_94 rfl (v := x2 + 1) (by first | rfl | decide) (by decide) ?_
        refine aw_goto hC dX7_differencesOfCodes_97 (tgt := 66) (by decide) ?_
        refine aw_sub [0, 1, 2] ?_
        exact ih66 x1 (x2 + 1) q9.2
      · refine aw_iinc hC dX7_differencesOfCodes_91 rfl (v := x1 + 1) (by first | rfl | decide) (by decide) ?_
        refine aw_iinc hC dX7_differencesOfCodes_94 rfl (v := x2 + 1) (by first | rfl | decide) (by decide) ?_
        refine aw_goto hC dX7_differencesOfCodes_97 (tgt := 66) (by decide) ?_
        refine aw_sub [0, 1, 2] ?_
        exact ih66 (x1 + 1) (x2 + 1) q9.2
set_option maxHeartbeats 4000000 in
set_option maxRecDepth 100000 in
theorem A_X7_differencesOfCodes (l : Launch) (hl0 : l.stackTraces = false) (D : va_G) (loc : Rf → Nat) (cy : Nat → ClassId)  (h : HD) : AM l D loc cy yX7_differencesOfCodes cX7_differencesOfCodes 3 (some .int) 3 82 [.ref (loc (5, 0, 0))] h ((jX7_differencesOfCodes h).map (fun r => (.inr (some (.int r.1)), r.2))) := by
  refine am_start (y := yX7_differencesOfCodes) (av := [.ref (loc (5, 0, 0))]) (nL := 3) (h := h) (RF := fun (r : Option (Int32 × HD)) => r.map (fun r => (.inr (some (.int r.1)), r.2))) (x := jX7_differencesOfCodes h) hl0 (by decide +kernel) rfl ?_
  intro p e R s m below meth c A hC
  unfold jX7_differencesOfCodes
  refine aw_iconst hC dX7_differencesOfCodes_0 (v := 0) (by decide) ?_
  refine aw_istore_n hC dX7_differencesOfCodes_1 (by decide) ?_
  refine aw_sub [0, 1] ?_
  refine L_X7_differencesOfCodes_2  _ hC ?_ FU (0 : Int32) h
  · intro h3
    refine aw_iconst hC dX7_differencesOfCodes_29 (v := 0) (by decide) ?_
    refine aw_istore_n hC dX7_differencesOfCodes_30 (by decide) ?_
    refine aw_sub [0, 1] ?_
    refine L_X7_differencesOfCodes_31  _ hC ?_ FU (0 : Int32) h3
    · intro h7
      refine aw_iconst hC dX7_differencesOfCodes_62 (v := 0) (by decide) ?_
      refine aw_istore_n hC dX7_differencesOfCodes_63 (by decide) ?_
      refine aw_iconst hC dX7_differencesOfCodes_64 (v := 0) (by decide) ?_
      refine aw_istore_n hC dX7_differencesOfCodes_65 (by decide) ?_
      refine aw_sub [0, 1, 2] ?_
      exact L_X7_differencesOfCodes_66   hC FU (0 : Int32) (0 : Int32) h7
set_option maxHeartbeats 4000000 in
set_option maxRecDepth 100000 in
theorem A_X8_codeGap (l : Launch) (hl0 : l.stackTraces = false) (D : va_G) (loc : Rf → Nat) (cy : Nat → ClassId)  (h : HD) : AM l D loc cy yX8_codeGap cX8_codeGap 1 (some .int) 4 104 [.ref (loc (6, 0, 0))] h ((jX8_codeGap h).map (fun r => (.inr (some (.int r.1)), r.2))) := by
  refine am_start (y := yX8_codeGap) (av := [.ref (loc (6, 0, 0))]) (nL := 1) (h := h) (RF := fun (r : Option (Int32 × HD)) => r.map (fun r => (.inr (some (.int r.1)), r.2))) (x := jX8_codeGap h) hl0 (by decide +kernel) rfl ?_
  intro p e R s m below meth c A hC
  unfold jX8_codeGap
  refine aw_aload_n hC dX8_codeGap_0 rfl ?_
  refine aw_bind rfl (fun q1 hq1 => ?_)
  refine aw_cVr hC dX8_codeGap_1 cv_RX8_366 rfl rm_6_0_0 (am_some (inj := (fun r => (.inr (some (.ref (loc (5, 0, 0)))), r))) hq1 (A_X8_grown _ (hC.2.2.2.2.2.2.2.2.2.2.2.2.1) _ _ _ h)) rfl rfl rfl rfl rfl ⟨rfl, rfl⟩ ?_
  refine aw_bind rfl (fun q2 hq2 => ?_)
  refine aw_cVi hC dX8_codeGap_4 cv_RX8_394 rfl rm_5_0_0 (am_some (inj := (fun r => (.inr (some (.int r.1)), r.2))) hq2 (A_X7_differencesOfCodes _ (hC.2.2.2.2.2.2.2.2.2.2.2.2.1) _ _ _ q1)) rfl rfl rfl rfl rfl ⟨rfl, rfl⟩ ?_
  exact aw_iret hC dX8_codeGap_7 rfl rfl
set_option maxHeartbeats 4000000 in
set_option maxRecDepth 100000 in
theorem A_X8_meanWay (l : Launch) (hl0 : l.stackTraces = false) (D : va_G) (loc : Rf → Nat) (cy : Nat → ClassId)  (h : HD) : AM l D loc cy yX8_meanWay cX8_meanWay 2 (some .double) 7 168 [.ref (loc (6, 0, 0))] h ((jX8_meanWay h).map (fun r => (.inr (some (.double r.1)), r.2))) := by
  refine am_start (y := yX8_meanWay) (av := [.ref (loc (6, 0, 0))]) (nL := 2) (h := h) (RF := fun (r : Option (UInt64 × HD)) => r.map (fun r => (.inr (some (.double r.1)), r.2))) (x := jX8_meanWay h) hl0 (by decide +kernel) rfl ?_
  intro p e R s m below meth c A hC
  unfold jX8_meanWay
  refine aw_aload_n hC dX8_meanWay_0 rfl ?_
  refine aw_gfR hC dX8_meanWay_1 fg_RX8_42 rfl rfl rm_6_0_0 ?_
  refine aw_cVi hC dX8_meanWay_4 cv_RX8_138 rfl rm_1_0_0 (A_X2_count _ (hC.2.2.2.2.2.2.2.2.2.2.2.2.1) _ _ _ 0 (by decide) h) rfl rfl rfl rfl rfl ⟨rfl, rfl⟩ ?_
  refine aw_istore_n hC dX8_meanWay_7 (by decide) ?_
  refine aw_iload_n hC dX8_meanWay_8 rfl ?_
  refine aw_if_ne hC dX8_meanWay_9 (tgt := 16) (by decide) ?_ ?_
  · refine aw_aload_n hC dX8_meanWay_16 rfl ?_
    refine aw_bind rfl (fun q1 hq1 => ?_)
    refine aw_cVr hC dX8_meanWay_17 cv_RX8_245 rfl rm_6_0_0 (am_some (inj := (fun r => (.inr (some (.ref (loc (2, 0, 0)))), r))) hq1 (A_X8_parked _ (hC.2.2.2.2.2.2.2.2.2.2.2.2.1) _ _ _ h)) rfl rfl rfl rfl rfl ⟨rfl, rfl⟩ ?_
    refine aw_bind rfl (fun q2 hq2 => ?_)
    refine aw_cVi hC dX8_meanWay_20 cv_RX8_320 rfl rm_2_0_0 (am_some (inj := (fun r => (.inr (some (.int r)), q1))) hq2 (A_X4_wayOfAll _ (hC.2.2.2.2.2.2.2.2.2.2.2.2.1) _ _ _ 0 (by decide) q1)) rfl rfl rfl rfl rfl ⟨rfl, rfl⟩ ?_
    refine aw_i2d hC dX8_meanWay_23 ?_
    refine aw_iload_n hC dX8_meanWay_24 rfl ?_
    refine aw_i2d hC dX8_meanWay_25 ?_
    refine aw_guard rfl (fun g3 => ?_)
    refine aw_ddiv hC dX8_meanWay_26 (nn64_vf g3) ?_
    exact aw_dret hC dX8_meanWay_27 rfl rfl
  · refine aw_dconst0 hC dX8_meanWay_12 ?_
    refine aw_goto hC dX8_meanWay_13 (tgt := 27) (by decide) ?_
    exact aw_dret hC dX8_meanWay_27 rfl rfl
set_option maxHeartbeats 4000000 in
set_option maxRecDepth 100000 in
theorem A_X8_luckyShare (l : Launch) (hl0 : l.stackTraces = false) (D : va_G) (loc : Rf → Nat) (cy : Nat → ClassId)  (h : HD) : AM l D loc cy yX8_luckyShare cX8_luckyShare 2 (some .float) 7 168 [.ref (loc (6, 0, 0))] h ((jX8_luckyShare h).map (fun r => (.inr (some (.float r.1)), r.2))) := by
  refine am_start (y := yX8_luckyShare) (av := [.ref (loc (6, 0, 0))]) (nL := 2) (h := h) (RF := fun (r : Option (UInt32 × HD)) => r.map (fun r => (.inr (some (.float r.1)), r.2))) (x := jX8_luckyShare h) hl0 (by decide +kernel) rfl ?_
  intro p e R s m below meth c A hC
  unfold jX8_luckyShare
  refine aw_aload_n hC dX8_luckyShare_0 rfl ?_
  refine aw_gfR hC dX8_luckyShare_1 fg_RX8_42 rfl rfl rm_6_0_0 ?_
  refine aw_cVi hC dX8_luckyShare_4 cv_RX8_138 rfl rm_1_0_0 (A_X2_count _ (hC.2.2.2.2.2.2.2.2.2.2.2.2.1) _ _ _ 0 (by decide) h) rfl rfl rfl rfl rfl ⟨rfl, rfl⟩ ?_
  refine aw_istore_n hC dX8_luckyShare_7 (by decide) ?_
  refine aw_iload_n hC dX8_luckyShare_8 rfl ?_
  refine aw_if_ne hC dX8_luckyShare_9 (tgt := 16) (by decide) ?_ ?_
  · refine aw_aload_n hC dX8_luckyShare_16 rfl ?_
    refine aw_bind rfl (fun q1 hq1 => ?_)
    refine aw_cVr hC dX8_luckyShare_17 cv_RX8_245 rfl rm_6_0_0 (am_some (inj := (fun r => (.inr (some (.ref (loc (2, 0, 0)))), r))) hq1 (A_X8_parked _ (hC.2.2.2.2.2.2.2.2.2.2.2.2.1) _ _ _ h)) rfl rfl rfl rfl rfl ⟨rfl, rfl⟩ ?_
    refine aw_bind rfl (fun q2 hq2 => ?_)
    refine aw_cVi hC dX8_luckyShare_20 cv_RX8_317 rfl rm_2_0_0 (am_some (inj := (fun r => (.inr (some (.int r)), q1))) hq2 (A_X4_luckyCars _ (hC.2.2.2.2.2.2.2.2.2.2.2.2.1) _ _ _ 0 (by decide) q1)) rfl rfl rfl rfl rfl ⟨rfl, rfl⟩ ?_
    refine aw_i2f hC dX8_luckyShare_23 ?_
    refine aw_iload_n hC dX8_luckyShare_24 rfl ?_
    refine aw_i2f hC dX8_luckyShare_25 ?_
    refine aw_guard rfl (fun g3 => ?_)
    refine aw_fdiv hC dX8_luckyShare_26 (nn32_vf g3) ?_
    exact aw_fret hC dX8_luckyShare_27 rfl rfl
  · refine aw_fconst0 hC dX8_luckyShare_12 ?_
    refine aw_goto hC dX8_luckyShare_13 (tgt := 27) (by decide) ?_
    exact aw_fret hC dX8_luckyShare_27 rfl rfl
set_option maxHeartbeats 4000000 in
set_option maxRecDepth 100000 in
theorem A_X2_copyFrom (l : Launch) (hl0 : l.stackTraces = false) (D : va_G) (loc : Rf → Nat) (cy : Nat → ClassId) (o : Nat) (ho : o < 10) (r1 : Nat) (hr1 : r1 < 10) (h : HD) : AM l D loc cy yX2_copyFrom cX2_copyFrom 2 (none) 1 64 [.ref (loc (1, o, 0)), .ref (loc (1, r1, 0))] h ((jX2_copyFrom o r1 h).map (fun r => (.inr (none), r))) := by
  refine am_start (y := yX2_copyFrom) (av := [.ref (loc (1, o, 0)), .ref (loc (1, r1, 0))]) (nL := 2) (h := h) (RF := fun (r : Option HD) => r.map (fun r => (.inr (none), r))) (x := jX2_copyFrom o r1 h) hl0 (by decide +kernel) rfl ?_
  intro p e R s m below meth c A hC
  unfold jX2_copyFrom
  refine aw_aload_n hC dX2_copyFrom_0 rfl ?_
  refine aw_gfR hC dX2_copyFrom_1 fg_RX2_9 rfl rfl (rv_1_0 hr1) ?_
  refine aw_iconst hC dX2_copyFrom_4 (v := 0) (by decide) ?_
  refine aw_aload_n hC dX2_copyFrom_5 rfl ?_
  refine aw_gfR hC dX2_copyFrom_6 fg_RX2_9 rfl rfl (rv_1_0 ho) ?_
  refine aw_iconst hC dX2_copyFrom_9 (v := 0) (by decide) ?_
  refine aw_bipush hC dX2_copyFrom_10 (v := 11) (by decide) ?_
  refine aw_copyJ hC dX2_copyFrom_12 tw3_113 tw3_115 tw3_114 tw1_18 (rv_1_1 hr1) rfl rfl (rv_1_1 ho) rfl rfl (by decide) (by decide) (by decide) (a := 0) (b := 0) (k := 11) (by decide) (by decide) (by decide) (by decide) (by decide) rfl (by decide) (fun h1 => ?_)
  refine aw_aload_n hC dX2_copyFrom_15 rfl ?_
  refine aw_gfR hC dX2_copyFrom_16 fg_RX2_15 rfl rfl (rv_1_0 hr1) ?_
  refine aw_iconst hC dX2_copyFrom_19 (v := 0) (by decide) ?_
  refine aw_aload_n hC dX2_copyFrom_20 rfl ?_
  refine aw_gfR hC dX2_copyFrom_21 fg_RX2_15 rfl rfl (rv_1_0 ho) ?_
  refine aw_iconst hC dX2_copyFrom_24 (v := 0) (by decide) ?_
  refine aw_bipush hC dX2_copyFrom_25 (v := 11) (by decide) ?_
  refine aw_copyI hC dX2_copyFrom_27 tw3_113 tw3_115 tw3_114 tw1_18 (rv_1_2 hr1) rfl rfl (rv_1_2 ho) rfl rfl (by decide) (by decide) (by decide) (a := 0) (b := 0) (k := 11) (by decide) (by decide) (by decide) (by decide) (by decide) rfl (by decide) (fun h2 => ?_)
  refine aw_aload_n hC dX2_copyFrom_30 rfl ?_
  refine aw_aload_n hC dX2_copyFrom_31 rfl ?_
  refine aw_gfI hC dX2_copyFrom_32 fg_RX2_19 rfl (rv_1_0 hr1) ?_
  refine aw_pfI hC dX2_copyFrom_35 fg_RX2_19 fp_1_2 rfl (rv_1_0 ho) (fun h3 => ?_)
  refine aw_aload_n hC dX2_copyFrom_38 rfl ?_
  refine aw_aload_n hC dX2_copyFrom_39 rfl ?_
  refine aw_gfI hC dX2_copyFrom_40 fg_RX2_23 rfl (rv_1_0 hr1) ?_
  refine aw_pfI hC dX2_copyFrom_43 fg_RX2_23 fp_1_3 rfl (rv_1_0 ho) (fun h4 => ?_)
  exact aw_vret hC dX2_copyFrom_46 rfl rfl
set_option maxHeartbeats 4000000 in
set_option maxRecDepth 100000 in
theorem A_X2_changePreference (l : Launch) (hl0 : l.stackTraces = false) (D : va_G) (loc : Rf → Nat) (cy : Nat → ClassId) (o : Nat) (ho : o < 10) (p1 : Int32) (p2 : Int32) (h : HD) : AM l D loc cy yX2_changePreference cX2_changePreference 3 (none) 1 37 [.ref (loc (1, o, 0)), .int p1, .int p2] h ((jX2_changePreference o p1 p2 h).map (fun r => (.inr (none), r))) := by
  refine am_start (y := yX2_changePreference) (av := [.ref (loc (1, o, 0)), .int p1, .int p2]) (nL := 3) (h := h) (RF := fun (r : Option HD) => r.map (fun r => (.inr (none), r))) (x := jX2_changePreference o p1 p2 h) hl0 (by decide +kernel) rfl ?_
  intro p e R s m below meth c A hC
  unfold jX2_changePreference
  refine aw_aload_n hC dX2_changePreference_0 rfl ?_
  refine aw_iload_n hC dX2_changePreference_1 rfl ?_
  refine aw_cVb hC dX2_changePreference_2 cv_RX2_26 rfl (rv_1_0 ho) (A_X2_hasCar _ (hC.2.2.2.2.2.2.2.2.2.2.2.2.1) _ _ _ o ho p1 h) rfl rfl rfl rfl rfl ⟨rfl, rfl⟩ ?_
  refine aw_if_eq_b hC dX2_changePreference_5 (tgt := 15) (by decide) ?_ ?_
  · exact aw_vret hC dX2_changePreference_15 rfl rfl
  · refine aw_aload_n hC dX2_changePreference_8 rfl ?_
    refine aw_gfR hC dX2_changePreference_9 fg_RX2_15 rfl rfl (rv_1_0 ho) ?_
    refine aw_iload_n hC dX2_changePreference_12 rfl ?_
    refine aw_iload_n hC dX2_changePreference_13 rfl ?_
    refine aw_guard rfl (fun g2 => ?_)
    refine aw_iast hC dX2_changePreference_14 (rv_1_2 ho) rfl rfl g2 rfl (fun h1 => ?_)
    exact aw_vret hC dX2_changePreference_15 rfl rfl
set_option maxHeartbeats 4000000 in
set_option maxRecDepth 100000 in
theorem A_X8_parkedIf (l : Launch) (hl0 : l.stackTraces = false) (D : va_G) (loc : Rf → Nat) (cy : Nat → ClassId) (p1 : Int32) (p2 : Int32) (h : HD) : AM l D loc cy yX8_parkedIf cX8_parkedIf 3 (some (.object "ParkingCircle$Parking")) 6 148 [.ref (loc (6, 0, 0)), .int p1, .int p2] h ((jX8_parkedIf p1 p2 h).map (fun r => (.inr (some (.ref (loc (2, 0, 0)))), r))) := by
  refine am_start (y := yX8_parkedIf) (av := [.ref (loc (6, 0, 0)), .int p1, .int p2]) (nL := 3) (h := h) (RF := fun (r : Option HD) => r.map (fun r => (.inr (some (.ref (loc (2, 0, 0)))), r))) (x := jX8_parkedIf p1 p2 h) hl0 (by decide +kernel) rfl ?_
  intro p e R s m below meth c A hC
  unfold jX8_parkedIf
  refine aw_aload_n hC dX8_parkedIf_0 rfl ?_
  refine aw_gfR hC dX8_parkedIf_1 fg_RX8_46 rfl rfl rm_6_0_0 ?_
  refine aw_aload_n hC dX8_parkedIf_4 rfl ?_
  refine aw_gfR hC dX8_parkedIf_5 fg_RX8_42 rfl rfl rm_6_0_0 ?_
  refine aw_bind rfl (fun q1 hq1 => ?_)
  refine aw_cVv hC dX8_parkedIf_8 cv_RX8_134 rfl rm_1_1_0 (am_some (inj := (fun r => (.inr (none), r))) hq1 (A_X2_copyFrom _ (hC.2.2.2.2.2.2.2.2.2.2.2.2.1) _ _ _ 1 (by decide) 0 (by decide) h)) rfl rfl rfl rfl rfl ⟨rfl, rfl⟩ ?_
  refine aw_aload_n hC dX8_parkedIf_11 rfl ?_
  refine aw_gfR hC dX8_parkedIf_12 fg_RX8_46 rfl rfl rm_6_0_0 ?_
  refine aw_iload_n hC dX8_parkedIf_15 rfl ?_
  refine aw_iload_n hC dX8_parkedIf_16 rfl ?_
  refine aw_bind rfl (fun q2 hq2 => ?_)
  refine aw_cVv hC dX8_parkedIf_17 cv_RX8_412 rfl rm_1_1_0 (am_some (inj := (fun r => (.inr (none), r))) hq2 (A_X2_changePreference _ (hC.2.2.2.2.2.2.2.2.2.2.2.2.1) _ _ _ 1 (by decide) p1 p2 q1)) rfl rfl rfl rfl rfl ⟨rfl, rfl⟩ ?_
  refine aw_aload_n hC dX8_parkedIf_20 rfl ?_
  refine aw_gfR hC dX8_parkedIf_21 fg_RX8_62 rfl rfl rm_6_0_0 ?_
  refine aw_aload_n hC dX8_parkedIf_24 rfl ?_
  refine aw_gfR hC dX8_parkedIf_25 fg_RX8_46 rfl rfl rm_6_0_0 ?_
  refine aw_aload_n hC dX8_parkedIf_28 rfl ?_
  refine aw_gfR hC dX8_parkedIf_29 fg_RX8_46 rfl rfl rm_6_0_0 ?_
  refine aw_cVi hC dX8_parkedIf_32 cv_RX8_138 rfl rm_1_1_0 (A_X2_count _ (hC.2.2.2.2.2.2.2.2.2.2.2.2.1) _ _ _ 1 (by decide) q2) rfl rfl rfl rfl rfl ⟨rfl, rfl⟩ ?_
  refine aw_bind rfl (fun q3 hq3 => ?_)
  refine aw_cVv hC dX8_parkedIf_35 cv_RX8_301 rfl rm_2_0_0 (am_some (inj := (fun r => (.inr (none), r))) hq3 (A_X4_comeRound _ (hC.2.2.2.2.2.2.2.2.2.2.2.2.1) _ _ _ 0 (by decide) 1 (by decide) (jX2_count 1 q2) q2)) rfl rfl rfl rfl rfl ⟨rfl, rfl⟩ ?_
  refine aw_aload_n hC dX8_parkedIf_38 rfl ?_
  refine aw_gfR hC dX8_parkedIf_39 fg_RX8_62 rfl rfl rm_6_0_0 ?_
  exact aw_aret hC dX8_parkedIf_42 rfl (Or.inl ⟨_, rfl⟩) (Or.inr ⟨_, rfl⟩) rfl
set_option maxHeartbeats 4000000 in
set_option maxRecDepth 100000 in
theorem A_X8_spotIf (l : Launch) (hl0 : l.stackTraces = false) (D : va_G) (loc : Rf → Nat) (cy : Nat → ClassId) (p1 : Int32) (p2 : Int32) (h : HD) : AX l D loc cy yX8_spotIf (Cond.code yX8_spotIf cX8_spotIf 3 (some .int) :: LW) 7 170 2 12 [.ref (loc (6, 0, 0)), .int p1, .int p2] h ((jX8_spotIf p1 p2 h).map (fun r => (xi (fun v => some (.int v)) r.1, r.2))) := by
  refine ax_start (y := yX8_spotIf) (av := [.ref (loc (6, 0, 0)), .int p1, .int p2]) (nL := 3) (h := h) (RF := fun (r : Option ((Nat ⊕ Int32) × HD)) => r.map (fun r => (xi (fun v => some (.int v)) r.1, r.2))) (x := jX8_spotIf p1 p2 h) hl0 (by decide +kernel) rfl ?_
  intro p e R s m below meth c A hxt hC
  unfold jX8_spotIf
  refine aw_aload_n hC dX8_spotIf_0 rfl ?_
  refine aw_iload_n hC dX8_spotIf_1 rfl ?_
  refine aw_bind rfl (fun q1 hq1 => ?_)
  refine aw_cXv hC hxt dX8_spotIf_2 cv_RX8_234 rfl rm_6_0_0 (ax_some (inj := (fun r => (xi (fun _ => none) r, h))) hq1 (A_X8_needCar _ (hC.2.2.2.2.2.2.2.2.2.2.2.2.1) _ _ _ p1 h)) rfl rfl rfl rfl rfl ⟨rfl, rfl⟩ rfl rfl (fun _ => rfl) (fun v2 => ?_)
  refine aw_aload_n hC dX8_spotIf_5 rfl ?_
  refine aw_iload_n hC dX8_spotIf_6 rfl ?_
  refine aw_bind rfl (fun q3 hq3 => ?_)
  refine aw_cXv hC hxt dX8_spotIf_7 cv_RX8_405 rfl rm_6_0_0 (ax_some (inj := (fun r => (xi (fun _ => none) r, h))) hq3 (A_X8_needPreference _ (hC.2.2.2.2.2.2.2.2.2.2.2.2.1) _ _ _ p2 h)) rfl rfl rfl rfl rfl ⟨rfl, rfl⟩ rfl rfl (fun _ => rfl) (fun v4 => ?_)
  refine aw_aload_n hC dX8_spotIf_10 rfl ?_
  refine aw_iload_n hC dX8_spotIf_11 rfl ?_
  refine aw_iload_n hC dX8_spotIf_12 rfl ?_
  refine aw_bind rfl (fun q5 hq5 => ?_)
  refine aw_cVr hC dX8_spotIf_13 cv_RX8_408 rfl rm_6_0_0 (am_some (inj := (fun r => (.inr (some (.ref (loc (2, 0, 0)))), r))) hq5 (A_X8_parkedIf _ (hC.2.2.2.2.2.2.2.2.2.2.2.2.1) _ _ _ p1 p2 h)) rfl rfl rfl rfl rfl ⟨rfl, rfl⟩ ?_
  refine aw_iload_n hC dX8_spotIf_16 rfl ?_
  refine aw_bind rfl (fun q6 hq6 => ?_)
  refine aw_cVi hC dX8_spotIf_17 cv_RX8_253 rfl rm_2_0_0 (am_some (inj := (fun r => (.inr (some (.int r)), q5))) hq6 (A_X4_spotOf _ (hC.2.2.2.2.2.2.2.2.2.2.2.2.1) _ _ _ 0 (by decide) p1 q5)) rfl rfl rfl rfl rfl ⟨rfl, rfl⟩ ?_
  exact aw_ireX hC dX8_spotIf_20 rfl rfl rfl rfl
set_option maxHeartbeats 4000000 in
set_option maxRecDepth 100000 in
theorem A_X8_settingIf (l : Launch) (hl0 : l.stackTraces = false) (D : va_G) (loc : Rf → Nat) (cy : Nat → ClassId) (p1 : Int32) (p2 : Int32) (p3 : Int32) (h : HD) : AX l D loc cy yX8_settingIf (Cond.code yX8_settingIf cX8_settingIf 4 (some .int) :: LW) 7 170 3 18 [.ref (loc (6, 0, 0)), .int p1, .int p2, .int p3] h ((jX8_settingIf p1 p2 p3 h).map (fun r => (xi (fun v => some (.int v)) r.1, r.2))) := by
  refine ax_start (y := yX8_settingIf) (av := [.ref (loc (6, 0, 0)), .int p1, .int p2, .int p3]) (nL := 4) (h := h) (RF := fun (r : Option ((Nat ⊕ Int32) × HD)) => r.map (fun r => (xi (fun v => some (.int v)) r.1, r.2))) (x := jX8_settingIf p1 p2 p3 h) hl0 (by decide +kernel) rfl ?_
  intro p e R s m below meth c A hxt hC
  unfold jX8_settingIf
  refine aw_aload_n hC dX8_settingIf_0 rfl ?_
  refine aw_iload_n hC dX8_settingIf_1 rfl ?_
  refine aw_bind rfl (fun q1 hq1 => ?_)
  refine aw_cXv hC hxt dX8_settingIf_2 cv_RX8_234 rfl rm_6_0_0 (ax_some (inj := (fun r => (xi (fun _ => none) r, h))) hq1 (A_X8_needCar _ (hC.2.2.2.2.2.2.2.2.2.2.2.2.1) _ _ _ p1 h)) rfl rfl rfl rfl rfl ⟨rfl, rfl⟩ rfl rfl (fun _ => rfl) (fun v2 => ?_)
  refine aw_aload_n hC dX8_settingIf_5 rfl ?_
  refine aw_iload_n hC dX8_settingIf_6 rfl ?_
  refine aw_bind rfl (fun q3 hq3 => ?_)
  refine aw_cXv hC hxt dX8_settingIf_7 cv_RX8_405 rfl rm_6_0_0 (ax_some (inj := (fun r => (xi (fun _ => none) r, h))) hq3 (A_X8_needPreference _ (hC.2.2.2.2.2.2.2.2.2.2.2.2.1) _ _ _ p2 h)) rfl rfl rfl rfl rfl ⟨rfl, rfl⟩ rfl rfl (fun _ => rfl) (fun v4 => ?_)
  refine aw_aload_n hC dX8_settingIf_10 rfl ?_
  refine aw_iload_n hC dX8_settingIf_11 rfl ?_
  refine aw_bind rfl (fun q5 hq5 => ?_)
  refine aw_cXv hC hxt dX8_settingIf_12 cv_RX8_227 rfl rm_6_0_0 (ax_some (inj := (fun r => (xi (fun _ => none) r, h))) hq5 (A_X8_needSetting _ (hC.2.2.2.2.2.2.2.2.2.2.2.2.1) _ _ _ p3 h)) rfl rfl rfl rfl rfl ⟨rfl, rfl⟩ rfl rfl (fun _ => rfl) (fun v6 => ?_)
  refine aw_aload_n hC dX8_settingIf_15 rfl ?_
  refine aw_gfR hC dX8_settingIf_16 fg_RX8_46 rfl rfl rm_6_0_0 ?_
  refine aw_aload_n hC dX8_settingIf_19 rfl ?_
  refine aw_gfR hC dX8_settingIf_20 fg_RX8_42 rfl rfl rm_6_0_0 ?_
  refine aw_bind rfl (fun q7 hq7 => ?_)
  refine aw_cVv hC dX8_settingIf_23 cv_RX8_134 rfl rm_1_1_0 (am_some (inj := (fun r => (.inr (none), r))) hq7 (A_X2_copyFrom _ (hC.2.2.2.2.2.2.2.2.2.2.2.2.1) _ _ _ 1 (by decide) 0 (by decide) h)) rfl rfl rfl rfl rfl ⟨rfl, rfl⟩ ?_
  refine aw_aload_n hC dX8_settingIf_26 rfl ?_
  refine aw_gfR hC dX8_settingIf_27 fg_RX8_46 rfl rfl rm_6_0_0 ?_
  refine aw_iload_n hC dX8_settingIf_30 rfl ?_
  refine aw_iload_n hC dX8_settingIf_31 rfl ?_
  refine aw_bind rfl (fun q8 hq8 => ?_)
  refine aw_cVv hC dX8_settingIf_32 cv_RX8_412 rfl rm_1_1_0 (am_some (inj := (fun r => (.inr (none), r))) hq8 (A_X2_changePreference _ (hC.2.2.2.2.2.2.2.2.2.2.2.2.1) _ _ _ 1 (by decide) p1 p2 q7)) rfl rfl rfl rfl rfl ⟨rfl, rfl⟩ ?_
  refine aw_aload_n hC dX8_settingIf_35 rfl ?_
  refine aw_aload_n hC dX8_settingIf_36 rfl ?_
  refine aw_gfR hC dX8_settingIf_37 fg_RX8_46 rfl rfl rm_6_0_0 ?_
  refine aw_iload_n hC dX8_settingIf_40 rfl ?_
  refine aw_bind rfl (fun q9 hq9 => ?_)
  refine aw_cVi hC dX8_settingIf_41 cv_RX8_230 rfl rm_6_0_0 (am_some (inj := (fun r => (.inr (some (.int r.1)), r.2))) hq9 (A_X8_settingOf _ (hC.2.2.2.2.2.2.2.2.2.2.2.2.1) _ _ _ 1 (by decide) p3 q8)) rfl rfl rfl rfl rfl ⟨rfl, rfl⟩ ?_
  exact aw_ireX hC dX8_settingIf_44 rfl rfl rfl rfl
set_option maxHeartbeats 4000000 in
set_option maxRecDepth 100000 in
theorem L_X8_bestFor_12 (p1 : Int32) (hC : Cx p l e R s m args meth c D loc cy A cX8_bestFor 6 (some .int) RX8 7 170 1 6) (hxt : ∀ x, x ∈ c.exceptionTable.toList → False)  : ∀ (n12 : Nat) (x2 : Int32) (x3 : Int32) (x4 : Int32) (h : HD), AW p l e R s m args below meth c D loc cy A 6 (QX below D loc cy A args s 1 6) (fun (r : Option ((Nat ⊕ Int32) × HD)) => r.map (fun r => (xi (fun v => some (.int v)) r.1, r.2))) (1, 6) 12 [(0, .ref (loc (6, 0, 0))), (1, .int p1), (2, .int x2), (3, .int x3), (4, .int x4)] [] h (jX8_bestFor_L12 p1 n12 x2 x3 x4 h) := by
  intro n12
  induction n12 with
  | zero => intro x2 x3 x4 h; exact aw_none rfl
  | succ n12 ih12 =>
    intro x2 x3 x4 h
    rw [jX8_bestFor_L12]
    refine aw_iload hC dX8_bestFor_12 rfl ?_
    refine aw_aload_n hC dX8_bestFor_14 rfl ?_
    refine aw_gfR hC dX8_bestFor_15 fg_RX8_42 rfl rfl rm_6_0_0 ?_
    refine aw_cVi hC dX8_bestFor_18 cv_RX8_305 rfl rm_1_0_0 (A_X2_spots _ (hC.2.2.2.2.2.2.2.2.2.2.2.2.1) _ _ _ 0 (by decide) h) rfl rfl rfl rfl rfl ⟨rfl, rfl⟩ ?_
    refine aw_icmp_ge hC dX8_bestFor_21 (tgt := 54) (by decide) ?_ ?_
    · refine aw_iload_n hC dX8_bestFor_54 rfl ?_
      exact aw_ireX hC dX8_bestFor_55 rfl rfl rfl rfl
    · refine aw_aload_n hC dX8_bestFor_24 rfl ?_
      refine aw_iload_n hC dX8_bestFor_25 rfl ?_
      refine aw_iload hC dX8_bestFor_26 rfl ?_
      refine aw_bind rfl (fun q3 hq3 => ?_)
      refine aw_cVr hC dX8_bestFor_28 cv_RX8_408 rfl rm_6_0_0 (am_some (inj := (fun r => (.inr (some (.ref (loc (2, 0, 0)))), r))) hq3 (A_X8_parkedIf _ (hC.2.2.2.2.2.2.2.2.2.2.2.2.1) _ _ _ p1 x4 h)) rfl rfl rfl rfl rfl ⟨rfl, rfl⟩ ?_
      refine aw_bind rfl (fun q4 hq4 => ?_)
      refine aw_cVi hC dX8_bestFor_31 cv_RX8_317 rfl rm_2_0_0 (am_some (inj := (fun r => (.inr (some (.int r)), q3))) hq4 (A_X4_luckyCars _ (hC.2.2.2.2.2.2.2.2.2.2.2.2.1) _ _ _ 0 (by decide) q3)) rfl rfl rfl rfl rfl ⟨rfl, rfl⟩ ?_
      refine aw_istore hC dX8_bestFor_34 (by decide) ?_
      refine aw_iload hC dX8_bestFor_36 rfl ?_
      refine aw_iload_n hC dX8_bestFor_38 rfl ?_
      refine aw_icmp_le hC dX8_bestFor_39 (tgt := 48) (by decide) ?_ ?_
      · refine aw_iinc hC dX8_bestFor_48 rfl (v := x4 + 1) (by first | rfl | decide) (by decide) ?_
        refine aw_goto hC dX8_bestFor_51 (tgt := 12) (by decide) ?_
        refine aw_sub [0, 1, 2, 3, 4] ?_
        exact ih12 x2 x3 (x4 + 1) q3
      · refine aw_iload hC dX8_bestFor_42 rfl ?_
        refine aw_istore_n hC dX8_bestFor_44 (by decide) ?_
        refine aw_iload hC dX8_bestFor_45 rfl ?_
        refine aw_istore_n hC dX8_bestFor_47 (by decide) ?_
        refine aw_iinc hC dX8_bestFor_48 rfl (v := x4 + 1) (by first | rfl | decide) (by decide) ?_
        refine aw_goto hC dX8_bestFor_51 (tgt := 12) (by decide) ?_
        refine aw_sub [0, 1, 2, 3, 4] ?_
        exact ih12 x4 q4 (x4 + 1) q3
set_option maxHeartbeats 4000000 in
set_option maxRecDepth 100000 in
theorem A_X8_bestFor (l : Launch) (hl0 : l.stackTraces = false) (D : va_G) (loc : Rf → Nat) (cy : Nat → ClassId) (p1 : Int32) (h : HD) : AX l D loc cy yX8_bestFor (Cond.code yX8_bestFor cX8_bestFor 6 (some .int) :: LW) 7 170 1 6 [.ref (loc (6, 0, 0)), .int p1] h ((jX8_bestFor p1 h).map (fun r => (xi (fun v => some (.int v)) r.1, r.2))) := by
  refine ax_start (y := yX8_bestFor) (av := [.ref (loc (6, 0, 0)), .int p1]) (nL := 6) (h := h) (RF := fun (r : Option ((Nat ⊕ Int32) × HD)) => r.map (fun r => (xi (fun v => some (.int v)) r.1, r.2))) (x := jX8_bestFor p1 h) hl0 (by decide +kernel) rfl ?_
  intro p e R s m below meth c A hxt hC
  unfold jX8_bestFor
  refine aw_aload_n hC dX8_bestFor_0 rfl ?_
  refine aw_iload_n hC dX8_bestFor_1 rfl ?_
  refine aw_bind rfl (fun q1 hq1 => ?_)
  refine aw_cXv hC hxt dX8_bestFor_2 cv_RX8_234 rfl rm_6_0_0 (ax_some (inj := (fun r => (xi (fun _ => none) r, h))) hq1 (A_X8_needCar _ (hC.2.2.2.2.2.2.2.2.2.2.2.2.1) _ _ _ p1 h)) rfl rfl rfl rfl rfl ⟨rfl, rfl⟩ rfl rfl (fun _ => rfl) (fun v2 => ?_)
  refine aw_iconst hC dX8_bestFor_5 (v := -1) (by decide) ?_
  refine aw_istore_n hC dX8_bestFor_6 (by decide) ?_
  refine aw_iconst hC dX8_bestFor_7 (v := -1) (by decide) ?_
  refine aw_istore_n hC dX8_bestFor_8 (by decide) ?_
  refine aw_iconst hC dX8_bestFor_9 (v := 0) (by decide) ?_
  refine aw_istore hC dX8_bestFor_10 (by decide) ?_
  refine aw_sub [0, 1, 2, 3, 4] ?_
  exact L_X8_bestFor_12 p1  hC hxt FU (-1 : Int32) (-1 : Int32) (0 : Int32) h
set_option maxHeartbeats 4000000 in
set_option maxRecDepth 100000 in
theorem A_X2_exchange (l : Launch) (hl0 : l.stackTraces = false) (D : va_G) (loc : Rf → Nat) (cy : Nat → ClassId) (o : Nat) (ho : o < 10) (p1 : Int32) (p2 : Int32) (h : HD) : AM l D loc cy yX2_exchange cX2_exchange 6 (none) 1 37 [.ref (loc (1, o, 0)), .int p1, .int p2] h ((jX2_exchange o p1 p2 h).map (fun r => (.inr (none), r))) := by
  refine am_start (y := yX2_exchange) (av := [.ref (loc (1, o, 0)), .int p1, .int p2]) (nL := 6) (h := h) (RF := fun (r : Option HD) => r.map (fun r => (.inr (none), r))) (x := jX2_exchange o p1 p2 h) hl0 (by decide +kernel) rfl ?_
  intro p e R s m below meth c A hC
  unfold jX2_exchange
  refine aw_aload_n hC dX2_exchange_0 rfl ?_
  refine aw_iload_n hC dX2_exchange_1 rfl ?_
  refine aw_cVb hC dX2_exchange_2 cv_RX2_26 rfl (rv_1_0 ho) (A_X2_hasCar _ (hC.2.2.2.2.2.2.2.2.2.2.2.2.1) _ _ _ o ho p1 h) rfl rfl rfl rfl rfl ⟨rfl, rfl⟩ ?_
  refine aw_if_eq_b hC dX2_exchange_5 (tgt := 70) (by decide) ?_ ?_
  · exact aw_vret hC dX2_exchange_70 rfl rfl
  · refine aw_aload_n hC dX2_exchange_8 rfl ?_
    refine aw_iload_n hC dX2_exchange_9 rfl ?_
    refine aw_cVb hC dX2_exchange_10 cv_RX2_26 rfl (rv_1_0 ho) (A_X2_hasCar _ (hC.2.2.2.2.2.2.2.2.2.2.2.2.1) _ _ _ o ho p2 h) rfl rfl rfl rfl rfl ⟨rfl, rfl⟩ ?_
    refine aw_if_eq_b hC dX2_exchange_13 (tgt := 70) (by decide) ?_ ?_
    · exact aw_vret hC dX2_exchange_70 rfl rfl
    · refine aw_aload_n hC dX2_exchange_16 rfl ?_
      refine aw_gfR hC dX2_exchange_17 fg_RX2_9 rfl rfl (rv_1_0 ho) ?_
      refine aw_iload_n hC dX2_exchange_20 rfl ?_
      refine aw_guard rfl (fun g1 => ?_)
      refine aw_lald hC dX2_exchange_21 (rv_1_1 ho) rfl rfl g1 rfl ?_
      refine aw_lstore_n hC dX2_exchange_22 (by decide) ?_
      refine aw_aload_n hC dX2_exchange_23 rfl ?_
      refine aw_gfR hC dX2_exchange_24 fg_RX2_15 rfl rfl (rv_1_0 ho) ?_
      refine aw_iload_n hC dX2_exchange_27 rfl ?_
      refine aw_guard rfl (fun g2 => ?_)
      refine aw_iald hC dX2_exchange_28 (rv_1_2 ho) rfl rfl g2 rfl ?_
      refine aw_istore hC dX2_exchange_29 (by decide) ?_
      refine aw_aload_n hC dX2_exchange_31 rfl ?_
      refine aw_gfR hC dX2_exchange_32 fg_RX2_9 rfl rfl (rv_1_0 ho) ?_
      refine aw_iload_n hC dX2_exchange_35 rfl ?_
      refine aw_aload_n hC dX2_exchange_36 rfl ?_
      refine aw_gfR hC dX2_exchange_37 fg_RX2_9 rfl rfl (rv_1_0 ho) ?_
      refine aw_iload_n hC dX2_exchange_40 rfl ?_
      refine aw_guard rfl (fun g3 => ?_)
      refine aw_lald hC dX2_exchange_41 (rv_1_1 ho) rfl rfl g3 rfl ?_
      refine aw_guard rfl (fun g5 => ?_)
      refine aw_last hC dX2_exchange_42 (rv_1_1 ho) rfl rfl g5 rfl (fun h4 => ?_)
      refine aw_aload_n hC dX2_exchange_43 rfl ?_
      refine aw_gfR hC dX2_exchange_44 fg_RX2_15 rfl rfl (rv_1_0 ho) ?_
      refine aw_iload_n hC dX2_exchange_47 rfl ?_
      refine aw_aload_n hC dX2_exchange_48 rfl ?_
      refine aw_gfR hC dX2_exchange_49 fg_RX2_15 rfl rfl (rv_1_0 ho) ?_
      refine aw_iload_n hC dX2_exchange_52 rfl ?_
      refine aw_guard rfl (fun g6 => ?_)
      refine aw_iald hC dX2_exchange_53 (rv_1_2 ho) rfl rfl g6 rfl ?_
      refine aw_guard rfl (fun g8 => ?_)
      refine aw_iast hC dX2_exchange_54 (rv_1_2 ho) rfl rfl g8 rfl (fun h7 => ?_)
      refine aw_aload_n hC dX2_exchange_55 rfl ?_
      refine aw_gfR hC dX2_exchange_56 fg_RX2_9 rfl rfl (rv_1_0 ho) ?_
      refine aw_iload_n hC dX2_exchange_59 rfl ?_
      refine aw_lload_n hC dX2_exchange_60 rfl ?_
      refine aw_guard rfl (fun g10 => ?_)
      refine aw_last hC dX2_exchange_61 (rv_1_1 ho) rfl rfl g10 rfl (fun h9 => ?_)
      refine aw_aload_n hC dX2_exchange_62 rfl ?_
      refine aw_gfR hC dX2_exchange_63 fg_RX2_15 rfl rfl (rv_1_0 ho) ?_
      refine aw_iload_n hC dX2_exchange_66 rfl ?_
      refine aw_iload hC dX2_exchange_67 rfl ?_
      refine aw_guard rfl (fun g12 => ?_)
      refine aw_iast hC dX2_exchange_69 (rv_1_2 ho) rfl rfl g12 rfl (fun h11 => ?_)
      exact aw_vret hC dX2_exchange_70 rfl rfl
set_option maxHeartbeats 4000000 in
set_option maxRecDepth 100000 in
theorem L_X8_latest_18 (p1 : Int32) (k48 : HD → Option ((Nat ⊕ Int32) × HD)) (hC : Cx p l e R s m args meth c D loc cy A cX8_latest 3 (some .int) RX8 7 148 1 6) (hxt : ∀ x, x ∈ c.exceptionTable.toList → False) (hk48 : ∀  (h2 : HD), AW p l e R s m args below meth c D loc cy A 3 (QX below D loc cy A args s 1 6) (fun (r : Option ((Nat ⊕ Int32) × HD)) => r.map (fun r => (xi (fun v => some (.int v)) r.1, r.2))) (1, 6) 48 [(0, .ref (loc (6, 0, 0))), (1, .int p1)] [] h2 (k48  h2)) : ∀ (n18 : Nat) (x2 : Int32) (h : HD), AW p l e R s m args below meth c D loc cy A 3 (QX below D loc cy A args s 1 6) (fun (r : Option ((Nat ⊕ Int32) × HD)) => r.map (fun r => (xi (fun v => some (.int v)) r.1, r.2))) (1, 6) 18 [(0, .ref (loc (6, 0, 0))), (1, .int p1), (2, .int x2)] [] h (jX8_latest_L18 p1 k48 n18 x2 h) := by
  intro n18
  induction n18 with
  | zero => intro x2 h; exact aw_none rfl
  | succ n18 ih18 =>
    intro x2 h
    rw [jX8_latest_L18]
    refine aw_iload_n hC dX8_latest_18 rfl ?_
    refine aw_iconst hC dX8_latest_19 (v := 1) (by decide) ?_
    refine aw_iadd hC dX8_latest_20 ?_
    refine aw_aload_n hC dX8_latest_21 rfl ?_
    refine aw_gfR hC dX8_latest_22 fg_RX8_42 rfl rfl rm_6_0_0 ?_
    refine aw_cVi hC dX8_latest_25 cv_RX8_138 rfl rm_1_0_0 (A_X2_count _ (hC.2.2.2.2.2.2.2.2.2.2.2.2.1) _ _ _ 0 (by decide) h) rfl rfl rfl rfl rfl ⟨rfl, rfl⟩ ?_
    refine aw_icmp_ge hC dX8_latest_28 (tgt := 48) (by decide) ?_ ?_
    · refine aw_sub [0, 1] ?_
      exact hk48 h
    · refine aw_aload_n hC dX8_latest_31 rfl ?_
      refine aw_gfR hC dX8_latest_32 fg_RX8_46 rfl rfl rm_6_0_0 ?_
      refine aw_iload_n hC dX8_latest_35 rfl ?_
      refine aw_iload_n hC dX8_latest_36 rfl ?_
      refine aw_iconst hC dX8_latest_37 (v := 1) (by decide) ?_
      refine aw_iadd hC dX8_latest_38 ?_
      refine aw_bind rfl (fun q4 hq4 => ?_)
      refine aw_cVv hC dX8_latest_39 cv_RX8_416 rfl rm_1_1_0 (am_some (inj := (fun r => (.inr (none), r))) hq4 (A_X2_exchange _ (hC.2.2.2.2.2.2.2.2.2.2.2.2.1) _ _ _ 1 (by decide) x2 (x2 + (1 : Int32)) h)) rfl rfl rfl rfl rfl ⟨rfl, rfl⟩ ?_
      refine aw_iinc hC dX8_latest_42 rfl (v := x2 + 1) (by first | rfl | decide) (by decide) ?_
      refine aw_goto hC dX8_latest_45 (tgt := 18) (by decide) ?_
      refine aw_sub [0, 1, 2] ?_
      exact ih18 (x2 + 1) q4
set_option maxHeartbeats 4000000 in
set_option maxRecDepth 100000 in
theorem A_X8_latest (l : Launch) (hl0 : l.stackTraces = false) (D : va_G) (loc : Rf → Nat) (cy : Nat → ClassId) (p1 : Int32) (h : HD) : AX l D loc cy yX8_latest (Cond.code yX8_latest cX8_latest 3 (some .int) :: LW) 7 148 1 6 [.ref (loc (6, 0, 0)), .int p1] h ((jX8_latest p1 h).map (fun r => (xi (fun v => some (.int v)) r.1, r.2))) := by
  refine ax_start (y := yX8_latest) (av := [.ref (loc (6, 0, 0)), .int p1]) (nL := 3) (h := h) (RF := fun (r : Option ((Nat ⊕ Int32) × HD)) => r.map (fun r => (xi (fun v => some (.int v)) r.1, r.2))) (x := jX8_latest p1 h) hl0 (by decide +kernel) rfl ?_
  intro p e R s m below meth c A hxt hC
  unfold jX8_latest
  refine aw_aload_n hC dX8_latest_0 rfl ?_
  refine aw_iload_n hC dX8_latest_1 rfl ?_
  refine aw_bind rfl (fun q1 hq1 => ?_)
  refine aw_cXv hC hxt dX8_latest_2 cv_RX8_234 rfl rm_6_0_0 (ax_some (inj := (fun r => (xi (fun _ => none) r, h))) hq1 (A_X8_needCar _ (hC.2.2.2.2.2.2.2.2.2.2.2.2.1) _ _ _ p1 h)) rfl rfl rfl rfl rfl ⟨rfl, rfl⟩ rfl rfl (fun _ => rfl) (fun v2 => ?_)
  refine aw_aload_n hC dX8_latest_5 rfl ?_
  refine aw_gfR hC dX8_latest_6 fg_RX8_46 rfl rfl rm_6_0_0 ?_
  refine aw_aload_n hC dX8_latest_9 rfl ?_
  refine aw_gfR hC dX8_latest_10 fg_RX8_42 rfl rfl rm_6_0_0 ?_
  refine aw_bind rfl (fun q3 hq3 => ?_)
  refine aw_cVv hC dX8_latest_13 cv_RX8_134 rfl rm_1_1_0 (am_some (inj := (fun r => (.inr (none), r))) hq3 (A_X2_copyFrom _ (hC.2.2.2.2.2.2.2.2.2.2.2.2.1) _ _ _ 1 (by decide) 0 (by decide) h)) rfl rfl rfl rfl rfl ⟨rfl, rfl⟩ ?_
  refine aw_iload_n hC dX8_latest_16 rfl ?_
  refine aw_istore_n hC dX8_latest_17 (by decide) ?_
  refine aw_sub [0, 1, 2] ?_
  refine L_X8_latest_18 p1 _ hC hxt ?_ FU p1 q3
  · intro h5
    refine aw_aload_n hC dX8_latest_48 rfl ?_
    refine aw_gfR hC dX8_latest_49 fg_RX8_62 rfl rfl rm_6_0_0 ?_
    refine aw_aload_n hC dX8_latest_52 rfl ?_
    refine aw_gfR hC dX8_latest_53 fg_RX8_46 rfl rfl rm_6_0_0 ?_
    refine aw_aload_n hC dX8_latest_56 rfl ?_
    refine aw_gfR hC dX8_latest_57 fg_RX8_46 rfl rfl rm_6_0_0 ?_
    refine aw_cVi hC dX8_latest_60 cv_RX8_138 rfl rm_1_1_0 (A_X2_count _ (hC.2.2.2.2.2.2.2.2.2.2.2.2.1) _ _ _ 1 (by decide) h5) rfl rfl rfl rfl rfl ⟨rfl, rfl⟩ ?_
    refine aw_bind rfl (fun q6 hq6 => ?_)
    refine aw_cVv hC dX8_latest_63 cv_RX8_301 rfl rm_2_0_0 (am_some (inj := (fun r => (.inr (none), r))) hq6 (A_X4_comeRound _ (hC.2.2.2.2.2.2.2.2.2.2.2.2.1) _ _ _ 0 (by decide) 1 (by decide) (jX2_count 1 h5) h5)) rfl rfl rfl rfl rfl ⟨rfl, rfl⟩ ?_
    refine aw_aload_n hC dX8_latest_66 rfl ?_
    refine aw_gfR hC dX8_latest_67 fg_RX8_62 rfl rfl rm_6_0_0 ?_
    refine aw_aload_n hC dX8_latest_70 rfl ?_
    refine aw_gfR hC dX8_latest_71 fg_RX8_42 rfl rfl rm_6_0_0 ?_
    refine aw_iload_n hC dX8_latest_74 rfl ?_
    refine aw_bind rfl (fun q7 hq7 => ?_)
    refine aw_cVi hC dX8_latest_75 cv_RX8_249 rfl rm_1_0_0 (am_some (inj := (fun r => (.inr (some (.int r)), q6))) hq7 (A_X2_preferenceOf _ (hC.2.2.2.2.2.2.2.2.2.2.2.2.1) _ _ _ 0 (by decide) p1 q6)) rfl rfl rfl rfl rfl ⟨rfl, rfl⟩ ?_
    refine aw_bind rfl (fun q8 hq8 => ?_)
    refine aw_cVi hC dX8_latest_78 cv_RX8_273 rfl rm_2_0_0 (am_some (inj := (fun r => (.inr (some (.int r)), q6))) hq8 (A_X4_takerOf _ (hC.2.2.2.2.2.2.2.2.2.2.2.2.1) _ _ _ 0 (by decide) q7 q6)) rfl rfl rfl rfl rfl ⟨rfl, rfl⟩ ?_
    exact aw_ireX hC dX8_latest_81 rfl rfl rfl rfl
end PRF
