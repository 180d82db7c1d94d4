section PRF
variable {p : Program} {l : Launch} {e : Env} {R : Room} {s : State} {m : MethodId} {args : Array Value} {below : List Frame} {meth : Method} {c : Code} {D : va_G} {loc : Rf → Nat} {cy : Nat → ClassId} {A : Nat → Prop}
set_option maxHeartbeats 4000000 in
set_option maxRecDepth 100000 in
theorem L_X9_leastLeaf_2 (h : HD) (hC : Cx p l e R s m args meth c D loc cy A cX9_leastLeaf 2 (some .int) RX9 1 36 0 0)  : ∀ (n2 : Nat) (x1 : Int32), AW p l e R s m args below meth c D loc cy A 2 (QM below D loc cy A args s) (fun (r : Option Int32) => r.map (fun r => (.inr (some (.int r)), h))) (0, 0) 2 [(0, .ref (loc (7, 0, 0))), (1, .int x1)] [] h (jX9_leastLeaf_L2 h n2 x1) := by
  intro n2
  induction n2 with
  | zero => intro x1; exact aw_none rfl
  | succ n2 ih2 =>
    intro x1
    rw [jX9_leastLeaf_L2]
    refine aw_iload_n hC dX9_leastLeaf_2 rfl ?_
    refine aw_aload_n hC dX9_leastLeaf_3 rfl ?_
    refine aw_bind rfl (fun q1 hq1 => ?_)
    refine aw_cVi hC dX9_leastLeaf_4 cv_RX9_214 rfl rm_7_0_0 (am_some (inj := (fun r => (.inr (some (.int r)), h))) hq1 (A_X9_spots _ (hC.2.2.2.2.2.2.2.2.2.2.2.2.1) _ _ _ h)) rfl rfl rfl rfl rfl ⟨rfl, rfl⟩ ?_
    refine aw_icmp_ge hC dX9_leastLeaf_7 (tgt := 37) (by decide) ?_ ?_
    · refine aw_iconst hC dX9_leastLeaf_37 (v := -1) (by decide) ?_
      exact aw_iret hC dX9_leastLeaf_38 rfl rfl
    · refine aw_aload_n hC dX9_leastLeaf_10 rfl ?_
      refine aw_gfR hC dX9_leastLeaf_11 fg_RX9_84 rfl rfl rm_7_0_0 ?_
      refine aw_iload_n hC dX9_leastLeaf_14 rfl ?_
      refine aw_guard rfl (fun g2 => ?_)
      refine aw_zald hC dX9_leastLeaf_15 rm_7_0_23 rfl rfl g2 rfl ?_
      refine aw_if_ne hC dX9_leastLeaf_16 (tgt := 31) (by decide) ?_ ?_
      · refine aw_iinc hC dX9_leastLeaf_31 rfl (v := x1 + 1) (by first | rfl | decide) (by decide) ?_
        refine aw_goto hC dX9_leastLeaf_34 (tgt := 2) (by decide) ?_
        refine aw_sub [0, 1] ?_
        exact ih2 (x1 + 1)
      · refine aw_aload_n hC dX9_leastLeaf_19 rfl ?_
        refine aw_gfR hC dX9_leastLeaf_20 fg_RX9_69 rfl rfl rm_7_0_0 ?_
        refine aw_iload_n hC dX9_leastLeaf_23 rfl ?_
        refine aw_guard rfl (fun g3 => ?_)
        refine aw_iald hC dX9_leastLeaf_24 rm_7_0_18 rfl rfl g3 rfl ?_
        refine aw_iconst hC dX9_leastLeaf_25 (v := 1) (by decide) ?_
        refine aw_icmp_ne hC dX9_leastLeaf_26 (tgt := 31) (by decide) ?_ ?_
        · refine aw_iinc hC dX9_leastLeaf_31 rfl (v := x1 + 1) (by first | rfl | decide) (by decide) ?_
          refine aw_goto hC dX9_leastLeaf_34 (tgt := 2) (by decide) ?_
          refine aw_sub [0, 1] ?_
          exact ih2 (x1 + 1)
        · refine aw_iload_n hC dX9_leastLeaf_29 rfl ?_
          exact aw_iret hC dX9_leastLeaf_30 rfl rfl
set_option maxHeartbeats 4000000 in
set_option maxRecDepth 100000 in
theorem A_X9_leastLeaf (l : Launch) (hl0 : l.stackTraces = false) (D : va_G) (loc : Rf → Nat) (cy : Nat → ClassId)  (h : HD) : AM l D loc cy yX9_leastLeaf cX9_leastLeaf 2 (some .int) 1 36 [.ref (loc (7, 0, 0))] h ((jX9_leastLeaf h).map (fun r => (.inr (some (.int r)), h))) := by
  refine am_start (y := yX9_leastLeaf) (av := [.ref (loc (7, 0, 0))]) (nL := 2) (h := h) (RF := fun (r : Option Int32) => r.map (fun r => (.inr (some (.int r)), h))) (x := jX9_leastLeaf h) hl0 (by decide +kernel) rfl ?_
  intro p e R s m below meth c A hC
  unfold jX9_leastLeaf
  refine aw_iconst hC dX9_leastLeaf_0 (v := 0) (by decide) ?_
  refine aw_istore_n hC dX9_leastLeaf_1 (by decide) ?_
  refine aw_sub [0, 1] ?_
  exact L_X9_leastLeaf_2 h  hC FU (0 : Int32)
set_option maxHeartbeats 4000000 in
set_option maxRecDepth 100000 in
theorem L_X9_grows_7 (k35 : HD → Option HD) (hC : Cx p l e R s m args meth c D loc cy A cX9_grows 3 (none) RX9 3 79 0 0) (hk35 : ∀  (h2 : HD), AW p l e R s m args below meth c D loc cy A 3 (QM below D loc cy A args s) (fun (r : Option HD) => r.map (fun r => (.inr (none), r))) (0, 0) 35 [(0, .ref (loc (7, 0, 0)))] [] h2 (k35  h2)) : ∀ (n7 : Nat) (x1 : Int32) (h : HD), AW p l e R s m args below meth c D loc cy A 3 (QM below D loc cy A args s) (fun (r : Option HD) => r.map (fun r => (.inr (none), r))) (0, 0) 7 [(0, .ref (loc (7, 0, 0))), (1, .int x1)] [] h (jX9_grows_L7 k35 n7 x1 h) := by
  intro n7
  induction n7 with
  | zero => intro x1 h; exact aw_none rfl
  | succ n7 ih7 =>
    intro x1 h
    rw [jX9_grows_L7]
    refine aw_iload_n hC dX9_grows_7 rfl ?_
    refine aw_aload_n hC dX9_grows_8 rfl ?_
    refine aw_bind rfl (fun q2 hq2 => ?_)
    refine aw_cVi hC dX9_grows_9 cv_RX9_214 rfl rm_7_0_0 (am_some (inj := (fun r => (.inr (some (.int r)), h))) hq2 (A_X9_spots _ (hC.2.2.2.2.2.2.2.2.2.2.2.2.1) _ _ _ h)) rfl rfl rfl rfl rfl ⟨rfl, rfl⟩ ?_
    refine aw_icmp_ge hC dX9_grows_12 (tgt := 35) (by decide) ?_ ?_
    · refine aw_sub [0] ?_
      exact hk35 h
    · refine aw_aload_n hC dX9_grows_15 rfl ?_
      refine aw_gfR hC dX9_grows_16 fg_RX9_69 rfl rfl rm_7_0_0 ?_
      refine aw_iload_n hC dX9_grows_19 rfl ?_
      refine aw_iconst hC dX9_grows_20 (v := 1) (by decide) ?_
      refine aw_guard rfl (fun g4 => ?_)
      refine aw_iast hC dX9_grows_21 rm_7_0_18 rfl rfl g4 rfl (fun h3 => ?_)
      refine aw_aload_n hC dX9_grows_22 rfl ?_
      refine aw_gfR hC dX9_grows_23 fg_RX9_84 rfl rfl rm_7_0_0 ?_
      refine aw_iload_n hC dX9_grows_26 rfl ?_
      refine aw_iconst hC dX9_grows_27 (v := 0) (by decide) ?_
      refine aw_guard rfl (fun g6 => ?_)
      refine aw_zast hC dX9_grows_28 rm_7_0_23 rfl rfl g6 rfl (fun h5 => ?_)
      refine aw_iinc hC dX9_grows_29 rfl (v := x1 + 1) (by first | rfl | decide) (by decide) ?_
      refine aw_goto hC dX9_grows_32 (tgt := 7) (by decide) ?_
      refine aw_sub [0, 1] ?_
      exact ih7 (x1 + 1) h5
set_option maxHeartbeats 4000000 in
set_option maxRecDepth 100000 in
theorem L_X9_grows_37 (k65 : HD → Option HD) (hC : Cx p l e R s m args meth c D loc cy A cX9_grows 3 (none) RX9 3 79 0 0) (hk65 : ∀  (h2 : HD), AW p l e R s m args below meth c D loc cy A 3 (QM below D loc cy A args s) (fun (r : Option HD) => r.map (fun r => (.inr (none), r))) (0, 0) 65 [(0, .ref (loc (7, 0, 0)))] [] h2 (k65  h2)) : ∀ (n37 : Nat) (x1 : Int32) (h : HD), AW p l e R s m args below meth c D loc cy A 3 (QM below D loc cy A args s) (fun (r : Option HD) => r.map (fun r => (.inr (none), r))) (0, 0) 37 [(0, .ref (loc (7, 0, 0))), (1, .int x1)] [] h (jX9_grows_L37 k65 n37 x1 h) := by
  intro n37
  induction n37 with
  | zero => intro x1 h; exact aw_none rfl
  | succ n37 ih37 =>
    intro x1 h
    rw [jX9_grows_L37]
    refine aw_iload_n hC dX9_grows_37 rfl ?_
    refine aw_aload_n hC dX9_grows_38 rfl ?_
    refine aw_bind rfl (fun q8 hq8 => ?_)
    refine aw_cVi hC dX9_grows_39 cv_RX9_369 rfl rm_7_0_0 (am_some (inj := (fun r => (.inr (some (.int r)), h))) hq8 (A_X9_codes _ (hC.2.2.2.2.2.2.2.2.2.2.2.2.1) _ _ _ h)) rfl rfl rfl rfl rfl ⟨rfl, rfl⟩ ?_
    refine aw_icmp_ge hC dX9_grows_42 (tgt := 65) (by decide) ?_ ?_
    · refine aw_sub [0] ?_
      exact hk65 h
    · refine aw_aload_n hC dX9_grows_45 rfl ?_
      refine aw_gfR hC dX9_grows_46 fg_RX9_69 rfl rfl rm_7_0_0 ?_
      refine aw_aload_n hC dX9_grows_49 rfl ?_
      refine aw_iload_n hC dX9_grows_50 rfl ?_
      refine aw_bind rfl (fun q9 hq9 => ?_)
      refine aw_cVi hC dX9_grows_51 cv_RX9_372 rfl rm_7_0_0 (am_some (inj := (fun r => (.inr (some (.int r)), h))) hq9 (A_X9_codeAt _ (hC.2.2.2.2.2.2.2.2.2.2.2.2.1) _ _ _ x1 h)) rfl rfl rfl rfl rfl ⟨rfl, rfl⟩ ?_
      refine aw_dup2 hC dX9_grows_54 rfl rfl ?_
      refine aw_guard rfl (fun g10 => ?_)
      refine aw_iald hC dX9_grows_55 rm_7_0_18 rfl rfl g10 rfl ?_
      refine aw_iconst hC dX9_grows_56 (v := 1) (by decide) ?_
      refine aw_iadd hC dX9_grows_57 ?_
      refine aw_guard rfl (fun g12 => ?_)
      refine aw_iast hC dX9_grows_58 rm_7_0_18 rfl rfl g12 rfl (fun h11 => ?_)
      refine aw_iinc hC dX9_grows_59 rfl (v := x1 + 1) (by first | rfl | decide) (by decide) ?_
      refine aw_goto hC dX9_grows_62 (tgt := 37) (by decide) ?_
      refine aw_sub [0, 1] ?_
      exact ih37 (x1 + 1) h11
set_option maxHeartbeats 4000000 in
set_option maxRecDepth 100000 in
theorem L_X9_grows_67 (k117 : HD → Option HD) (hC : Cx p l e R s m args meth c D loc cy A cX9_grows 3 (none) RX9 3 79 0 0) (hk117 : ∀  (h2 : HD), AW p l e R s m args below meth c D loc cy A 3 (QM below D loc cy A args s) (fun (r : Option HD) => r.map (fun r => (.inr (none), r))) (0, 0) 117 [(0, .ref (loc (7, 0, 0)))] [] h2 (k117  h2)) : ∀ (n67 : Nat) (x1 : Int32) (h : HD), AW p l e R s m args below meth c D loc cy A 3 (QM below D loc cy A args s) (fun (r : Option HD) => r.map (fun r => (.inr (none), r))) (0, 0) 67 [(0, .ref (loc (7, 0, 0))), (1, .int x1)] [] h (jX9_grows_L67 k117 n67 x1 h) := by
  intro n67
  induction n67 with
  | zero => intro x1 h; exact aw_none rfl
  | succ n67 ih67 =>
    intro x1 h
    rw [jX9_grows_L67]
    refine aw_iload_n hC dX9_grows_67 rfl ?_
    refine aw_aload_n hC dX9_grows_68 rfl ?_
    refine aw_bind rfl (fun q14 hq14 => ?_)
    refine aw_cVi hC dX9_grows_69 cv_RX9_369 rfl rm_7_0_0 (am_some (inj := (fun r => (.inr (some (.int r)), h))) hq14 (A_X9_codes _ (hC.2.2.2.2.2.2.2.2.2.2.2.2.1) _ _ _ h)) rfl rfl rfl rfl rfl ⟨rfl, rfl⟩ ?_
    refine aw_icmp_ge hC dX9_grows_72 (tgt := 117) (by decide) ?_ ?_
    · refine aw_sub [0] ?_
      exact hk117 h
    · refine aw_aload_n hC dX9_grows_75 rfl ?_
      refine aw_bind rfl (fun q15 hq15 => ?_)
      refine aw_cVi hC dX9_grows_76 cv_RX9_375 rfl rm_7_0_0 (am_some (inj := (fun r => (.inr (some (.int r)), h))) hq15 (A_X9_leastLeaf _ (hC.2.2.2.2.2.2.2.2.2.2.2.2.1) _ _ _ h)) rfl rfl rfl rfl rfl ⟨rfl, rfl⟩ ?_
      refine aw_istore_n hC dX9_grows_79 (by decide) ?_
      refine aw_aload_n hC dX9_grows_80 rfl ?_
      refine aw_iload_n hC dX9_grows_81 rfl ?_
      refine aw_aload_n hC dX9_grows_82 rfl ?_
      refine aw_iload_n hC dX9_grows_83 rfl ?_
      refine aw_bind rfl (fun q16 hq16 => ?_)
      refine aw_cVi hC dX9_grows_84 cv_RX9_372 rfl rm_7_0_0 (am_some (inj := (fun r => (.inr (some (.int r)), h))) hq16 (A_X9_codeAt _ (hC.2.2.2.2.2.2.2.2.2.2.2.2.1) _ _ _ x1 h)) rfl rfl rfl rfl rfl ⟨rfl, rfl⟩ ?_
      refine aw_bind rfl (fun q17 hq17 => ?_)
      refine aw_cVv hC dX9_grows_87 cv_RX9_378 rfl rm_7_0_0 (am_some (inj := (fun r => (.inr (none), r))) hq17 (A_X9_joins _ (hC.2.2.2.2.2.2.2.2.2.2.2.2.1) _ _ _ q15 q16 h)) rfl rfl rfl rfl rfl ⟨rfl, rfl⟩ ?_
      refine aw_aload_n hC dX9_grows_90 rfl ?_
      refine aw_gfR hC dX9_grows_91 fg_RX9_84 rfl rfl rm_7_0_0 ?_
      refine aw_iload_n hC dX9_grows_94 rfl ?_
      refine aw_iconst hC dX9_grows_95 (v := 1) (by decide) ?_
      refine aw_guard rfl (fun g19 => ?_)
      refine aw_zast hC dX9_grows_96 rm_7_0_23 rfl rfl g19 rfl (fun h18 => ?_)
      refine aw_aload_n hC dX9_grows_97 rfl ?_
      refine aw_gfR hC dX9_grows_98 fg_RX9_69 rfl rfl rm_7_0_0 ?_
      refine aw_aload_n hC dX9_grows_101 rfl ?_
      refine aw_iload_n hC dX9_grows_102 rfl ?_
      refine aw_bind rfl (fun q20 hq20 => ?_)
      refine aw_cVi hC dX9_grows_103 cv_RX9_372 rfl rm_7_0_0 (am_some (inj := (fun r => (.inr (some (.int r)), h18))) hq20 (A_X9_codeAt _ (hC.2.2.2.2.2.2.2.2.2.2.2.2.1) _ _ _ x1 h18)) rfl rfl rfl rfl rfl ⟨rfl, rfl⟩ ?_
      refine aw_dup2 hC dX9_grows_106 rfl rfl ?_
      refine aw_guard rfl (fun g21 => ?_)
      refine aw_iald hC dX9_grows_107 rm_7_0_18 rfl rfl g21 rfl ?_
      refine aw_iconst hC dX9_grows_108 (v := 1) (by decide) ?_
      refine aw_isub hC dX9_grows_109 ?_
      refine aw_guard rfl (fun g23 => ?_)
      refine aw_iast hC dX9_grows_110 rm_7_0_18 rfl rfl g23 rfl (fun h22 => ?_)
      refine aw_iinc hC dX9_grows_111 rfl (v := x1 + 1) (by first | rfl | decide) (by decide) ?_
      refine aw_goto hC dX9_grows_114 (tgt := 67) (by decide) ?_
      refine aw_sub [0, 1] ?_
      exact ih67 (x1 + 1) h22
set_option maxHeartbeats 4000000 in
set_option maxRecDepth 100000 in
theorem A_X9_grows (l : Launch) (hl0 : l.stackTraces = false) (D : va_G) (loc : Rf → Nat) (cy : Nat → ClassId)  (h : HD) : AM l D loc cy yX9_grows cX9_grows 3 (none) 3 79 [.ref (loc (7, 0, 0))] h ((jX9_grows h).map (fun r => (.inr (none), r))) := by
  refine am_start (y := yX9_grows) (av := [.ref (loc (7, 0, 0))]) (nL := 3) (h := h) (RF := fun (r : Option HD) => r.map (fun r => (.inr (none), r))) (x := jX9_grows h) hl0 (by decide +kernel) rfl ?_
  intro p e R s m below meth c A hC
  unfold jX9_grows
  refine aw_aload_n hC dX9_grows_0 rfl ?_
  refine aw_iconst hC dX9_grows_1 (v := 0) (by decide) ?_
  refine aw_pfI hC dX9_grows_2 fg_RX9_363 fp_7_38 rfl rm_7_0_0 (fun h1 => ?_)
  refine aw_iconst hC dX9_grows_5 (v := 0) (by decide) ?_
  refine aw_istore_n hC dX9_grows_6 (by decide) ?_
  refine aw_sub [0, 1] ?_
  refine L_X9_grows_7  _ hC ?_ FU (0 : Int32) h1
  · intro h7
    refine aw_iconst hC dX9_grows_35 (v := 0) (by decide) ?_
    refine aw_istore_n hC dX9_grows_36 (by decide) ?_
    refine aw_sub [0, 1] ?_
    refine L_X9_grows_37  _ hC ?_ FU (0 : Int32) h7
    · intro h13
      refine aw_iconst hC dX9_grows_65 (v := 0) (by decide) ?_
      refine aw_istore_n hC dX9_grows_66 (by decide) ?_
      refine aw_sub [0, 1] ?_
      refine L_X9_grows_67  _ hC ?_ FU (0 : Int32) h13
      · intro h24
        refine aw_aload_n hC dX9_grows_117 rfl ?_
        refine aw_gfR hC dX9_grows_118 fg_RX9_20 rfl rfl rm_7_0_0 ?_
        refine aw_iconst hC dX9_grows_121 (v := 0) (by decide) ?_
        refine aw_iald hC dX9_grows_122 rm_7_0_2 rfl rfl (by decide) (k := 0) (by decide) ?_
        refine aw_if_ne hC dX9_grows_123 (tgt := 127) (by decide) ?_ ?_
        · refine aw_aload_n hC dX9_grows_127 rfl ?_
          refine aw_bind rfl (fun q25 hq25 => ?_)
          refine aw_cVi hC dX9_grows_128 cv_RX9_375 rfl rm_7_0_0 (am_some (inj := (fun r => (.inr (some (.int r)), h24))) hq25 (A_X9_leastLeaf _ (hC.2.2.2.2.2.2.2.2.2.2.2.2.1) _ _ _ h24)) rfl rfl rfl rfl rfl ⟨rfl, rfl⟩ ?_
          refine aw_istore_n hC dX9_grows_131 (by decide) ?_
          refine aw_aload_n hC dX9_grows_132 rfl ?_
          refine aw_gfR hC dX9_grows_133 fg_RX9_84 rfl rfl rm_7_0_0 ?_
          refine aw_iload_n hC dX9_grows_136 rfl ?_
          refine aw_iconst hC dX9_grows_137 (v := 1) (by decide) ?_
          refine aw_guard rfl (fun g27 => ?_)
          refine aw_zast hC dX9_grows_138 rm_7_0_23 rfl rfl g27 rfl (fun h26 => ?_)
          refine aw_aload_n hC dX9_grows_139 rfl ?_
          refine aw_iload_n hC dX9_grows_140 rfl ?_
          refine aw_aload_n hC dX9_grows_141 rfl ?_
          refine aw_bind rfl (fun q28 hq28 => ?_)
          refine aw_cVi hC dX9_grows_142 cv_RX9_375 rfl rm_7_0_0 (am_some (inj := (fun r => (.inr (some (.int r)), h26))) hq28 (A_X9_leastLeaf _ (hC.2.2.2.2.2.2.2.2.2.2.2.2.1) _ _ _ h26)) rfl rfl rfl rfl rfl ⟨rfl, rfl⟩ ?_
          refine aw_bind rfl (fun q29 hq29 => ?_)
          refine aw_cVv hC dX9_grows_145 cv_RX9_378 rfl rm_7_0_0 (am_some (inj := (fun r => (.inr (none), r))) hq29 (A_X9_joins _ (hC.2.2.2.2.2.2.2.2.2.2.2.2.1) _ _ _ q25 q28 h26)) rfl rfl rfl rfl rfl ⟨rfl, rfl⟩ ?_
          exact aw_vret hC dX9_grows_148 rfl rfl
        · exact aw_vret hC dX9_grows_126 rfl rfl
set_option maxHeartbeats 4000000 in
set_option maxRecDepth 100000 in
theorem A_X9_code (l : Launch) (hl0 : l.stackTraces = false) (D : va_G) (loc : Rf → Nat) (cy : Nat → ClassId) (p1 : Int32) (h : HD) : AM l D loc cy yX9_code cX9_code 2 (some .int) 3 79 [.ref (loc (7, 0, 0)), .int p1] h ((jX9_code p1 h).map (fun r => (.inr (some (.int r.1)), r.2))) := by
  refine am_start (y := yX9_code) (av := [.ref (loc (7, 0, 0)), .int p1]) (nL := 2) (h := h) (RF := fun (r : Option (Int32 × HD)) => r.map (fun r => (.inr (some (.int r.1)), r.2))) (x := jX9_code p1 h) hl0 (by decide +kernel) rfl ?_
  intro p e R s m below meth c A hC
  unfold jX9_code
  refine aw_aload_n hC dX9_code_0 rfl ?_
  refine aw_iconst hC dX9_code_1 (v := 0) (by decide) ?_
  refine aw_pfI hC dX9_code_2 fg_RX9_112 fp_7_0 rfl rm_7_0_0 (fun h1 => ?_)
  refine aw_iload_n hC dX9_code_5 rfl ?_
  refine aw_i2l hC dX9_code_6 ?_
  refine aw_lconst hC dX9_code_7 (v := 0) (by decide) ?_
  refine aw_aload_n hC dX9_code_8 rfl ?_
  refine aw_bind rfl (fun q2 hq2 => ?_)
  refine aw_cVi hC dX9_code_9 cv_RX9_369 rfl rm_7_0_0 (am_some (inj := (fun r => (.inr (some (.int r)), h1))) hq2 (A_X9_codes _ (hC.2.2.2.2.2.2.2.2.2.2.2.2.1) _ _ _ h1)) rfl rfl rfl rfl rfl ⟨rfl, rfl⟩ ?_
  refine aw_iconst hC dX9_code_12 (v := 1) (by decide) ?_
  refine aw_isub hC dX9_code_13 ?_
  refine aw_i2l hC dX9_code_14 ?_
  refine aw_cSb hC dX9_code_15 cv_RX9_130 (A_X9_isIn _ (hC.2.2.2.2.2.2.2.2.2.2.2.2.1) _ _ _ p1.toInt64 (0 : Int64) ((q2 - (1 : Int32)).toInt64) h1) rfl rfl rfl rfl rfl ⟨rfl, rfl⟩ ?_
  refine aw_if_eq_b hC dX9_code_18 (tgt := 29) (by decide) ?_ ?_
  · refine aw_iconst hC dX9_code_29 (v := -1) (by decide) ?_
    exact aw_iret hC dX9_code_30 rfl rfl
  · refine aw_aload_n hC dX9_code_21 rfl ?_
    refine aw_iload_n hC dX9_code_22 rfl ?_
    refine aw_bind rfl (fun q3 hq3 => ?_)
    refine aw_cVi hC dX9_code_23 cv_RX9_372 rfl rm_7_0_0 (am_some (inj := (fun r => (.inr (some (.int r)), h1))) hq3 (A_X9_codeAt _ (hC.2.2.2.2.2.2.2.2.2.2.2.2.1) _ _ _ p1 h1)) rfl rfl rfl rfl rfl ⟨rfl, rfl⟩ ?_
    refine aw_goto hC dX9_code_26 (tgt := 30) (by decide) ?_
    exact aw_iret hC dX9_code_30 rfl rfl
set_option maxHeartbeats 4000000 in
set_option maxRecDepth 100000 in
theorem A_X9_edge (l : Launch) (hl0 : l.stackTraces = false) (D : va_G) (loc : Rf → Nat) (cy : Nat → ClassId) (p1 : Int32) (h : HD) : AM l D loc cy yX9_edge cX9_edge 2 (some .int) 4 101 [.ref (loc (7, 0, 0)), .int p1] h ((jX9_edge p1 h).map (fun r => (.inr (some (.int r.1)), r.2))) := by
  refine am_start (y := yX9_edge) (av := [.ref (loc (7, 0, 0)), .int p1]) (nL := 2) (h := h) (RF := fun (r : Option (Int32 × HD)) => r.map (fun r => (.inr (some (.int r.1)), r.2))) (x := jX9_edge p1 h) hl0 (by decide +kernel) rfl ?_
  intro p e R s m below meth c A hC
  unfold jX9_edge
  refine aw_aload_n hC dX9_edge_0 rfl ?_
  refine aw_iconst hC dX9_edge_1 (v := 0) (by decide) ?_
  refine aw_pfI hC dX9_edge_2 fg_RX9_112 fp_7_0 rfl rm_7_0_0 (fun h1 => ?_)
  refine aw_aload_n hC dX9_edge_5 rfl ?_
  refine aw_bind rfl (fun q2 hq2 => ?_)
  refine aw_cVv hC dX9_edge_6 cv_RX9_382 rfl rm_7_0_0 (am_some (inj := (fun r => (.inr (none), r))) hq2 (A_X9_grows _ (hC.2.2.2.2.2.2.2.2.2.2.2.2.1) _ _ _ h1)) rfl rfl rfl rfl rfl ⟨rfl, rfl⟩ ?_
  refine aw_iload_n hC dX9_edge_9 rfl ?_
  refine aw_i2l hC dX9_edge_10 ?_
  refine aw_lconst hC dX9_edge_11 (v := 0) (by decide) ?_
  refine aw_aload_n hC dX9_edge_12 rfl ?_
  refine aw_gfI hC dX9_edge_13 fg_RX9_363 rfl rm_7_0_0 ?_
  refine aw_iconst hC dX9_edge_16 (v := 1) (by decide) ?_
  refine aw_isub hC dX9_edge_17 ?_
  refine aw_i2l hC dX9_edge_18 ?_
  refine aw_cSb hC dX9_edge_19 cv_RX9_130 (A_X9_isIn _ (hC.2.2.2.2.2.2.2.2.2.2.2.2.1) _ _ _ p1.toInt64 (0 : Int64) (((gI q2 (7, 0, 0) 38) - (1 : Int32)).toInt64) q2) rfl rfl rfl rfl rfl ⟨rfl, rfl⟩ ?_
  refine aw_if_eq_b hC dX9_edge_22 (tgt := 44) (by decide) ?_ ?_
  · refine aw_iconst hC dX9_edge_44 (v := -1) (by decide) ?_
    exact aw_iret hC dX9_edge_45 rfl rfl
  · refine aw_bipush hC dX9_edge_25 (v := 100) (by decide) ?_
    refine aw_aload_n hC dX9_edge_27 rfl ?_
    refine aw_gfR hC dX9_edge_28 fg_RX9_72 rfl rfl rm_7_0_0 ?_
    refine aw_iload_n hC dX9_edge_31 rfl ?_
    refine aw_guard rfl (fun g3 => ?_)
    refine aw_iald hC dX9_edge_32 rm_7_0_19 rfl rfl g3 rfl ?_
    refine aw_imul hC dX9_edge_33 ?_
    refine aw_aload_n hC dX9_edge_34 rfl ?_
    refine aw_gfR hC dX9_edge_35 fg_RX9_75 rfl rfl rm_7_0_0 ?_
    refine aw_iload_n hC dX9_edge_38 rfl ?_
    refine aw_guard rfl (fun g4 => ?_)
    refine aw_iald hC dX9_edge_39 rm_7_0_20 rfl rfl g4 rfl ?_
    refine aw_iadd hC dX9_edge_40 ?_
    refine aw_goto hC dX9_edge_41 (tgt := 45) (by decide) ?_
    exact aw_iret hC dX9_edge_45 rfl rfl
set_option maxHeartbeats 4000000 in
set_option maxRecDepth 100000 in
theorem A_X9_isAt (l : Launch) (hl0 : l.stackTraces = false) (D : va_G) (loc : Rf → Nat) (cy : Nat → ClassId) (p1 : Int32) (p2 : Int32) (h : HD) : AM l D loc cy yX9_isAt cX9_isAt 3 (some .boolean) 0 16 [.ref (loc (7, 0, 0)), .int p1, .int p2] h ((jX9_isAt p1 p2 h).map (fun r => (.inr (some (.int (b2i r))), h))) := by
  refine am_start (y := yX9_isAt) (av := [.ref (loc (7, 0, 0)), .int p1, .int p2]) (nL := 3) (h := h) (RF := fun (r : Option Bool) => r.map (fun r => (.inr (some (.int (b2i r))), h))) (x := jX9_isAt p1 p2 h) hl0 (by decide +kernel) rfl ?_
  intro p e R s m below meth c A hC
  unfold jX9_isAt
  refine aw_aload_n hC dX9_isAt_0 rfl ?_
  refine aw_gfR hC dX9_isAt_1 fg_RX9_72 rfl rfl rm_7_0_0 ?_
  refine aw_iload_n hC dX9_isAt_4 rfl ?_
  refine aw_guard rfl (fun g1 => ?_)
  refine aw_iald hC dX9_isAt_5 rm_7_0_19 rfl rfl g1 rfl ?_
  refine aw_iload_n hC dX9_isAt_6 rfl ?_
  refine aw_icmp_eq hC dX9_isAt_7 (tgt := 20) (by decide) ?_ ?_
  · refine aw_iconst hC dX9_isAt_20 (v := 1) (by decide) ?_
    refine aw_goto hC dX9_isAt_21 (tgt := 25) (by decide) ?_
    exact aw_zret hC dX9_isAt_25 rfl (show _ = b2i true from rfl) rfl
  · refine aw_aload_n hC dX9_isAt_10 rfl ?_
    refine aw_gfR hC dX9_isAt_11 fg_RX9_75 rfl rfl rm_7_0_0 ?_
    refine aw_iload_n hC dX9_isAt_14 rfl ?_
    refine aw_guard rfl (fun g2 => ?_)
    refine aw_iald hC dX9_isAt_15 rm_7_0_20 rfl rfl g2 rfl ?_
    refine aw_iload_n hC dX9_isAt_16 rfl ?_
    refine aw_icmp_ne hC dX9_isAt_17 (tgt := 24) (by decide) ?_ ?_
    · refine aw_iconst hC dX9_isAt_24 (v := 0) (by decide) ?_
      exact aw_zret hC dX9_isAt_25 rfl (show _ = b2i false from rfl) rfl
    · refine aw_iconst hC dX9_isAt_20 (v := 1) (by decide) ?_
      refine aw_goto hC dX9_isAt_21 (tgt := 25) (by decide) ?_
      exact aw_zret hC dX9_isAt_25 rfl (show _ = b2i true from rfl) rfl
set_option maxHeartbeats 4000000 in
set_option maxRecDepth 100000 in
theorem L_X9_degreeOf_4 (p1 : Int32) (h : HD) (hC : Cx p l e R s m args meth c D loc cy A cX9_degreeOf 4 (some .int) RX9 1 38 0 0)  : ∀ (n4 : Nat) (x2 : Int32) (x3 : Int32), AW p l e R s m args below meth c D loc cy A 4 (QM below D loc cy A args s) (fun (r : Option Int32) => r.map (fun r => (.inr (some (.int r)), h))) (0, 0) 4 [(0, .ref (loc (7, 0, 0))), (1, .int p1), (2, .int x2), (3, .int x3)] [] h (jX9_degreeOf_L4 p1 h n4 x2 x3) := by
  intro n4
  induction n4 with
  | zero => intro x2 x3; exact aw_none rfl
  | succ n4 ih4 =>
    intro x2 x3
    rw [jX9_degreeOf_L4]
    refine aw_iload_n hC dX9_degreeOf_4 rfl ?_
    refine aw_aload_n hC dX9_degreeOf_5 rfl ?_
    refine aw_gfI hC dX9_degreeOf_6 fg_RX9_363 rfl rm_7_0_0 ?_
    refine aw_icmp_ge hC dX9_degreeOf_9 (tgt := 30) (by decide) ?_ ?_
    · refine aw_iload_n hC dX9_degreeOf_30 rfl ?_
      exact aw_iret hC dX9_degreeOf_31 rfl rfl
    · refine aw_iload_n hC dX9_degreeOf_12 rfl ?_
      refine aw_aload_n hC dX9_degreeOf_13 rfl ?_
      refine aw_iload_n hC dX9_degreeOf_14 rfl ?_
      refine aw_iload_n hC dX9_degreeOf_15 rfl ?_
      refine aw_bind rfl (fun q1 hq1 => ?_)
      refine aw_cVb hC dX9_degreeOf_16 cv_RX9_385 rfl rm_7_0_0 (am_some (inj := (fun r => (.inr (some (.int (b2i r))), h))) hq1 (A_X9_isAt _ (hC.2.2.2.2.2.2.2.2.2.2.2.2.1) _ _ _ x3 p1 h)) rfl rfl rfl rfl rfl ⟨rfl, rfl⟩ ?_
      refine aw_cSi hC dX9_degreeOf_19 cv_RX9_115 (A_X9_truth _ (hC.2.2.2.2.2.2.2.2.2.2.2.2.1) _ _ _ q1 h) rfl rfl rfl rfl rfl ⟨rfl, rfl⟩ ?_
      refine aw_iadd hC dX9_degreeOf_22 ?_
      refine aw_istore_n hC dX9_degreeOf_23 (by decide) ?_
      refine aw_iinc hC dX9_degreeOf_24 rfl (v := x3 + 1) (by first | rfl | decide) (by decide) ?_
      refine aw_goto hC dX9_degreeOf_27 (tgt := 4) (by decide) ?_
      refine aw_sub [0, 1, 2, 3] ?_
      exact ih4 (x2 + (jX9_truth q1 h)) (x3 + 1)
set_option maxHeartbeats 4000000 in
set_option maxRecDepth 100000 in
theorem A_X9_degreeOf (l : Launch) (hl0 : l.stackTraces = false) (D : va_G) (loc : Rf → Nat) (cy : Nat → ClassId) (p1 : Int32) (h : HD) : AM l D loc cy yX9_degreeOf cX9_degreeOf 4 (some .int) 1 38 [.ref (loc (7, 0, 0)), .int p1] h ((jX9_degreeOf p1 h).map (fun r => (.inr (some (.int r)), h))) := by
  refine am_start (y := yX9_degreeOf) (av := [.ref (loc (7, 0, 0)), .int p1]) (nL := 4) (h := h) (RF := fun (r : Option Int32) => r.map (fun r => (.inr (some (.int r)), h))) (x := jX9_degreeOf p1 h) hl0 (by decide +kernel) rfl ?_
  intro p e R s m below meth c A hC
  unfold jX9_degreeOf
  refine aw_iconst hC dX9_degreeOf_0 (v := 0) (by decide) ?_
  refine aw_istore_n hC dX9_degreeOf_1 (by decide) ?_
  refine aw_iconst hC dX9_degreeOf_2 (v := 0) (by decide) ?_
  refine aw_istore_n hC dX9_degreeOf_3 (by decide) ?_
  refine aw_sub [0, 1, 2, 3] ?_
  exact L_X9_degreeOf_4 p1 h  hC FU (0 : Int32) (0 : Int32)
set_option maxHeartbeats 4000000 in
set_option maxRecDepth 100000 in
theorem A_X9_degree (l : Launch) (hl0 : l.stackTraces = false) (D : va_G) (loc : Rf → Nat) (cy : Nat → ClassId) (p1 : Int32) (h : HD) : AM l D loc cy yX9_degree cX9_degree 2 (some .int) 4 101 [.ref (loc (7, 0, 0)), .int p1] h ((jX9_degree p1 h).map (fun r => (.inr (some (.int r.1)), r.2))) := by
  refine am_start (y := yX9_degree) (av := [.ref (loc (7, 0, 0)), .int p1]) (nL := 2) (h := h) (RF := fun (r : Option (Int32 × HD)) => r.map (fun r => (.inr (some (.int r.1)), r.2))) (x := jX9_degree p1 h) hl0 (by decide +kernel) rfl ?_
  intro p e R s m below meth c A hC
  unfold jX9_degree
  refine aw_aload_n hC dX9_degree_0 rfl ?_
  refine aw_aload_n hC dX9_degree_1 rfl ?_
  refine aw_iload_n hC dX9_degree_2 rfl ?_
  refine aw_bind rfl (fun q1 hq1 => ?_)
  refine aw_cVb hC dX9_degree_3 cv_RX9_341 rfl rm_7_0_0 (am_some (inj := (fun r => (.inr (some (.int (b2i r))), h))) hq1 (A_X9_isSpot _ (hC.2.2.2.2.2.2.2.2.2.2.2.2.1) _ _ _ p1 h)) rfl rfl rfl rfl rfl ⟨rfl, rfl⟩ ?_
  refine aw_bind rfl (fun q2 hq2 => ?_)
  refine aw_cVb hC dX9_degree_6 cv_RX9_122 rfl rm_7_0_0 (am_some (inj := (fun r => (.inr (some (.int (b2i r.1))), r.2))) hq2 (A_X9_goes _ (hC.2.2.2.2.2.2.2.2.2.2.2.2.1) _ _ _ q1 h)) rfl rfl rfl rfl rfl ⟨rfl, rfl⟩ ?_
  refine aw_if_ne_b hC dX9_degree_9 (tgt := 14) (by decide) ?_ ?_
  · refine aw_aload_n hC dX9_degree_14 rfl ?_
    refine aw_bind rfl (fun q3 hq3 => ?_)
    refine aw_cVv hC dX9_degree_15 cv_RX9_382 rfl rm_7_0_0 (am_some (inj := (fun r => (.inr (none), r))) hq3 (A_X9_grows _ (hC.2.2.2.2.2.2.2.2.2.2.2.2.1) _ _ _ q2.2)) rfl rfl rfl rfl rfl ⟨rfl, rfl⟩ ?_
    refine aw_aload_n hC dX9_degree_18 rfl ?_
    refine aw_iload_n hC dX9_degree_19 rfl ?_
    refine aw_bind rfl (fun q4 hq4 => ?_)
    refine aw_cVi hC dX9_degree_20 cv_RX9_388 rfl rm_7_0_0 (am_some (inj := (fun r => (.inr (some (.int r)), q3))) hq4 (A_X9_degreeOf _ (hC.2.2.2.2.2.2.2.2.2.2.2.2.1) _ _ _ p1 q3)) rfl rfl rfl rfl rfl ⟨rfl, rfl⟩ ?_
    exact aw_iret hC dX9_degree_23 rfl rfl
  · refine aw_iconst hC dX9_degree_12 (v := 0) (by decide) ?_
    exact aw_iret hC dX9_degree_13 rfl rfl
set_option maxHeartbeats 4000000 in
set_option maxRecDepth 100000 in
theorem L_X9_walks_2 (p1 : Int32) (k26 : HD → Option HD) (hC : Cx p l e R s m args meth c D loc cy A cX9_walks 4 (none) RX9 1 37 0 0) (hk26 : ∀  (h2 : HD), AW p l e R s m args below meth c D loc cy A 4 (QM below D loc cy A args s) (fun (r : Option HD) => r.map (fun r => (.inr (none), r))) (0, 0) 26 [(0, .ref (loc (7, 0, 0))), (1, .int p1)] [] h2 (k26  h2)) : ∀ (n2 : Nat) (x2 : Int32) (h : HD), AW p l e R s m args below meth c D loc cy A 4 (QM below D loc cy A args s) (fun (r : Option HD) => r.map (fun r => (.inr (none), r))) (0, 0) 2 [(0, .ref (loc (7, 0, 0))), (1, .int p1), (2, .int x2)] [] h (jX9_walks_L2 p1 k26 n2 x2 h) := by
  intro n2
  induction n2 with
  | zero => intro x2 h; exact aw_none rfl
  | succ n2 ih2 =>
    intro x2 h
    rw [jX9_walks_L2]
    refine aw_iload_n hC dX9_walks_2 rfl ?_
    refine aw_aload_n hC dX9_walks_3 rfl ?_
    refine aw_bind rfl (fun q1 hq1 => ?_)
    refine aw_cVi hC dX9_walks_4 cv_RX9_214 rfl rm_7_0_0 (am_some (inj := (fun r => (.inr (some (.int r)), h))) hq1 (A_X9_spots _ (hC.2.2.2.2.2.2.2.2.2.2.2.2.1) _ _ _ h)) rfl rfl rfl rfl rfl ⟨rfl, rfl⟩ ?_
    refine aw_icmp_ge hC dX9_walks_7 (tgt := 26) (by decide) ?_ ?_
    · refine aw_sub [0, 1] ?_
      exact hk26 h
    · refine aw_aload_n hC dX9_walks_10 rfl ?_
      refine aw_gfR hC dX9_walks_11 fg_RX9_78 rfl rfl rm_7_0_0 ?_
      refine aw_iload_n hC dX9_walks_14 rfl ?_
      refine aw_aload_n hC dX9_walks_15 rfl ?_
      refine aw_bind rfl (fun q2 hq2 => ?_)
      refine aw_cVi hC dX9_walks_16 cv_RX9_214 rfl rm_7_0_0 (am_some (inj := (fun r => (.inr (some (.int r)), h))) hq2 (A_X9_spots _ (hC.2.2.2.2.2.2.2.2.2.2.2.2.1) _ _ _ h)) rfl rfl rfl rfl rfl ⟨rfl, rfl⟩ ?_
      refine aw_guard rfl (fun g4 => ?_)
      refine aw_iast hC dX9_walks_19 rm_7_0_21 rfl rfl g4 rfl (fun h3 => ?_)
      refine aw_iinc hC dX9_walks_20 rfl (v := x2 + 1) (by first | rfl | decide) (by decide) ?_
      refine aw_goto hC dX9_walks_23 (tgt := 2) (by decide) ?_
      refine aw_sub [0, 1, 2] ?_
      exact ih2 (x2 + 1) h3
set_option maxHeartbeats 4000000 in
set_option maxRecDepth 100000 in
theorem L_X9_walks_45 (p1 : Int32) (x2 : Int32) (k135 : HD → Option HD) (hC : Cx p l e R s m args meth c D loc cy A cX9_walks 4 (none) RX9 1 37 0 0) (hk135 : ∀  (h2 : HD), AW p l e R s m args below meth c D loc cy A 4 (QM below D loc cy A args s) (fun (r : Option HD) => r.map (fun r => (.inr (none), r))) (0, 0) 135 [(0, .ref (loc (7, 0, 0))), (2, .int x2)] [] h2 (k135  h2)) : ∀ (n45 : Nat) (x3 : Int32) (h : HD), AW p l e R s m args below meth c D loc cy A 4 (QM below D loc cy A args s) (fun (r : Option HD) => r.map (fun r => (.inr (none), r))) (0, 0) 45 [(0, .ref (loc (7, 0, 0))), (2, .int x2), (3, .int x3)] [] h (jX9_walks_L45 p1 x2 k135 n45 x3 h) := by
  intro n45
  induction n45 with
  | zero => intro x3 h; exact aw_none rfl
  | succ n45 ih45 =>
    intro x3 h
    rw [jX9_walks_L45]
    refine aw_iload_n hC dX9_walks_45 rfl ?_
    refine aw_aload_n hC dX9_walks_46 rfl ?_
    refine aw_gfI hC dX9_walks_47 fg_RX9_363 rfl rm_7_0_0 ?_
    refine aw_icmp_ge hC dX9_walks_50 (tgt := 135) (by decide) ?_ ?_
    · refine aw_sub [0, 2] ?_
      exact hk135 h
    · refine aw_aload_n hC dX9_walks_53 rfl ?_
      refine aw_gfR hC dX9_walks_54 fg_RX9_78 rfl rfl rm_7_0_0 ?_
      refine aw_aload_n hC dX9_walks_57 rfl ?_
      refine aw_gfR hC dX9_walks_58 fg_RX9_72 rfl rfl rm_7_0_0 ?_
      refine aw_iload_n hC dX9_walks_61 rfl ?_
      refine aw_guard rfl (fun g9 => ?_)
      refine aw_iald hC dX9_walks_62 rm_7_0_19 rfl rfl g9 rfl ?_
      refine aw_aload_n hC dX9_walks_63 rfl ?_
      refine aw_gfR hC dX9_walks_64 fg_RX9_78 rfl rfl rm_7_0_0 ?_
      refine aw_aload_n hC dX9_walks_67 rfl ?_
      refine aw_gfR hC dX9_walks_68 fg_RX9_72 rfl rfl rm_7_0_0 ?_
      refine aw_iload_n hC dX9_walks_71 rfl ?_
      refine aw_guard rfl (fun g10 => ?_)
      refine aw_iald hC dX9_walks_72 rm_7_0_19 rfl rfl g10 rfl ?_
      refine aw_guard rfl (fun g11 => ?_)
      refine aw_iald hC dX9_walks_73 rm_7_0_21 rfl rfl g11 rfl ?_
      refine aw_aload_n hC dX9_walks_74 rfl ?_
      refine aw_gfR hC dX9_walks_75 fg_RX9_78 rfl rfl rm_7_0_0 ?_
      refine aw_aload_n hC dX9_walks_78 rfl ?_
      refine aw_gfR hC dX9_walks_79 fg_RX9_75 rfl rfl rm_7_0_0 ?_
      refine aw_iload_n hC dX9_walks_82 rfl ?_
      refine aw_guard rfl (fun g12 => ?_)
      refine aw_iald hC dX9_walks_83 rm_7_0_20 rfl rfl g12 rfl ?_
      refine aw_guard rfl (fun g13 => ?_)
      refine aw_iald hC dX9_walks_84 rm_7_0_21 rfl rfl g13 rfl ?_
      refine aw_iconst hC dX9_walks_85 (v := 1) (by decide) ?_
      refine aw_iadd hC dX9_walks_86 ?_
      refine aw_cSi hC dX9_walks_87 cv_RX9_366 (A_X9_lesser _ (hC.2.2.2.2.2.2.2.2.2.2.2.2.1) _ _ _ (gI h (7, 0, 21) (gI h (7, 0, 19) x3.toNatClampNeg).toNatClampNeg) ((gI h (7, 0, 21) (gI h (7, 0, 20) x3.toNatClampNeg).toNatClampNeg) + (1 : Int32)) h) rfl rfl rfl rfl rfl ⟨rfl, rfl⟩ ?_
      refine aw_guard rfl (fun g15 => ?_)
      refine aw_iast hC dX9_walks_90 rm_7_0_21 rfl rfl g15 rfl (fun h14 => ?_)
      refine aw_aload_n hC dX9_walks_91 rfl ?_
      refine aw_gfR hC dX9_walks_92 fg_RX9_78 rfl rfl rm_7_0_0 ?_
      refine aw_aload_n hC dX9_walks_95 rfl ?_
      refine aw_gfR hC dX9_walks_96 fg_RX9_75 rfl rfl rm_7_0_0 ?_
      refine aw_iload_n hC dX9_walks_99 rfl ?_
      refine aw_guard rfl (fun g16 => ?_)
      refine aw_iald hC dX9_walks_100 rm_7_0_20 rfl rfl g16 rfl ?_
      refine aw_aload_n hC dX9_walks_101 rfl ?_
      refine aw_gfR hC dX9_walks_102 fg_RX9_78 rfl rfl rm_7_0_0 ?_
      refine aw_aload_n hC dX9_walks_105 rfl ?_
      refine aw_gfR hC dX9_walks_106 fg_RX9_75 rfl rfl rm_7_0_0 ?_
      refine aw_iload_n hC dX9_walks_109 rfl ?_
      refine aw_guard rfl (fun g17 => ?_)
      refine aw_iald hC dX9_walks_110 rm_7_0_20 rfl rfl g17 rfl ?_
      refine aw_guard rfl (fun g18 => ?_)
      refine aw_iald hC dX9_walks_111 rm_7_0_21 rfl rfl g18 rfl ?_
      refine aw_aload_n hC dX9_walks_112 rfl ?_
      refine aw_gfR hC dX9_walks_113 fg_RX9_78 rfl rfl rm_7_0_0 ?_
      refine aw_aload_n hC dX9_walks_116 rfl ?_
      refine aw_gfR hC dX9_walks_117 fg_RX9_72 rfl rfl rm_7_0_0 ?_
      refine aw_iload_n hC dX9_walks_120 rfl ?_
      refine aw_guard rfl (fun g19 => ?_)
      refine aw_iald hC dX9_walks_121 rm_7_0_19 rfl rfl g19 rfl ?_
      refine aw_guard rfl (fun g20 => ?_)
      refine aw_iald hC dX9_walks_122 rm_7_0_21 rfl rfl g20 rfl ?_
      refine aw_iconst hC dX9_walks_123 (v := 1) (by decide) ?_
      refine aw_iadd hC dX9_walks_124 ?_
      refine aw_cSi hC dX9_walks_125 cv_RX9_366 (A_X9_lesser _ (hC.2.2.2.2.2.2.2.2.2.2.2.2.1) _ _ _ (gI h14 (7, 0, 21) (gI h14 (7, 0, 20) x3.toNatClampNeg).toNatClampNeg) ((gI h14 (7, 0, 21) (gI h14 (7, 0, 19) x3.toNatClampNeg).toNatClampNeg) + (1 : Int32)) h14) rfl rfl rfl rfl rfl ⟨rfl, rfl⟩ ?_
      refine aw_guard rfl (fun g22 => ?_)
      refine aw_iast hC dX9_walks_128 rm_7_0_21 rfl rfl g22 rfl (fun h21 => ?_)
      refine aw_iinc hC dX9_walks_129 rfl (v := x3 + 1) (by first | rfl | decide) (by decide) ?_
      refine aw_goto hC dX9_walks_132 (tgt := 45) (by decide) ?_
      refine aw_sub [0, 2, 3] ?_
      exact ih45 (x3 + 1) h21
set_option maxHeartbeats 4000000 in
set_option maxRecDepth 100000 in
theorem L_X9_walks_35 (p1 : Int32) (hC : Cx p l e R s m args meth c D loc cy A cX9_walks 4 (none) RX9 1 37 0 0)  : ∀ (n35 : Nat) (x2 : Int32) (h : HD), AW p l e R s m args below meth c D loc cy A 4 (QM below D loc cy A args s) (fun (r : Option HD) => r.map (fun r => (.inr (none), r))) (0, 0) 35 [(0, .ref (loc (7, 0, 0))), (2, .int x2)] [] h (jX9_walks_L35 p1 n35 x2 h) := by
  intro n35
  induction n35 with
  | zero => intro x2 h; exact aw_none rfl
  | succ n35 ih35 =>
    intro x2 h
    rw [jX9_walks_L35]
    refine aw_iload_n hC dX9_walks_35 rfl ?_
    refine aw_aload_n hC dX9_walks_36 rfl ?_
    refine aw_bind rfl (fun q8 hq8 => ?_)
    refine aw_cVi hC dX9_walks_37 cv_RX9_214 rfl rm_7_0_0 (am_some (inj := (fun r => (.inr (some (.int r)), h))) hq8 (A_X9_spots _ (hC.2.2.2.2.2.2.2.2.2.2.2.2.1) _ _ _ h)) rfl rfl rfl rfl rfl ⟨rfl, rfl⟩ ?_
    refine aw_icmp_ge hC dX9_walks_40 (tgt := 141) (by decide) ?_ ?_
    · exact aw_vret hC dX9_walks_141 rfl rfl
    · refine aw_iconst hC dX9_walks_43 (v := 0) (by decide) ?_
      refine aw_istore_n hC dX9_walks_44 (by decide) ?_
      refine aw_sub [0, 2, 3] ?_
      refine L_X9_walks_45 p1 x2 _ hC ?_ FU (0 : Int32) h
      · intro h23
        refine aw_iinc hC dX9_walks_135 rfl (v := x2 + 1) (by first | rfl | decide) (by decide) ?_
        refine aw_goto hC dX9_walks_138 (tgt := 35) (by decide) ?_
        refine aw_sub [0, 2] ?_
        exact ih35 (x2 + 1) h23
set_option maxHeartbeats 4000000 in
set_option maxRecDepth 100000 in
theorem A_X9_walks (l : Launch) (hl0 : l.stackTraces = false) (D : va_G) (loc : Rf → Nat) (cy : Nat → ClassId) (p1 : Int32) (h : HD) : AM l D loc cy yX9_walks cX9_walks 4 (none) 1 37 [.ref (loc (7, 0, 0)), .int p1] h ((jX9_walks p1 h).map (fun r => (.inr (none), r))) := by
  refine am_start (y := yX9_walks) (av := [.ref (loc (7, 0, 0)), .int p1]) (nL := 4) (h := h) (RF := fun (r : Option HD) => r.map (fun r => (.inr (none), r))) (x := jX9_walks p1 h) hl0 (by decide +kernel) rfl ?_
  intro p e R s m below meth c A hC
  unfold jX9_walks
  refine aw_iconst hC dX9_walks_0 (v := 0) (by decide) ?_
  refine aw_istore_n hC dX9_walks_1 (by decide) ?_
  refine aw_sub [0, 1, 2] ?_
  refine L_X9_walks_2 p1 _ hC ?_ FU (0 : Int32) h
  · intro h5
    refine aw_aload_n hC dX9_walks_26 rfl ?_
    refine aw_gfR hC dX9_walks_27 fg_RX9_78 rfl rfl rm_7_0_0 ?_
    refine aw_iload_n hC dX9_walks_30 rfl ?_
    refine aw_iconst hC dX9_walks_31 (v := 0) (by decide) ?_
    refine aw_guard rfl (fun g7 => ?_)
    refine aw_iast hC dX9_walks_32 rm_7_0_21 rfl rfl g7 rfl (fun h6 => ?_)
    refine aw_iconst hC dX9_walks_33 (v := 0) (by decide) ?_
    refine aw_istore_n hC dX9_walks_34 (by decide) ?_
    refine aw_sub [0, 2] ?_
    exact L_X9_walks_35 p1  hC FU (0 : Int32) h6
set_option maxHeartbeats 4000000 in
set_option maxRecDepth 100000 in
theorem A_X9_far (l : Launch) (hl0 : l.stackTraces = false) (D : va_G) (loc : Rf → Nat) (cy : Nat → ClassId) (p1 : Int32) (p2 : Int32) (h : HD) : AM l D loc cy yX9_far cX9_far 3 (some .int) 4 101 [.ref (loc (7, 0, 0)), .int p1, .int p2] h ((jX9_far p1 p2 h).map (fun r => (.inr (some (.int r.1)), r.2))) := by
  refine am_start (y := yX9_far) (av := [.ref (loc (7, 0, 0)), .int p1, .int p2]) (nL := 3) (h := h) (RF := fun (r : Option (Int32 × HD)) => r.map (fun r => (.inr (some (.int r.1)), r.2))) (x := jX9_far p1 p2 h) hl0 (by decide +kernel) rfl ?_
  intro p e R s m below meth c A hC
  unfold jX9_far
  refine aw_aload_n hC dX9_far_0 rfl ?_
  refine aw_aload_n hC dX9_far_1 rfl ?_
  refine aw_iload_n hC dX9_far_2 rfl ?_
  refine aw_bind rfl (fun q1 hq1 => ?_)
  refine aw_cVb hC dX9_far_3 cv_RX9_341 rfl rm_7_0_0 (am_some (inj := (fun r => (.inr (some (.int (b2i r))), h))) hq1 (A_X9_isSpot _ (hC.2.2.2.2.2.2.2.2.2.2.2.2.1) _ _ _ p1 h)) rfl rfl rfl rfl rfl ⟨rfl, rfl⟩ ?_
  refine aw_if_eq_b hC dX9_far_6 (tgt := 21) (by decide) ?_ ?_
  · refine aw_iconst hC dX9_far_21 (v := 0) (by decide) ?_
    refine aw_bind rfl (fun q2 hq2 => ?_)
    refine aw_cVb hC dX9_far_22 cv_RX9_122 rfl rm_7_0_0 (am_some (inj := (fun r => (.inr (some (.int (b2i r.1))), r.2))) hq2 (A_X9_goes _ (hC.2.2.2.2.2.2.2.2.2.2.2.2.1) _ _ _ false h)) rfl rfl rfl rfl rfl ⟨rfl, rfl⟩ ?_
    refine aw_if_ne_b hC dX9_far_25 (tgt := 30) (by decide) ?_ ?_
    · refine aw_aload_n hC dX9_far_30 rfl ?_
      refine aw_bind rfl (fun q3 hq3 => ?_)
      refine aw_cVv hC dX9_far_31 cv_RX9_382 rfl rm_7_0_0 (am_some (inj := (fun r => (.inr (none), r))) hq3 (A_X9_grows _ (hC.2.2.2.2.2.2.2.2.2.2.2.2.1) _ _ _ q2.2)) rfl rfl rfl rfl rfl ⟨rfl, rfl⟩ ?_
      refine aw_aload_n hC dX9_far_34 rfl ?_
      refine aw_iload_n hC dX9_far_35 rfl ?_
      refine aw_bind rfl (fun q4 hq4 => ?_)
      refine aw_cVv hC dX9_far_36 cv_RX9_391 rfl rm_7_0_0 (am_some (inj := (fun r => (.inr (none), r))) hq4 (A_X9_walks _ (hC.2.2.2.2.2.2.2.2.2.2.2.2.1) _ _ _ p1 q3)) rfl rfl rfl rfl rfl ⟨rfl, rfl⟩ ?_
      refine aw_aload_n hC dX9_far_39 rfl ?_
      refine aw_gfR hC dX9_far_40 fg_RX9_78 rfl rfl rm_7_0_0 ?_
      refine aw_iload_n hC dX9_far_43 rfl ?_
      refine aw_guard rfl (fun g5 => ?_)
      refine aw_iald hC dX9_far_44 rm_7_0_21 rfl rfl g5 rfl ?_
      exact aw_iret hC dX9_far_45 rfl rfl
    · refine aw_iconst hC dX9_far_28 (v := 0) (by decide) ?_
      exact aw_iret hC dX9_far_29 rfl rfl
  · refine aw_aload_n hC dX9_far_9 rfl ?_
    refine aw_iload_n hC dX9_far_10 rfl ?_
    refine aw_bind rfl (fun q6 hq6 => ?_)
    refine aw_cVb hC dX9_far_11 cv_RX9_341 rfl rm_7_0_0 (am_some (inj := (fun r => (.inr (some (.int (b2i r))), h))) hq6 (A_X9_isSpot _ (hC.2.2.2.2.2.2.2.2.2.2.2.2.1) _ _ _ p2 h)) rfl rfl rfl rfl rfl ⟨rfl, rfl⟩ ?_
    refine aw_if_eq_b hC dX9_far_14 (tgt := 21) (by decide) ?_ ?_
    · refine aw_iconst hC dX9_far_21 (v := 0) (by decide) ?_
      refine aw_bind rfl (fun q7 hq7 => ?_)
      refine aw_cVb hC dX9_far_22 cv_RX9_122 rfl rm_7_0_0 (am_some (inj := (fun r => (.inr (some (.int (b2i r.1))), r.2))) hq7 (A_X9_goes _ (hC.2.2.2.2.2.2.2.2.2.2.2.2.1) _ _ _ false h)) rfl rfl rfl rfl rfl ⟨rfl, rfl⟩ ?_
      refine aw_if_ne_b hC dX9_far_25 (tgt := 30) (by decide) ?_ ?_
      · refine aw_aload_n hC dX9_far_30 rfl ?_
        refine aw_bind rfl (fun q8 hq8 => ?_)
        refine aw_cVv hC dX9_far_31 cv_RX9_382 rfl rm_7_0_0 (am_some (inj := (fun r => (.inr (none), r))) hq8 (A_X9_grows _ (hC.2.2.2.2.2.2.2.2.2.2.2.2.1) _ _ _ q7.2)) rfl rfl rfl rfl rfl ⟨rfl, rfl⟩ ?_
        refine aw_aload_n hC dX9_far_34 rfl ?_
        refine aw_iload_n hC dX9_far_35 rfl ?_
        refine aw_bind rfl (fun q9 hq9 => ?_)
        refine aw_cVv hC dX9_far_36 cv_RX9_391 rfl rm_7_0_0 (am_some (inj := (fun r => (.inr (none), r))) hq9 (A_X9_walks _ (hC.2.2.2.2.2.2.2.2.2.2.2.2.1) _ _ _ p1 q8)) rfl rfl rfl rfl rfl ⟨rfl, rfl⟩ ?_
        refine aw_aload_n hC dX9_far_39 rfl ?_
        refine aw_gfR hC dX9_far_40 fg_RX9_78 rfl rfl rm_7_0_0 ?_
        refine aw_iload_n hC dX9_far_43 rfl ?_
        refine aw_guard rfl (fun g10 => ?_)
        refine aw_iald hC dX9_far_44 rm_7_0_21 rfl rfl g10 rfl ?_
        exact aw_iret hC dX9_far_45 rfl rfl
      · refine aw_iconst hC dX9_far_28 (v := 0) (by decide) ?_
        exact aw_iret hC dX9_far_29 rfl rfl
    · refine aw_iconst hC dX9_far_17 (v := 1) (by decide) ?_
      refine aw_goto hC dX9_far_18 (tgt := 22) (by decide) ?_
      refine aw_bind rfl (fun q11 hq11 => ?_)
      refine aw_cVb hC dX9_far_22 cv_RX9_122 rfl rm_7_0_0 (am_some (inj := (fun r => (.inr (some (.int (b2i r.1))), r.2))) hq11 (A_X9_goes _ (hC.2.2.2.2.2.2.2.2.2.2.2.2.1) _ _ _ true h)) rfl rfl rfl rfl rfl ⟨rfl, rfl⟩ ?_
      refine aw_if_ne_b hC dX9_far_25 (tgt := 30) (by decide) ?_ ?_
      · refine aw_aload_n hC dX9_far_30 rfl ?_
        refine aw_bind rfl (fun q12 hq12 => ?_)
        refine aw_cVv hC dX9_far_31 cv_RX9_382 rfl rm_7_0_0 (am_some (inj := (fun r => (.inr (none), r))) hq12 (A_X9_grows _ (hC.2.2.2.2.2.2.2.2.2.2.2.2.1) _ _ _ q11.2)) rfl rfl rfl rfl rfl ⟨rfl, rfl⟩ ?_
        refine aw_aload_n hC dX9_far_34 rfl ?_
        refine aw_iload_n hC dX9_far_35 rfl ?_
        refine aw_bind rfl (fun q13 hq13 => ?_)
        refine aw_cVv hC dX9_far_36 cv_RX9_391 rfl rm_7_0_0 (am_some (inj := (fun r => (.inr (none), r))) hq13 (A_X9_walks _ (hC.2.2.2.2.2.2.2.2.2.2.2.2.1) _ _ _ p1 q12)) rfl rfl rfl rfl rfl ⟨rfl, rfl⟩ ?_
        refine aw_aload_n hC dX9_far_39 rfl ?_
        refine aw_gfR hC dX9_far_40 fg_RX9_78 rfl rfl rm_7_0_0 ?_
        refine aw_iload_n hC dX9_far_43 rfl ?_
        refine aw_guard rfl (fun g14 => ?_)
        refine aw_iald hC dX9_far_44 rm_7_0_21 rfl rfl g14 rfl ?_
        exact aw_iret hC dX9_far_45 rfl rfl
      · refine aw_iconst hC dX9_far_28 (v := 0) (by decide) ?_
        exact aw_iret hC dX9_far_29 rfl rfl
set_option maxHeartbeats 4000000 in
set_option maxRecDepth 100000 in
theorem L_X9_wide_28 (x2 : Int32) (h : HD) (k59 : Int32 → Option (Int32 × HD)) (hC : Cx p l e R s m args meth c D loc cy A cX9_wide 4 (some .int) RX9 4 101 0 0) (hk59 : ∀ (x1 : Int32), AW p l e R s m args below meth c D loc cy A 4 (QM below D loc cy A args s) (fun (r : Option (Int32 × HD)) => r.map (fun r => (.inr (some (.int r.1)), r.2))) (0, 0) 59 [(0, .ref (loc (7, 0, 0))), (1, .int x1), (2, .int x2)] [] h (k59 x1)) : ∀ (n28 : Nat) (x1 : Int32) (x3 : Int32), AW p l e R s m args below meth c D loc cy A 4 (QM below D loc cy A args s) (fun (r : Option (Int32 × HD)) => r.map (fun r => (.inr (some (.int r.1)), r.2))) (0, 0) 28 [(0, .ref (loc (7, 0, 0))), (1, .int x1), (2, .int x2), (3, .int x3)] [] h (jX9_wide_L28 x2 h k59 n28 x1 x3) := by
  intro n28
  induction n28 with
  | zero => intro x1 x3; exact aw_none rfl
  | succ n28 ih28 =>
    intro x1 x3
    rw [jX9_wide_L28]
    refine aw_iload_n hC dX9_wide_28 rfl ?_
    refine aw_aload_n hC dX9_wide_29 rfl ?_
    refine aw_bind rfl (fun q5 hq5 => ?_)
    refine aw_cVi hC dX9_wide_30 cv_RX9_214 rfl rm_7_0_0 (am_some (inj := (fun r => (.inr (some (.int r)), h))) hq5 (A_X9_spots _ (hC.2.2.2.2.2.2.2.2.2.2.2.2.1) _ _ _ h)) rfl rfl rfl rfl rfl ⟨rfl, rfl⟩ ?_
    refine aw_icmp_ge hC dX9_wide_33 (tgt := 59) (by decide) ?_ ?_
    · refine aw_sub [0, 1, 2] ?_
      exact hk59 x1
    · refine aw_aload_n hC dX9_wide_36 rfl ?_
      refine aw_gfR hC dX9_wide_37 fg_RX9_78 rfl rfl rm_7_0_0 ?_
      refine aw_iload_n hC dX9_wide_40 rfl ?_
      refine aw_guard rfl (fun g6 => ?_)
      refine aw_iald hC dX9_wide_41 rm_7_0_21 rfl rfl g6 rfl ?_
      refine aw_iload_n hC dX9_wide_42 rfl ?_
      refine aw_icmp_le hC dX9_wide_43 (tgt := 53) (by decide) ?_ ?_
      · refine aw_iinc hC dX9_wide_53 rfl (v := x3 + 1) (by first | rfl | decide) (by decide) ?_
        refine aw_goto hC dX9_wide_56 (tgt := 28) (by decide) ?_
        refine aw_sub [0, 1, 2, 3] ?_
        exact ih28 x1 (x3 + 1)
      · refine aw_aload_n hC dX9_wide_46 rfl ?_
        refine aw_gfR hC dX9_wide_47 fg_RX9_78 rfl rfl rm_7_0_0 ?_
        refine aw_iload_n hC dX9_wide_50 rfl ?_
        refine aw_guard rfl (fun g7 => ?_)
        refine aw_iald hC dX9_wide_51 rm_7_0_21 rfl rfl g7 rfl ?_
        refine aw_istore_n hC dX9_wide_52 (by decide) ?_
        refine aw_iinc hC dX9_wide_53 rfl (v := x3 + 1) (by first | rfl | decide) (by decide) ?_
        refine aw_goto hC dX9_wide_56 (tgt := 28) (by decide) ?_
        refine aw_sub [0, 1, 2, 3] ?_
        exact ih28 (gI h (7, 0, 21) x3.toNatClampNeg) (x3 + 1)
set_option maxHeartbeats 4000000 in
set_option maxRecDepth 100000 in
theorem L_X9_wide_13  (hC : Cx p l e R s m args meth c D loc cy A cX9_wide 4 (some .int) RX9 4 101 0 0)  : ∀ (n13 : Nat) (x1 : Int32) (x2 : Int32) (h : HD), AW p l e R s m args below meth c D loc cy A 4 (QM below D loc cy A args s) (fun (r : Option (Int32 × HD)) => r.map (fun r => (.inr (some (.int r.1)), r.2))) (0, 0) 13 [(0, .ref (loc (7, 0, 0))), (1, .int x1), (2, .int x2)] [] h (jX9_wide_L13 n13 x1 x2 h) := by
  intro n13
  induction n13 with
  | zero => intro x1 x2 h; exact aw_none rfl
  | succ n13 ih13 =>
    intro x1 x2 h
    rw [jX9_wide_L13]
    refine aw_iload_n hC dX9_wide_13 rfl ?_
    refine aw_aload_n hC dX9_wide_14 rfl ?_
    refine aw_bind rfl (fun q3 hq3 => ?_)
    refine aw_cVi hC dX9_wide_15 cv_RX9_214 rfl rm_7_0_0 (am_some (inj := (fun r => (.inr (some (.int r)), h))) hq3 (A_X9_spots _ (hC.2.2.2.2.2.2.2.2.2.2.2.2.1) _ _ _ h)) rfl rfl rfl rfl rfl ⟨rfl, rfl⟩ ?_
    refine aw_icmp_ge hC dX9_wide_18 (tgt := 65) (by decide) ?_ ?_
    · refine aw_iload_n hC dX9_wide_65 rfl ?_
      exact aw_iret hC dX9_wide_66 rfl rfl
    · refine aw_aload_n hC dX9_wide_21 rfl ?_
      refine aw_iload_n hC dX9_wide_22 rfl ?_
      refine aw_bind rfl (fun q4 hq4 => ?_)
      refine aw_cVv hC dX9_wide_23 cv_RX9_391 rfl rm_7_0_0 (am_some (inj := (fun r => (.inr (none), r))) hq4 (A_X9_walks _ (hC.2.2.2.2.2.2.2.2.2.2.2.2.1) _ _ _ x2 h)) rfl rfl rfl rfl rfl ⟨rfl, rfl⟩ ?_
      refine aw_iconst hC dX9_wide_26 (v := 0) (by decide) ?_
      refine aw_istore_n hC dX9_wide_27 (by decide) ?_
      refine aw_sub [0, 1, 2, 3] ?_
      refine L_X9_wide_28 x2 q4 _ hC ?_ FU x1 (0 : Int32)
      · intro y28_1
        refine aw_iinc hC dX9_wide_59 rfl (v := x2 + 1) (by first | rfl | decide) (by decide) ?_
        refine aw_goto hC dX9_wide_62 (tgt := 13) (by decide) ?_
        refine aw_sub [0, 1, 2] ?_
        exact ih13 y28_1 (x2 + 1) q4
set_option maxHeartbeats 4000000 in
set_option maxRecDepth 100000 in
theorem A_X9_wide (l : Launch) (hl0 : l.stackTraces = false) (D : va_G) (loc : Rf → Nat) (cy : Nat → ClassId)  (h : HD) : AM l D loc cy yX9_wide cX9_wide 4 (some .int) 4 101 [.ref (loc (7, 0, 0))] h ((jX9_wide h).map (fun r => (.inr (some (.int r.1)), r.2))) := by
  refine am_start (y := yX9_wide) (av := [.ref (loc (7, 0, 0))]) (nL := 4) (h := h) (RF := fun (r : Option (Int32 × HD)) => r.map (fun r => (.inr (some (.int r.1)), r.2))) (x := jX9_wide h) hl0 (by decide +kernel) rfl ?_
  intro p e R s m below meth c A hC
  unfold jX9_wide
  refine aw_aload_n hC dX9_wide_0 rfl ?_
  refine aw_iconst hC dX9_wide_1 (v := 0) (by decide) ?_
  refine aw_pfI hC dX9_wide_2 fg_RX9_112 fp_7_0 rfl rm_7_0_0 (fun h1 => ?_)
  refine aw_aload_n hC dX9_wide_5 rfl ?_
  refine aw_bind rfl (fun q2 hq2 => ?_)
  refine aw_cVv hC dX9_wide_6 cv_RX9_382 rfl rm_7_0_0 (am_some (inj := (fun r => (.inr (none), r))) hq2 (A_X9_grows _ (hC.2.2.2.2.2.2.2.2.2.2.2.2.1) _ _ _ h1)) rfl rfl rfl rfl rfl ⟨rfl, rfl⟩ ?_
  refine aw_iconst hC dX9_wide_9 (v := 0) (by decide) ?_
  refine aw_istore_n hC dX9_wide_10 (by decide) ?_
  refine aw_iconst hC dX9_wide_11 (v := 0) (by decide) ?_
  refine aw_istore_n hC dX9_wide_12 (by decide) ?_
  refine aw_sub [0, 1, 2] ?_
  exact L_X9_wide_13   hC FU (0 : Int32) (0 : Int32) q2
set_option maxHeartbeats 4000000 in
set_option maxRecDepth 100000 in
theorem L_X9_leaves_13 (h : HD) (hC : Cx p l e R s m args meth c D loc cy A cX9_leaves 3 (some .int) RX9 4 101 0 0)  : ∀ (n13 : Nat) (x1 : Int32) (x2 : Int32), AW p l e R s m args below meth c D loc cy A 3 (QM below D loc cy A args s) (fun (r : Option (Int32 × HD)) => r.map (fun r => (.inr (some (.int r.1)), r.2))) (0, 0) 13 [(0, .ref (loc (7, 0, 0))), (1, .int x1), (2, .int x2)] [] h (jX9_leaves_L13 h n13 x1 x2) := by
  intro n13
  induction n13 with
  | zero => intro x1 x2; exact aw_none rfl
  | succ n13 ih13 =>
    intro x1 x2
    rw [jX9_leaves_L13]
    refine aw_iload_n hC dX9_leaves_13 rfl ?_
    refine aw_aload_n hC dX9_leaves_14 rfl ?_
    refine aw_bind rfl (fun q3 hq3 => ?_)
    refine aw_cVi hC dX9_leaves_15 cv_RX9_214 rfl rm_7_0_0 (am_some (inj := (fun r => (.inr (some (.int r)), h))) hq3 (A_X9_spots _ (hC.2.2.2.2.2.2.2.2.2.2.2.2.1) _ _ _ h)) rfl rfl rfl rfl rfl ⟨rfl, rfl⟩ ?_
    refine aw_icmp_ge hC dX9_leaves_18 (tgt := 47) (by decide) ?_ ?_
    · refine aw_iload_n hC dX9_leaves_47 rfl ?_
      exact aw_iret hC dX9_leaves_48 rfl rfl
    · refine aw_iload_n hC dX9_leaves_21 rfl ?_
      refine aw_aload_n hC dX9_leaves_22 rfl ?_
      refine aw_iload_n hC dX9_leaves_23 rfl ?_
      refine aw_bind rfl (fun q4 hq4 => ?_)
      refine aw_cVi hC dX9_leaves_24 cv_RX9_388 rfl rm_7_0_0 (am_some (inj := (fun r => (.inr (some (.int r)), h))) hq4 (A_X9_degreeOf _ (hC.2.2.2.2.2.2.2.2.2.2.2.2.1) _ _ _ x2 h)) rfl rfl rfl rfl rfl ⟨rfl, rfl⟩ ?_
      refine aw_iconst hC dX9_leaves_27 (v := 1) (by decide) ?_
      refine aw_icmp_ne hC dX9_leaves_28 (tgt := 35) (by decide) ?_ ?_
      · refine aw_iconst hC dX9_leaves_35 (v := 0) (by decide) ?_
        refine aw_cSi hC dX9_leaves_36 cv_RX9_115 (A_X9_truth _ (hC.2.2.2.2.2.2.2.2.2.2.2.2.1) _ _ _ false h) rfl rfl rfl rfl rfl ⟨rfl, rfl⟩ ?_
        refine aw_iadd hC dX9_leaves_39 ?_
        refine aw_istore_n hC dX9_leaves_40 (by decide) ?_
        refine aw_iinc hC dX9_leaves_41 rfl (v := x2 + 1) (by first | rfl | decide) (by decide) ?_
        refine aw_goto hC dX9_leaves_44 (tgt := 13) (by decide) ?_
        refine aw_sub [0, 1, 2] ?_
        exact ih13 (x1 + (jX9_truth false h)) (x2 + 1)
      · refine aw_iconst hC dX9_leaves_31 (v := 1) (by decide) ?_
        refine aw_goto hC dX9_leaves_32 (tgt := 36) (by decide) ?_
        refine aw_cSi hC dX9_leaves_36 cv_RX9_115 (A_X9_truth _ (hC.2.2.2.2.2.2.2.2.2.2.2.2.1) _ _ _ true h) rfl rfl rfl rfl rfl ⟨rfl, rfl⟩ ?_
        refine aw_iadd hC dX9_leaves_39 ?_
        refine aw_istore_n hC dX9_leaves_40 (by decide) ?_
        refine aw_iinc hC dX9_leaves_41 rfl (v := x2 + 1) (by first | rfl | decide) (by decide) ?_
        refine aw_goto hC dX9_leaves_44 (tgt := 13) (by decide) ?_
        refine aw_sub [0, 1, 2] ?_
        exact ih13 (x1 + (jX9_truth true h)) (x2 + 1)
set_option maxHeartbeats 4000000 in
set_option maxRecDepth 100000 in
theorem A_X9_leaves (l : Launch) (hl0 : l.stackTraces = false) (D : va_G) (loc : Rf → Nat) (cy : Nat → ClassId)  (h : HD) : AM l D loc cy yX9_leaves cX9_leaves 3 (some .int) 4 101 [.ref (loc (7, 0, 0))] h ((jX9_leaves h).map (fun r => (.inr (some (.int r.1)), r.2))) := by
  refine am_start (y := yX9_leaves) (av := [.ref (loc (7, 0, 0))]) (nL := 3) (h := h) (RF := fun (r : Option (Int32 × HD)) => r.map (fun r => (.inr (some (.int r.1)), r.2))) (x := jX9_leaves h) hl0 (by decide +kernel) rfl ?_
  intro p e R s m below meth c A hC
  unfold jX9_leaves
  refine aw_aload_n hC dX9_leaves_0 rfl ?_
  refine aw_iconst hC dX9_leaves_1 (v := 0) (by decide) ?_
  refine aw_pfI hC dX9_leaves_2 fg_RX9_112 fp_7_0 rfl rm_7_0_0 (fun h1 => ?_)
  refine aw_aload_n hC dX9_leaves_5 rfl ?_
  refine aw_bind rfl (fun q2 hq2 => ?_)
  refine aw_cVv hC dX9_leaves_6 cv_RX9_382 rfl rm_7_0_0 (am_some (inj := (fun r => (.inr (none), r))) hq2 (A_X9_grows _ (hC.2.2.2.2.2.2.2.2.2.2.2.2.1) _ _ _ h1)) rfl rfl rfl rfl rfl ⟨rfl, rfl⟩ ?_
  refine aw_iconst hC dX9_leaves_9 (v := 0) (by decide) ?_
  refine aw_istore_n hC dX9_leaves_10 (by decide) ?_
  refine aw_iconst hC dX9_leaves_11 (v := 0) (by decide) ?_
  refine aw_istore_n hC dX9_leaves_12 (by decide) ?_
  refine aw_sub [0, 1, 2] ?_
  exact L_X9_leaves_13 q2  hC FU (0 : Int32) (0 : Int32)
set_option maxHeartbeats 4000000 in
set_option maxRecDepth 100000 in
theorem L_X9_liveDegree_4 (p1 : Int32) (h : HD) (hC : Cx p l e R s m args meth c D loc cy A cX9_liveDegree 4 (some .int) RX9 1 38 0 0)  : ∀ (n4 : Nat) (x2 : Int32) (x3 : Int32), AW p l e R s m args below meth c D loc cy A 4 (QM below D loc cy A args s) (fun (r : Option Int32) => r.map (fun r => (.inr (some (.int r)), h))) (0, 0) 4 [(0, .ref (loc (7, 0, 0))), (1, .int p1), (2, .int x2), (3, .int x3)] [] h (jX9_liveDegree_L4 p1 h n4 x2 x3) := by
  intro n4
  induction n4 with
  | zero => intro x2 x3; exact aw_none rfl
  | succ n4 ih4 =>
    intro x2 x3
    rw [jX9_liveDegree_L4]
    refine aw_iload_n hC dX9_liveDegree_4 rfl ?_
    refine aw_aload_n hC dX9_liveDegree_5 rfl ?_
    refine aw_gfI hC dX9_liveDegree_6 fg_RX9_363 rfl rm_7_0_0 ?_
    refine aw_icmp_ge hC dX9_liveDegree_9 (tgt := 47) (by decide) ?_ ?_
    · refine aw_iload_n hC dX9_liveDegree_47 rfl ?_
      exact aw_iret hC dX9_liveDegree_48 rfl rfl
    · refine aw_iload_n hC dX9_liveDegree_12 rfl ?_
      refine aw_aload_n hC dX9_liveDegree_13 rfl ?_
      refine aw_gfR hC dX9_liveDegree_14 fg_RX9_88 rfl rfl rm_7_0_0 ?_
      refine aw_iload_n hC dX9_liveDegree_17 rfl ?_
      refine aw_guard rfl (fun g1 => ?_)
      refine aw_zald hC dX9_liveDegree_18 rm_7_0_24 rfl rfl g1 rfl ?_
      refine aw_if_ne hC dX9_liveDegree_19 (tgt := 35) (by decide) ?_ ?_
      · refine aw_iconst hC dX9_liveDegree_35 (v := 0) (by decide) ?_
        refine aw_cSi hC dX9_liveDegree_36 cv_RX9_115 (A_X9_truth _ (hC.2.2.2.2.2.2.2.2.2.2.2.2.1) _ _ _ false h) rfl rfl rfl rfl rfl ⟨rfl, rfl⟩ ?_
        refine aw_iadd hC dX9_liveDegree_39 ?_
        refine aw_istore_n hC dX9_liveDegree_40 (by decide) ?_
        refine aw_iinc hC dX9_liveDegree_41 rfl (v := x3 + 1) (by first | rfl | decide) (by decide) ?_
        refine aw_goto hC dX9_liveDegree_44 (tgt := 4) (by decide) ?_
        refine aw_sub [0, 1, 2, 3] ?_
        exact ih4 (x2 + (jX9_truth false h)) (x3 + 1)
      · refine aw_aload_n hC dX9_liveDegree_22 rfl ?_
        refine aw_iload_n hC dX9_liveDegree_23 rfl ?_
        refine aw_iload_n hC dX9_liveDegree_24 rfl ?_
        refine aw_bind rfl (fun q2 hq2 => ?_)
        refine aw_cVb hC dX9_liveDegree_25 cv_RX9_385 rfl rm_7_0_0 (am_some (inj := (fun r => (.inr (some (.int (b2i r))), h))) hq2 (A_X9_isAt _ (hC.2.2.2.2.2.2.2.2.2.2.2.2.1) _ _ _ x3 p1 h)) rfl rfl rfl rfl rfl ⟨rfl, rfl⟩ ?_
        refine aw_if_eq_b hC dX9_liveDegree_28 (tgt := 35) (by decide) ?_ ?_
        · refine aw_iconst hC dX9_liveDegree_35 (v := 0) (by decide) ?_
          refine aw_cSi hC dX9_liveDegree_36 cv_RX9_115 (A_X9_truth _ (hC.2.2.2.2.2.2.2.2.2.2.2.2.1) _ _ _ false h) rfl rfl rfl rfl rfl ⟨rfl, rfl⟩ ?_
          refine aw_iadd hC dX9_liveDegree_39 ?_
          refine aw_istore_n hC dX9_liveDegree_40 (by decide) ?_
          refine aw_iinc hC dX9_liveDegree_41 rfl (v := x3 + 1) (by first | rfl | decide) (by decide) ?_
          refine aw_goto hC dX9_liveDegree_44 (tgt := 4) (by decide) ?_
          refine aw_sub [0, 1, 2, 3] ?_
          exact ih4 (x2 + (jX9_truth false h)) (x3 + 1)
        · refine aw_iconst hC dX9_liveDegree_31 (v := 1) (by decide) ?_
          refine aw_goto hC dX9_liveDegree_32 (tgt := 36) (by decide) ?_
          refine aw_cSi hC dX9_liveDegree_36 cv_RX9_115 (A_X9_truth _ (hC.2.2.2.2.2.2.2.2.2.2.2.2.1) _ _ _ true h) rfl rfl rfl rfl rfl ⟨rfl, rfl⟩ ?_
          refine aw_iadd hC dX9_liveDegree_39 ?_
          refine aw_istore_n hC dX9_liveDegree_40 (by decide) ?_
          refine aw_iinc hC dX9_liveDegree_41 rfl (v := x3 + 1) (by first | rfl | decide) (by decide) ?_
          refine aw_goto hC dX9_liveDegree_44 (tgt := 4) (by decide) ?_
          refine aw_sub [0, 1, 2, 3] ?_
          exact ih4 (x2 + (jX9_truth true h)) (x3 + 1)
set_option maxHeartbeats 4000000 in
set_option maxRecDepth 100000 in
theorem A_X9_liveDegree (l : Launch) (hl0 : l.stackTraces = false) (D : va_G) (loc : Rf → Nat) (cy : Nat → ClassId) (p1 : Int32) (h : HD) : AM l D loc cy yX9_liveDegree cX9_liveDegree 4 (some .int) 1 38 [.ref (loc (7, 0, 0)), .int p1] h ((jX9_liveDegree p1 h).map (fun r => (.inr (some (.int r)), h))) := by
  refine am_start (y := yX9_liveDegree) (av := [.ref (loc (7, 0, 0)), .int p1]) (nL := 4) (h := h) (RF := fun (r : Option Int32) => r.map (fun r => (.inr (some (.int r)), h))) (x := jX9_liveDegree p1 h) hl0 (by decide +kernel) rfl ?_
  intro p e R s m below meth c A hC
  unfold jX9_liveDegree
  refine aw_iconst hC dX9_liveDegree_0 (v := 0) (by decide) ?_
  refine aw_istore_n hC dX9_liveDegree_1 (by decide) ?_
  refine aw_iconst hC dX9_liveDegree_2 (v := 0) (by decide) ?_
  refine aw_istore_n hC dX9_liveDegree_3 (by decide) ?_
  refine aw_sub [0, 1, 2, 3] ?_
  exact L_X9_liveDegree_4 p1 h  hC FU (0 : Int32) (0 : Int32)
set_option maxHeartbeats 4000000 in
set_option maxRecDepth 100000 in
theorem L_X9_liveEdge_2 (p1 : Int32) (h : HD) (hC : Cx p l e R s m args meth c D loc cy A cX9_liveEdge 3 (some .int) RX9 1 38 0 0)  : ∀ (n2 : Nat) (x2 : Int32), AW p l e R s m args below meth c D loc cy A 3 (QM below D loc cy A args s) (fun (r : Option Int32) => r.map (fun r => (.inr (some (.int r)), h))) (0, 0) 2 [(0, .ref (loc (7, 0, 0))), (1, .int p1), (2, .int x2)] [] h (jX9_liveEdge_L2 p1 h n2 x2) := by
  intro n2
  induction n2 with
  | zero => intro x2; exact aw_none rfl
  | succ n2 ih2 =>
    intro x2
    rw [jX9_liveEdge_L2]
    refine aw_iload_n hC dX9_liveEdge_2 rfl ?_
    refine aw_aload_n hC dX9_liveEdge_3 rfl ?_
    refine aw_gfI hC dX9_liveEdge_4 fg_RX9_363 rfl rm_7_0_0 ?_
    refine aw_icmp_ge hC dX9_liveEdge_7 (tgt := 36) (by decide) ?_ ?_
    · refine aw_iconst hC dX9_liveEdge_36 (v := -1) (by decide) ?_
      exact aw_iret hC dX9_liveEdge_37 rfl rfl
    · refine aw_aload_n hC dX9_liveEdge_10 rfl ?_
      refine aw_gfR hC dX9_liveEdge_11 fg_RX9_88 rfl rfl rm_7_0_0 ?_
      refine aw_iload_n hC dX9_liveEdge_14 rfl ?_
      refine aw_guard rfl (fun g1 => ?_)
      refine aw_zald hC dX9_liveEdge_15 rm_7_0_24 rfl rfl g1 rfl ?_
      refine aw_if_ne hC dX9_liveEdge_16 (tgt := 30) (by decide) ?_ ?_
      · refine aw_iinc hC dX9_liveEdge_30 rfl (v := x2 + 1) (by first | rfl | decide) (by decide) ?_
        refine aw_goto hC dX9_liveEdge_33 (tgt := 2) (by decide) ?_
        refine aw_sub [0, 1, 2] ?_
        exact ih2 (x2 + 1)
      · refine aw_aload_n hC dX9_liveEdge_19 rfl ?_
        refine aw_iload_n hC dX9_liveEdge_20 rfl ?_
        refine aw_iload_n hC dX9_liveEdge_21 rfl ?_
        refine aw_bind rfl (fun q2 hq2 => ?_)
        refine aw_cVb hC dX9_liveEdge_22 cv_RX9_385 rfl rm_7_0_0 (am_some (inj := (fun r => (.inr (some (.int (b2i r))), h))) hq2 (A_X9_isAt _ (hC.2.2.2.2.2.2.2.2.2.2.2.2.1) _ _ _ x2 p1 h)) rfl rfl rfl rfl rfl ⟨rfl, rfl⟩ ?_
        refine aw_if_eq_b hC dX9_liveEdge_25 (tgt := 30) (by decide) ?_ ?_
        · refine aw_iinc hC dX9_liveEdge_30 rfl (v := x2 + 1) (by first | rfl | decide) (by decide) ?_
          refine aw_goto hC dX9_liveEdge_33 (tgt := 2) (by decide) ?_
          refine aw_sub [0, 1, 2] ?_
          exact ih2 (x2 + 1)
        · refine aw_iload_n hC dX9_liveEdge_28 rfl ?_
          exact aw_iret hC dX9_liveEdge_29 rfl rfl
set_option maxHeartbeats 4000000 in
set_option maxRecDepth 100000 in
theorem A_X9_liveEdge (l : Launch) (hl0 : l.stackTraces = false) (D : va_G) (loc : Rf → Nat) (cy : Nat → ClassId) (p1 : Int32) (h : HD) : AM l D loc cy yX9_liveEdge cX9_liveEdge 3 (some .int) 1 38 [.ref (loc (7, 0, 0)), .int p1] h ((jX9_liveEdge p1 h).map (fun r => (.inr (some (.int r)), h))) := by
  refine am_start (y := yX9_liveEdge) (av := [.ref (loc (7, 0, 0)), .int p1]) (nL := 3) (h := h) (RF := fun (r : Option Int32) => r.map (fun r => (.inr (some (.int r)), h))) (x := jX9_liveEdge p1 h) hl0 (by decide +kernel) rfl ?_
  intro p e R s m below meth c A hC
  unfold jX9_liveEdge
  refine aw_iconst hC dX9_liveEdge_0 (v := 0) (by decide) ?_
  refine aw_istore_n hC dX9_liveEdge_1 (by decide) ?_
  refine aw_sub [0, 1, 2] ?_
  exact L_X9_liveEdge_2 p1 h  hC FU (0 : Int32)
set_option maxHeartbeats 4000000 in
set_option maxRecDepth 100000 in
theorem L_X9_leastWithOne_2 (h : HD) (hC : Cx p l e R s m args meth c D loc cy A cX9_leastWithOne 2 (some .int) RX9 2 61 0 0)  : ∀ (n2 : Nat) (x1 : Int32), AW p l e R s m args below meth c D loc cy A 2 (QM below D loc cy A args s) (fun (r : Option Int32) => r.map (fun r => (.inr (some (.int r)), h))) (0, 0) 2 [(0, .ref (loc (7, 0, 0))), (1, .int x1)] [] h (jX9_leastWithOne_L2 h n2 x1) := by
  intro n2
  induction n2 with
  | zero => intro x1; exact aw_none rfl
  | succ n2 ih2 =>
    intro x1
    rw [jX9_leastWithOne_L2]
    refine aw_iload_n hC dX9_leastWithOne_2 rfl ?_
    refine aw_aload_n hC dX9_leastWithOne_3 rfl ?_
    refine aw_bind rfl (fun q1 hq1 => ?_)
    refine aw_cVi hC dX9_leastWithOne_4 cv_RX9_214 rfl rm_7_0_0 (am_some (inj := (fun r => (.inr (some (.int r)), h))) hq1 (A_X9_spots _ (hC.2.2.2.2.2.2.2.2.2.2.2.2.1) _ _ _ h)) rfl rfl rfl rfl rfl ⟨rfl, rfl⟩ ?_
    refine aw_icmp_ge hC dX9_leastWithOne_7 (tgt := 27) (by decide) ?_ ?_
    · refine aw_iconst hC dX9_leastWithOne_27 (v := -1) (by decide) ?_
      exact aw_iret hC dX9_leastWithOne_28 rfl rfl
    · refine aw_aload_n hC dX9_leastWithOne_10 rfl ?_
      refine aw_iload_n hC dX9_leastWithOne_11 rfl ?_
      refine aw_bind rfl (fun q2 hq2 => ?_)
      refine aw_cVi hC dX9_leastWithOne_12 cv_RX9_394 rfl rm_7_0_0 (am_some (inj := (fun r => (.inr (some (.int r)), h))) hq2 (A_X9_liveDegree _ (hC.2.2.2.2.2.2.2.2.2.2.2.2.1) _ _ _ x1 h)) rfl rfl rfl rfl rfl ⟨rfl, rfl⟩ ?_
      refine aw_iconst hC dX9_leastWithOne_15 (v := 1) (by decide) ?_
      refine aw_icmp_ne hC dX9_leastWithOne_16 (tgt := 21) (by decide) ?_ ?_
      · refine aw_iinc hC dX9_leastWithOne_21 rfl (v := x1 + 1) (by first | rfl | decide) (by decide) ?_
        refine aw_goto hC dX9_leastWithOne_24 (tgt := 2) (by decide) ?_
        refine aw_sub [0, 1] ?_
        exact ih2 (x1 + 1)
      · refine aw_iload_n hC dX9_leastWithOne_19 rfl ?_
        exact aw_iret hC dX9_leastWithOne_20 rfl rfl
set_option maxHeartbeats 4000000 in
set_option maxRecDepth 100000 in
theorem A_X9_leastWithOne (l : Launch) (hl0 : l.stackTraces = false) (D : va_G) (loc : Rf → Nat) (cy : Nat → ClassId)  (h : HD) : AM l D loc cy yX9_leastWithOne cX9_leastWithOne 2 (some .int) 2 61 [.ref (loc (7, 0, 0))] h ((jX9_leastWithOne h).map (fun r => (.inr (some (.int r)), h))) := by
  refine am_start (y := yX9_leastWithOne) (av := [.ref (loc (7, 0, 0))]) (nL := 2) (h := h) (RF := fun (r : Option Int32) => r.map (fun r => (.inr (some (.int r)), h))) (x := jX9_leastWithOne h) hl0 (by decide +kernel) rfl ?_
  intro p e R s m below meth c A hC
  unfold jX9_leastWithOne
  refine aw_iconst hC dX9_leastWithOne_0 (v := 0) (by decide) ?_
  refine aw_istore_n hC dX9_leastWithOne_1 (by decide) ?_
  refine aw_sub [0, 1] ?_
  exact L_X9_leastWithOne_2 h  hC FU (0 : Int32)
set_option maxHeartbeats 4000000 in
set_option maxRecDepth 100000 in
theorem L_X9_codeGap_11 (k32 : HD → Option (Int32 × HD)) (hC : Cx p l e R s m args meth c D loc cy A cX9_codeGap 5 (some .int) RX9 4 101 0 0) (hk32 : ∀  (h2 : HD), AW p l e R s m args below meth c D loc cy A 5 (QM below D loc cy A args s) (fun (r : Option (Int32 × HD)) => r.map (fun r => (.inr (some (.int r.1)), r.2))) (0, 0) 32 [(0, .ref (loc (7, 0, 0)))] [] h2 (k32  h2)) : ∀ (n11 : Nat) (x1 : Int32) (h : HD), AW p l e R s m args below meth c D loc cy A 5 (QM below D loc cy A args s) (fun (r : Option (Int32 × HD)) => r.map (fun r => (.inr (some (.int r.1)), r.2))) (0, 0) 11 [(0, .ref (loc (7, 0, 0))), (1, .int x1)] [] h (jX9_codeGap_L11 k32 n11 x1 h) := by
  intro n11
  induction n11 with
  | zero => intro x1 h; exact aw_none rfl
  | succ n11 ih11 =>
    intro x1 h
    rw [jX9_codeGap_L11]
    refine aw_iload_n hC dX9_codeGap_11 rfl ?_
    refine aw_aload_n hC dX9_codeGap_12 rfl ?_
    refine aw_gfI hC dX9_codeGap_13 fg_RX9_363 rfl rm_7_0_0 ?_
    refine aw_icmp_ge hC dX9_codeGap_16 (tgt := 32) (by decide) ?_ ?_
    · refine aw_sub [0] ?_
      exact hk32 h
    · refine aw_aload_n hC dX9_codeGap_19 rfl ?_
      refine aw_gfR hC dX9_codeGap_20 fg_RX9_88 rfl rfl rm_7_0_0 ?_
      refine aw_iload_n hC dX9_codeGap_23 rfl ?_
      refine aw_iconst hC dX9_codeGap_24 (v := 0) (by decide) ?_
      refine aw_guard rfl (fun g4 => ?_)
      refine aw_zast hC dX9_codeGap_25 rm_7_0_24 rfl rfl g4 rfl (fun h3 => ?_)
      refine aw_iinc hC dX9_codeGap_26 rfl (v := x1 + 1) (by first | rfl | decide) (by decide) ?_
      refine aw_goto hC dX9_codeGap_29 (tgt := 11) (by decide) ?_
      refine aw_sub [0, 1] ?_
      exact ih11 (x1 + 1) h3
set_option maxHeartbeats 4000000 in
set_option maxRecDepth 100000 in
theorem L_X9_codeGap_36  (hC : Cx p l e R s m args meth c D loc cy A cX9_codeGap 5 (some .int) RX9 4 101 0 0)  : ∀ (n36 : Nat) (x1 : Int32) (x2 : Int32) (h : HD), AW p l e R s m args below meth c D loc cy A 5 (QM below D loc cy A args s) (fun (r : Option (Int32 × HD)) => r.map (fun r => (.inr (some (.int r.1)), r.2))) (0, 0) 36 [(0, .ref (loc (7, 0, 0))), (1, .int x1), (2, .int x2)] [] h (jX9_codeGap_L36 n36 x1 x2 h) := by
  intro n36
  induction n36 with
  | zero => intro x1 x2 h; exact aw_none rfl
  | succ n36 ih36 =>
    intro x1 x2 h
    rw [jX9_codeGap_L36]
    refine aw_iload_n hC dX9_codeGap_36 rfl ?_
    refine aw_aload_n hC dX9_codeGap_37 rfl ?_
    refine aw_bind rfl (fun q6 hq6 => ?_)
    refine aw_cVi hC dX9_codeGap_38 cv_RX9_369 rfl rm_7_0_0 (am_some (inj := (fun r => (.inr (some (.int r)), h))) hq6 (A_X9_codes _ (hC.2.2.2.2.2.2.2.2.2.2.2.2.1) _ _ _ h)) rfl rfl rfl rfl rfl ⟨rfl, rfl⟩ ?_
    refine aw_icmp_ge hC dX9_codeGap_41 (tgt := 118) (by decide) ?_ ?_
    · refine aw_iload_n hC dX9_codeGap_118 rfl ?_
      exact aw_iret hC dX9_codeGap_119 rfl rfl
    · refine aw_aload_n hC dX9_codeGap_44 rfl ?_
      refine aw_bind rfl (fun q7 hq7 => ?_)
      refine aw_cVi hC dX9_codeGap_45 cv_RX9_397 rfl rm_7_0_0 (am_some (inj := (fun r => (.inr (some (.int r)), h))) hq7 (A_X9_leastWithOne _ (hC.2.2.2.2.2.2.2.2.2.2.2.2.1) _ _ _ h)) rfl rfl rfl rfl rfl ⟨rfl, rfl⟩ ?_
      refine aw_istore_n hC dX9_codeGap_48 (by decide) ?_
      refine aw_aload_n hC dX9_codeGap_49 rfl ?_
      refine aw_iload_n hC dX9_codeGap_50 rfl ?_
      refine aw_bind rfl (fun q8 hq8 => ?_)
      refine aw_cVi hC dX9_codeGap_51 cv_RX9_400 rfl rm_7_0_0 (am_some (inj := (fun r => (.inr (some (.int r)), h))) hq8 (A_X9_liveEdge _ (hC.2.2.2.2.2.2.2.2.2.2.2.2.1) _ _ _ q7 h)) rfl rfl rfl rfl rfl ⟨rfl, rfl⟩ ?_
      refine aw_istore hC dX9_codeGap_54 (by decide) ?_
      refine aw_aload_n hC dX9_codeGap_56 rfl ?_
      refine aw_gfR hC dX9_codeGap_57 fg_RX9_81 rfl rfl rm_7_0_0 ?_
      refine aw_iload_n hC dX9_codeGap_60 rfl ?_
      refine aw_aload_n hC dX9_codeGap_61 rfl ?_
      refine aw_gfR hC dX9_codeGap_62 fg_RX9_72 rfl rfl rm_7_0_0 ?_
      refine aw_iload hC dX9_codeGap_65 rfl ?_
      refine aw_guard rfl (fun g9 => ?_)
      refine aw_iald hC dX9_codeGap_67 rm_7_0_19 rfl rfl g9 rfl ?_
      refine aw_aload_n hC dX9_codeGap_68 rfl ?_
      refine aw_gfR hC dX9_codeGap_69 fg_RX9_75 rfl rfl rm_7_0_0 ?_
      refine aw_iload hC dX9_codeGap_72 rfl ?_
      refine aw_guard rfl (fun g10 => ?_)
      refine aw_iald hC dX9_codeGap_74 rm_7_0_20 rfl rfl g10 rfl ?_
      refine aw_iadd hC dX9_codeGap_75 ?_
      refine aw_iload_n hC dX9_codeGap_76 rfl ?_
      refine aw_isub hC dX9_codeGap_77 ?_
      refine aw_guard rfl (fun g12 => ?_)
      refine aw_iast hC dX9_codeGap_78 rm_7_0_22 rfl rfl g12 rfl (fun h11 => ?_)
      refine aw_aload_n hC dX9_codeGap_79 rfl ?_
      refine aw_gfR hC dX9_codeGap_80 fg_RX9_88 rfl rfl rm_7_0_0 ?_
      refine aw_iload hC dX9_codeGap_83 rfl ?_
      refine aw_iconst hC dX9_codeGap_85 (v := 1) (by decide) ?_
      refine aw_guard rfl (fun g14 => ?_)
      refine aw_zast hC dX9_codeGap_86 rm_7_0_24 rfl rfl g14 rfl (fun h13 => ?_)
      refine aw_iload_n hC dX9_codeGap_87 rfl ?_
      refine aw_aload_n hC dX9_codeGap_88 rfl ?_
      refine aw_gfR hC dX9_codeGap_89 fg_RX9_81 rfl rfl rm_7_0_0 ?_
      refine aw_iload_n hC dX9_codeGap_92 rfl ?_
      refine aw_guard rfl (fun g15 => ?_)
      refine aw_iald hC dX9_codeGap_93 rm_7_0_22 rfl rfl g15 rfl ?_
      refine aw_aload_n hC dX9_codeGap_94 rfl ?_
      refine aw_iload_n hC dX9_codeGap_95 rfl ?_
      refine aw_bind rfl (fun q16 hq16 => ?_)
      refine aw_cVi hC dX9_codeGap_96 cv_RX9_372 rfl rm_7_0_0 (am_some (inj := (fun r => (.inr (some (.int r)), h13))) hq16 (A_X9_codeAt _ (hC.2.2.2.2.2.2.2.2.2.2.2.2.1) _ _ _ x2 h13)) rfl rfl rfl rfl rfl ⟨rfl, rfl⟩ ?_
      refine aw_icmp_eq hC dX9_codeGap_99 (tgt := 106) (by decide) ?_ ?_
      · refine aw_iconst hC dX9_codeGap_106 (v := 0) (by decide) ?_
        refine aw_cSi hC dX9_codeGap_107 cv_RX9_115 (A_X9_truth _ (hC.2.2.2.2.2.2.2.2.2.2.2.2.1) _ _ _ false h13) rfl rfl rfl rfl rfl ⟨rfl, rfl⟩ ?_
        refine aw_iadd hC dX9_codeGap_110 ?_
        refine aw_istore_n hC dX9_codeGap_111 (by decide) ?_
        refine aw_iinc hC dX9_codeGap_112 rfl (v := x2 + 1) (by first | rfl | decide) (by decide) ?_
        refine aw_goto hC dX9_codeGap_115 (tgt := 36) (by decide) ?_
        refine aw_sub [0, 1, 2] ?_
        exact ih36 (x1 + (jX9_truth false h13)) (x2 + 1) h13
      · refine aw_iconst hC dX9_codeGap_102 (v := 1) (by decide) ?_
        refine aw_goto hC dX9_codeGap_103 (tgt := 107) (by decide) ?_
        refine aw_cSi hC dX9_codeGap_107 cv_RX9_115 (A_X9_truth _ (hC.2.2.2.2.2.2.2.2.2.2.2.2.1) _ _ _ true h13) rfl rfl rfl rfl rfl ⟨rfl, rfl⟩ ?_
        refine aw_iadd hC dX9_codeGap_110 ?_
        refine aw_istore_n hC dX9_codeGap_111 (by decide) ?_
        refine aw_iinc hC dX9_codeGap_112 rfl (v := x2 + 1) (by first | rfl | decide) (by decide) ?_
        refine aw_goto hC dX9_codeGap_115 (tgt := 36) (by decide) ?_
        refine aw_sub [0, 1, 2] ?_
        exact ih36 (x1 + (jX9_truth true h13)) (x2 + 1) h13
set_option maxHeartbeats 4000000 in
set_option maxRecDepth 100000 in
theorem A_X9_codeGap (l : Launch) (hl0 : l.stackTraces = false) (D : va_G) (loc : Rf → Nat) (cy : Nat → ClassId)  (h : HD) : AM l D loc cy yX9_codeGap cX9_codeGap 5 (some .int) 4 101 [.ref (loc (7, 0, 0))] h ((jX9_codeGap h).map (fun r => (.inr (some (.int r.1)), r.2))) := by
  refine am_start (y := yX9_codeGap) (av := [.ref (loc (7, 0, 0))]) (nL := 5) (h := h) (RF := fun (r : Option (Int32 × HD)) => r.map (fun r => (.inr (some (.int r.1)), r.2))) (x := jX9_codeGap h) hl0 (by decide +kernel) rfl ?_
  intro p e R s m below meth c A hC
  unfold jX9_codeGap
  refine aw_aload_n hC dX9_codeGap_0 rfl ?_
  refine aw_iconst hC dX9_codeGap_1 (v := 0) (by decide) ?_
  refine aw_pfI hC dX9_codeGap_2 fg_RX9_112 fp_7_0 rfl rm_7_0_0 (fun h1 => ?_)
  refine aw_aload_n hC dX9_codeGap_5 rfl ?_
  refine aw_bind rfl (fun q2 hq2 => ?_)
  refine aw_cVv hC dX9_codeGap_6 cv_RX9_382 rfl rm_7_0_0 (am_some (inj := (fun r => (.inr (none), r))) hq2 (A_X9_grows _ (hC.2.2.2.2.2.2.2.2.2.2.2.2.1) _ _ _ h1)) rfl rfl rfl rfl rfl ⟨rfl, rfl⟩ ?_
  refine aw_iconst hC dX9_codeGap_9 (v := 0) (by decide) ?_
  refine aw_istore_n hC dX9_codeGap_10 (by decide) ?_
  refine aw_sub [0, 1] ?_
  refine L_X9_codeGap_11  _ hC ?_ FU (0 : Int32) q2
  · intro h5
    refine aw_iconst hC dX9_codeGap_32 (v := 0) (by decide) ?_
    refine aw_istore_n hC dX9_codeGap_33 (by decide) ?_
    refine aw_iconst hC dX9_codeGap_34 (v := 0) (by decide) ?_
    refine aw_istore_n hC dX9_codeGap_35 (by decide) ?_
    refine aw_sub [0, 1, 2] ?_
    exact L_X9_codeGap_36   hC FU (0 : Int32) (0 : Int32) h5
set_option maxHeartbeats 4000000 in
set_option maxRecDepth 100000 in
theorem A_X9_meanWay (l : Launch) (hl0 : l.stackTraces = false) (D : va_G) (loc : Rf → Nat) (cy : Nat → ClassId)  (h : HD) : AM l D loc cy yX9_meanWay cX9_meanWay 1 (some .double) 4 103 [.ref (loc (7, 0, 0))] h ((jX9_meanWay h).map (fun r => (.inr (some (.double r.1)), r.2))) := by
  refine am_start (y := yX9_meanWay) (av := [.ref (loc (7, 0, 0))]) (nL := 1) (h := h) (RF := fun (r : Option (UInt64 × HD)) => r.map (fun r => (.inr (some (.double r.1)), r.2))) (x := jX9_meanWay h) hl0 (by decide +kernel) rfl ?_
  intro p e R s m below meth c A hC
  unfold jX9_meanWay
  refine aw_aload_n hC dX9_meanWay_0 rfl ?_
  refine aw_iconst hC dX9_meanWay_1 (v := 0) (by decide) ?_
  refine aw_pfI hC dX9_meanWay_2 fg_RX9_112 fp_7_0 rfl rm_7_0_0 (fun h1 => ?_)
  refine aw_aload_n hC dX9_meanWay_5 rfl ?_
  refine aw_aload_n hC dX9_meanWay_6 rfl ?_
  refine aw_gfR hC dX9_meanWay_7 fg_RX9_20 rfl rfl rm_7_0_0 ?_
  refine aw_iconst hC dX9_meanWay_10 (v := 0) (by decide) ?_
  refine aw_iald hC dX9_meanWay_11 rm_7_0_2 rfl rfl (by decide) (k := 0) (by decide) ?_
  refine aw_bind rfl (fun q2 hq2 => ?_)
  refine aw_cVv hC dX9_meanWay_12 cv_RX9_230 rfl rm_7_0_0 (am_some (inj := (fun r => (.inr (none), r))) hq2 (A_X9_parks _ (hC.2.2.2.2.2.2.2.2.2.2.2.2.1) _ _ _ (gI h1 (7, 0, 2) 0) h1)) rfl rfl rfl rfl rfl ⟨rfl, rfl⟩ ?_
  refine aw_aload_n hC dX9_meanWay_15 rfl ?_
  refine aw_gfR hC dX9_meanWay_16 fg_RX9_20 rfl rfl rm_7_0_0 ?_
  refine aw_iconst hC dX9_meanWay_19 (v := 0) (by decide) ?_
  refine aw_iald hC dX9_meanWay_20 rm_7_0_2 rfl rfl (by decide) (k := 0) (by decide) ?_
  refine aw_if_ne hC dX9_meanWay_21 (tgt := 28) (by decide) ?_ ?_
  · refine aw_aload_n hC dX9_meanWay_28 rfl ?_
    refine aw_bind rfl (fun q3 hq3 => ?_)
    refine aw_cVi hC dX9_meanWay_29 cv_RX9_303 rfl rm_7_0_0 (am_some (inj := (fun r => (.inr (some (.int r)), q2))) hq3 (A_X9_way _ (hC.2.2.2.2.2.2.2.2.2.2.2.2.1) _ _ _ q2)) rfl rfl rfl rfl rfl ⟨rfl, rfl⟩ ?_
    refine aw_i2d hC dX9_meanWay_32 ?_
    refine aw_aload_n hC dX9_meanWay_33 rfl ?_
    refine aw_gfR hC dX9_meanWay_34 fg_RX9_20 rfl rfl rm_7_0_0 ?_
    refine aw_iconst hC dX9_meanWay_37 (v := 0) (by decide) ?_
    refine aw_iald hC dX9_meanWay_38 rm_7_0_2 rfl rfl (by decide) (k := 0) (by decide) ?_
    refine aw_i2d hC dX9_meanWay_39 ?_
    refine aw_guard rfl (fun g4 => ?_)
    refine aw_ddiv hC dX9_meanWay_40 (nn64_vf g4) ?_
    exact aw_dret hC dX9_meanWay_41 rfl rfl
  · refine aw_dconst0 hC dX9_meanWay_24 ?_
    refine aw_goto hC dX9_meanWay_25 (tgt := 41) (by decide) ?_
    exact aw_dret hC dX9_meanWay_41 rfl rfl
set_option maxHeartbeats 4000000 in
set_option maxRecDepth 100000 in
theorem A_X9_luckyShare (l : Launch) (hl0 : l.stackTraces = false) (D : va_G) (loc : Rf → Nat) (cy : Nat → ClassId)  (h : HD) : AM l D loc cy yX9_luckyShare cX9_luckyShare 1 (some .float) 4 103 [.ref (loc (7, 0, 0))] h ((jX9_luckyShare h).map (fun r => (.inr (some (.float r.1)), r.2))) := by
  refine am_start (y := yX9_luckyShare) (av := [.ref (loc (7, 0, 0))]) (nL := 1) (h := h) (RF := fun (r : Option (UInt32 × HD)) => r.map (fun r => (.inr (some (.float r.1)), r.2))) (x := jX9_luckyShare h) hl0 (by decide +kernel) rfl ?_
  intro p e R s m below meth c A hC
  unfold jX9_luckyShare
  refine aw_aload_n hC dX9_luckyShare_0 rfl ?_
  refine aw_iconst hC dX9_luckyShare_1 (v := 0) (by decide) ?_
  refine aw_pfI hC dX9_luckyShare_2 fg_RX9_112 fp_7_0 rfl rm_7_0_0 (fun h1 => ?_)
  refine aw_aload_n hC dX9_luckyShare_5 rfl ?_
  refine aw_aload_n hC dX9_luckyShare_6 rfl ?_
  refine aw_gfR hC dX9_luckyShare_7 fg_RX9_20 rfl rfl rm_7_0_0 ?_
  refine aw_iconst hC dX9_luckyShare_10 (v := 0) (by decide) ?_
  refine aw_iald hC dX9_luckyShare_11 rm_7_0_2 rfl rfl (by decide) (k := 0) (by decide) ?_
  refine aw_bind rfl (fun q2 hq2 => ?_)
  refine aw_cVv hC dX9_luckyShare_12 cv_RX9_230 rfl rm_7_0_0 (am_some (inj := (fun r => (.inr (none), r))) hq2 (A_X9_parks _ (hC.2.2.2.2.2.2.2.2.2.2.2.2.1) _ _ _ (gI h1 (7, 0, 2) 0) h1)) rfl rfl rfl rfl rfl ⟨rfl, rfl⟩ ?_
  refine aw_aload_n hC dX9_luckyShare_15 rfl ?_
  refine aw_gfR hC dX9_luckyShare_16 fg_RX9_20 rfl rfl rm_7_0_0 ?_
  refine aw_iconst hC dX9_luckyShare_19 (v := 0) (by decide) ?_
  refine aw_iald hC dX9_luckyShare_20 rm_7_0_2 rfl rfl (by decide) (k := 0) (by decide) ?_
  refine aw_if_ne hC dX9_luckyShare_21 (tgt := 28) (by decide) ?_ ?_
  · refine aw_aload_n hC dX9_luckyShare_28 rfl ?_
    refine aw_bind rfl (fun q3 hq3 => ?_)
    refine aw_cVi hC dX9_luckyShare_29 cv_RX9_297 rfl rm_7_0_0 (am_some (inj := (fun r => (.inr (some (.int r)), q2))) hq3 (A_X9_luckyMany _ (hC.2.2.2.2.2.2.2.2.2.2.2.2.1) _ _ _ q2)) rfl rfl rfl rfl rfl ⟨rfl, rfl⟩ ?_
    refine aw_i2f hC dX9_luckyShare_32 ?_
    refine aw_aload_n hC dX9_luckyShare_33 rfl ?_
    refine aw_gfR hC dX9_luckyShare_34 fg_RX9_20 rfl rfl rm_7_0_0 ?_
    refine aw_iconst hC dX9_luckyShare_37 (v := 0) (by decide) ?_
    refine aw_iald hC dX9_luckyShare_38 rm_7_0_2 rfl rfl (by decide) (k := 0) (by decide) ?_
    refine aw_i2f hC dX9_luckyShare_39 ?_
    refine aw_guard rfl (fun g4 => ?_)
    refine aw_fdiv hC dX9_luckyShare_40 (nn32_vf g4) ?_
    exact aw_fret hC dX9_luckyShare_41 rfl rfl
  · refine aw_fconst0 hC dX9_luckyShare_24 ?_
    refine aw_goto hC dX9_luckyShare_25 (tgt := 41) (by decide) ?_
    exact aw_fret hC dX9_luckyShare_41 rfl rfl
set_option maxHeartbeats 4000000 in
set_option maxRecDepth 100000 in
theorem A_X9_spotIf (l : Launch) (hl0 : l.stackTraces = false) (D : va_G) (loc : Rf → Nat) (cy : Nat → ClassId) (p1 : Int32) (p2 : Int32) (h : HD) : AM l D loc cy yX9_spotIf cX9_spotIf 3 (some .int) 4 103 [.ref (loc (7, 0, 0)), .int p1, .int p2] h ((jX9_spotIf p1 p2 h).map (fun r => (.inr (some (.int r.1)), r.2))) := by
  refine am_start (y := yX9_spotIf) (av := [.ref (loc (7, 0, 0)), .int p1, .int p2]) (nL := 3) (h := h) (RF := fun (r : Option (Int32 × HD)) => r.map (fun r => (.inr (some (.int r.1)), r.2))) (x := jX9_spotIf p1 p2 h) hl0 (by decide +kernel) rfl ?_
  intro p e R s m below meth c A hC
  unfold jX9_spotIf
  refine aw_aload_n hC dX9_spotIf_0 rfl ?_
  refine aw_aload_n hC dX9_spotIf_1 rfl ?_
  refine aw_iload_n hC dX9_spotIf_2 rfl ?_
  refine aw_bind rfl (fun q1 hq1 => ?_)
  refine aw_cVb hC dX9_spotIf_3 cv_RX9_325 rfl rm_7_0_0 (am_some (inj := (fun r => (.inr (some (.int (b2i r))), h))) hq1 (A_X9_isCar _ (hC.2.2.2.2.2.2.2.2.2.2.2.2.1) _ _ _ p1 h)) rfl rfl rfl rfl rfl ⟨rfl, rfl⟩ ?_
  refine aw_aload_n hC dX9_spotIf_6 rfl ?_
  refine aw_iload_n hC dX9_spotIf_7 rfl ?_
  refine aw_bind rfl (fun q2 hq2 => ?_)
  refine aw_cVb hC dX9_spotIf_8 cv_RX9_341 rfl rm_7_0_0 (am_some (inj := (fun r => (.inr (some (.int (b2i r))), h))) hq2 (A_X9_isSpot _ (hC.2.2.2.2.2.2.2.2.2.2.2.2.1) _ _ _ p2 h)) rfl rfl rfl rfl rfl ⟨rfl, rfl⟩ ?_
  refine aw_bind rfl (fun q3 hq3 => ?_)
  refine aw_cVb hC dX9_spotIf_11 cv_RX9_334 rfl rm_7_0_0 (am_some (inj := (fun r => (.inr (some (.int (b2i r.1))), r.2))) hq3 (A_X9_goesBoth _ (hC.2.2.2.2.2.2.2.2.2.2.2.2.1) _ _ _ q1 q2 h)) rfl rfl rfl rfl rfl ⟨rfl, rfl⟩ ?_
  refine aw_if_ne_b hC dX9_spotIf_14 (tgt := 19) (by decide) ?_ ?_
  · refine aw_aload_n hC dX9_spotIf_19 rfl ?_
    refine aw_bind rfl (fun q4 hq4 => ?_)
    refine aw_cVv hC dX9_spotIf_20 cv_RX9_403 rfl rm_7_0_0 (am_some (inj := (fun r => (.inr (none), r))) hq4 (A_X9_laysAway _ (hC.2.2.2.2.2.2.2.2.2.2.2.2.1) _ _ _ q3.2)) rfl rfl rfl rfl rfl ⟨rfl, rfl⟩ ?_
    refine aw_aload_n hC dX9_spotIf_23 rfl ?_
    refine aw_gfR hC dX9_spotIf_24 fg_RX9_20 rfl rfl rm_7_0_0 ?_
    refine aw_iconst hC dX9_spotIf_27 (v := 2) (by decide) ?_
    refine aw_iload_n hC dX9_spotIf_28 rfl ?_
    refine aw_iadd hC dX9_spotIf_29 ?_
    refine aw_iload_n hC dX9_spotIf_30 rfl ?_
    refine aw_guard rfl (fun g6 => ?_)
    refine aw_iast hC dX9_spotIf_31 rm_7_0_2 rfl rfl g6 rfl (fun h5 => ?_)
    refine aw_aload_n hC dX9_spotIf_32 rfl ?_
    refine aw_aload_n hC dX9_spotIf_33 rfl ?_
    refine aw_gfR hC dX9_spotIf_34 fg_RX9_20 rfl rfl rm_7_0_0 ?_
    refine aw_iconst hC dX9_spotIf_37 (v := 0) (by decide) ?_
    refine aw_iald hC dX9_spotIf_38 rm_7_0_2 rfl rfl (by decide) (k := 0) (by decide) ?_
    refine aw_bind rfl (fun q7 hq7 => ?_)
    refine aw_cVv hC dX9_spotIf_39 cv_RX9_230 rfl rm_7_0_0 (am_some (inj := (fun r => (.inr (none), r))) hq7 (A_X9_parks _ (hC.2.2.2.2.2.2.2.2.2.2.2.2.1) _ _ _ (gI h5 (7, 0, 2) 0) h5)) rfl rfl rfl rfl rfl ⟨rfl, rfl⟩ ?_
    refine aw_aload_n hC dX9_spotIf_42 rfl ?_
    refine aw_aload_n hC dX9_spotIf_43 rfl ?_
    refine aw_gfR hC dX9_spotIf_44 fg_RX9_57 rfl rfl rm_7_0_0 ?_
    refine aw_iload_n hC dX9_spotIf_47 rfl ?_
    refine aw_guard rfl (fun g8 => ?_)
    refine aw_iald hC dX9_spotIf_48 rm_7_0_14 rfl rfl g8 rfl ?_
    refine aw_bind rfl (fun q9 hq9 => ?_)
    refine aw_cVi hC dX9_spotIf_49 cv_RX9_406 rfl rm_7_0_0 (am_some (inj := (fun r => (.inr (some (.int r.1)), r.2))) hq9 (A_X9_fromAway _ (hC.2.2.2.2.2.2.2.2.2.2.2.2.1) _ _ _ (gI q7 (7, 0, 14) p1.toNatClampNeg) q7)) rfl rfl rfl rfl rfl ⟨rfl, rfl⟩ ?_
    exact aw_iret hC dX9_spotIf_52 rfl rfl
  · refine aw_iconst hC dX9_spotIf_17 (v := 0) (by decide) ?_
    exact aw_iret hC dX9_spotIf_18 rfl rfl
set_option maxHeartbeats 4000000 in
set_option maxRecDepth 100000 in
theorem A_X9_settingIf (l : Launch) (hl0 : l.stackTraces = false) (D : va_G) (loc : Rf → Nat) (cy : Nat → ClassId) (p1 : Int32) (p2 : Int32) (p3 : Int32) (h : HD) : AM l D loc cy yX9_settingIf cX9_settingIf 4 (some .int) 6 147 [.ref (loc (7, 0, 0)), .int p1, .int p2, .int p3] h ((jX9_settingIf p1 p2 p3 h).map (fun r => (.inr (some (.int r.1)), r.2))) := by
  refine am_start (y := yX9_settingIf) (av := [.ref (loc (7, 0, 0)), .int p1, .int p2, .int p3]) (nL := 4) (h := h) (RF := fun (r : Option (Int32 × HD)) => r.map (fun r => (.inr (some (.int r.1)), r.2))) (x := jX9_settingIf p1 p2 p3 h) hl0 (by decide +kernel) rfl ?_
  intro p e R s m below meth c A hC
  unfold jX9_settingIf
  refine aw_aload_n hC dX9_settingIf_0 rfl ?_
  refine aw_aload_n hC dX9_settingIf_1 rfl ?_
  refine aw_iload_n hC dX9_settingIf_2 rfl ?_
  refine aw_bind rfl (fun q1 hq1 => ?_)
  refine aw_cVb hC dX9_settingIf_3 cv_RX9_325 rfl rm_7_0_0 (am_some (inj := (fun r => (.inr (some (.int (b2i r))), h))) hq1 (A_X9_isCar _ (hC.2.2.2.2.2.2.2.2.2.2.2.2.1) _ _ _ p1 h)) rfl rfl rfl rfl rfl ⟨rfl, rfl⟩ ?_
  refine aw_aload_n hC dX9_settingIf_6 rfl ?_
  refine aw_iload_n hC dX9_settingIf_7 rfl ?_
  refine aw_bind rfl (fun q2 hq2 => ?_)
  refine aw_cVb hC dX9_settingIf_8 cv_RX9_341 rfl rm_7_0_0 (am_some (inj := (fun r => (.inr (some (.int (b2i r))), h))) hq2 (A_X9_isSpot _ (hC.2.2.2.2.2.2.2.2.2.2.2.2.1) _ _ _ p2 h)) rfl rfl rfl rfl rfl ⟨rfl, rfl⟩ ?_
  refine aw_if_eq_b hC dX9_settingIf_11 (tgt := 25) (by decide) ?_ ?_
  · refine aw_iconst hC dX9_settingIf_25 (v := 0) (by decide) ?_
    refine aw_bind rfl (fun q3 hq3 => ?_)
    refine aw_cVb hC dX9_settingIf_26 cv_RX9_334 rfl rm_7_0_0 (am_some (inj := (fun r => (.inr (some (.int (b2i r.1))), r.2))) hq3 (A_X9_goesBoth _ (hC.2.2.2.2.2.2.2.2.2.2.2.2.1) _ _ _ q1 false h)) rfl rfl rfl rfl rfl ⟨rfl, rfl⟩ ?_
    refine aw_if_ne_b hC dX9_settingIf_29 (tgt := 34) (by decide) ?_ ?_
    · refine aw_aload_n hC dX9_settingIf_34 rfl ?_
      refine aw_bind rfl (fun q4 hq4 => ?_)
      refine aw_cVv hC dX9_settingIf_35 cv_RX9_403 rfl rm_7_0_0 (am_some (inj := (fun r => (.inr (none), r))) hq4 (A_X9_laysAway _ (hC.2.2.2.2.2.2.2.2.2.2.2.2.1) _ _ _ q3.2)) rfl rfl rfl rfl rfl ⟨rfl, rfl⟩ ?_
      refine aw_aload_n hC dX9_settingIf_38 rfl ?_
      refine aw_gfR hC dX9_settingIf_39 fg_RX9_20 rfl rfl rm_7_0_0 ?_
      refine aw_iconst hC dX9_settingIf_42 (v := 2) (by decide) ?_
      refine aw_iload_n hC dX9_settingIf_43 rfl ?_
      refine aw_iadd hC dX9_settingIf_44 ?_
      refine aw_iload_n hC dX9_settingIf_45 rfl ?_
      refine aw_guard rfl (fun g6 => ?_)
      refine aw_iast hC dX9_settingIf_46 rm_7_0_2 rfl rfl g6 rfl (fun h5 => ?_)
      refine aw_aload_n hC dX9_settingIf_47 rfl ?_
      refine aw_aload_n hC dX9_settingIf_48 rfl ?_
      refine aw_iload_n hC dX9_settingIf_49 rfl ?_
      refine aw_bind rfl (fun q7 hq7 => ?_)
      refine aw_cVi hC dX9_settingIf_50 cv_RX9_317 rfl rm_7_0_0 (am_some (inj := (fun r => (.inr (some (.int r.1)), r.2))) hq7 (A_X9_settingOf _ (hC.2.2.2.2.2.2.2.2.2.2.2.2.1) _ _ _ p3 h5)) rfl rfl rfl rfl rfl ⟨rfl, rfl⟩ ?_
      refine aw_bind rfl (fun q8 hq8 => ?_)
      refine aw_cVi hC dX9_settingIf_53 cv_RX9_406 rfl rm_7_0_0 (am_some (inj := (fun r => (.inr (some (.int r.1)), r.2))) hq8 (A_X9_fromAway _ (hC.2.2.2.2.2.2.2.2.2.2.2.2.1) _ _ _ q7.1 q7.2)) rfl rfl rfl rfl rfl ⟨rfl, rfl⟩ ?_
      exact aw_iret hC dX9_settingIf_56 rfl rfl
    · refine aw_iconst hC dX9_settingIf_32 (v := 0) (by decide) ?_
      exact aw_iret hC dX9_settingIf_33 rfl rfl
  · refine aw_iload_n hC dX9_settingIf_14 rfl ?_
    refine aw_cSb hC dX9_settingIf_15 cv_RX9_314 (A_X9_isSetting _ (hC.2.2.2.2.2.2.2.2.2.2.2.2.1) _ _ _ p3 h) rfl rfl rfl rfl rfl ⟨rfl, rfl⟩ ?_
    refine aw_if_eq_b hC dX9_settingIf_18 (tgt := 25) (by decide) ?_ ?_
    · refine aw_iconst hC dX9_settingIf_25 (v := 0) (by decide) ?_
      refine aw_bind rfl (fun q9 hq9 => ?_)
      refine aw_cVb hC dX9_settingIf_26 cv_RX9_334 rfl rm_7_0_0 (am_some (inj := (fun r => (.inr (some (.int (b2i r.1))), r.2))) hq9 (A_X9_goesBoth _ (hC.2.2.2.2.2.2.2.2.2.2.2.2.1) _ _ _ q1 false h)) rfl rfl rfl rfl rfl ⟨rfl, rfl⟩ ?_
      refine aw_if_ne_b hC dX9_settingIf_29 (tgt := 34) (by decide) ?_ ?_
      · refine aw_aload_n hC dX9_settingIf_34 rfl ?_
        refine aw_bind rfl (fun q10 hq10 => ?_)
        refine aw_cVv hC dX9_settingIf_35 cv_RX9_403 rfl rm_7_0_0 (am_some (inj := (fun r => (.inr (none), r))) hq10 (A_X9_laysAway _ (hC.2.2.2.2.2.2.2.2.2.2.2.2.1) _ _ _ q9.2)) rfl rfl rfl rfl rfl ⟨rfl, rfl⟩ ?_
        refine aw_aload_n hC dX9_settingIf_38 rfl ?_
        refine aw_gfR hC dX9_settingIf_39 fg_RX9_20 rfl rfl rm_7_0_0 ?_
        refine aw_iconst hC dX9_settingIf_42 (v := 2) (by decide) ?_
        refine aw_iload_n hC dX9_settingIf_43 rfl ?_
        refine aw_iadd hC dX9_settingIf_44 ?_
        refine aw_iload_n hC dX9_settingIf_45 rfl ?_
        refine aw_guard rfl (fun g12 => ?_)
        refine aw_iast hC dX9_settingIf_46 rm_7_0_2 rfl rfl g12 rfl (fun h11 => ?_)
        refine aw_aload_n hC dX9_settingIf_47 rfl ?_
        refine aw_aload_n hC dX9_settingIf_48 rfl ?_
        refine aw_iload_n hC dX9_settingIf_49 rfl ?_
        refine aw_bind rfl (fun q13 hq13 => ?_)
        refine aw_cVi hC dX9_settingIf_50 cv_RX9_317 rfl rm_7_0_0 (am_some (inj := (fun r => (.inr (some (.int r.1)), r.2))) hq13 (A_X9_settingOf _ (hC.2.2.2.2.2.2.2.2.2.2.2.2.1) _ _ _ p3 h11)) rfl rfl rfl rfl rfl ⟨rfl, rfl⟩ ?_
        refine aw_bind rfl (fun q14 hq14 => ?_)
        refine aw_cVi hC dX9_settingIf_53 cv_RX9_406 rfl rm_7_0_0 (am_some (inj := (fun r => (.inr (some (.int r.1)), r.2))) hq14 (A_X9_fromAway _ (hC.2.2.2.2.2.2.2.2.2.2.2.2.1) _ _ _ q13.1 q13.2)) rfl rfl rfl rfl rfl ⟨rfl, rfl⟩ ?_
        exact aw_iret hC dX9_settingIf_56 rfl rfl
      · refine aw_iconst hC dX9_settingIf_32 (v := 0) (by decide) ?_
        exact aw_iret hC dX9_settingIf_33 rfl rfl
    · refine aw_iconst hC dX9_settingIf_21 (v := 1) (by decide) ?_
      refine aw_goto hC dX9_settingIf_22 (tgt := 26) (by decide) ?_
      refine aw_bind rfl (fun q15 hq15 => ?_)
      refine aw_cVb hC dX9_settingIf_26 cv_RX9_334 rfl rm_7_0_0 (am_some (inj := (fun r => (.inr (some (.int (b2i r.1))), r.2))) hq15 (A_X9_goesBoth _ (hC.2.2.2.2.2.2.2.2.2.2.2.2.1) _ _ _ q1 true h)) rfl rfl rfl rfl rfl ⟨rfl, rfl⟩ ?_
      refine aw_if_ne_b hC dX9_settingIf_29 (tgt := 34) (by decide) ?_ ?_
      · refine aw_aload_n hC dX9_settingIf_34 rfl ?_
        refine aw_bind rfl (fun q16 hq16 => ?_)
        refine aw_cVv hC dX9_settingIf_35 cv_RX9_403 rfl rm_7_0_0 (am_some (inj := (fun r => (.inr (none), r))) hq16 (A_X9_laysAway _ (hC.2.2.2.2.2.2.2.2.2.2.2.2.1) _ _ _ q15.2)) rfl rfl rfl rfl rfl ⟨rfl, rfl⟩ ?_
        refine aw_aload_n hC dX9_settingIf_38 rfl ?_
        refine aw_gfR hC dX9_settingIf_39 fg_RX9_20 rfl rfl rm_7_0_0 ?_
        refine aw_iconst hC dX9_settingIf_42 (v := 2) (by decide) ?_
        refine aw_iload_n hC dX9_settingIf_43 rfl ?_
        refine aw_iadd hC dX9_settingIf_44 ?_
        refine aw_iload_n hC dX9_settingIf_45 rfl ?_
        refine aw_guard rfl (fun g18 => ?_)
        refine aw_iast hC dX9_settingIf_46 rm_7_0_2 rfl rfl g18 rfl (fun h17 => ?_)
        refine aw_aload_n hC dX9_settingIf_47 rfl ?_
        refine aw_aload_n hC dX9_settingIf_48 rfl ?_
        refine aw_iload_n hC dX9_settingIf_49 rfl ?_
        refine aw_bind rfl (fun q19 hq19 => ?_)
        refine aw_cVi hC dX9_settingIf_50 cv_RX9_317 rfl rm_7_0_0 (am_some (inj := (fun r => (.inr (some (.int r.1)), r.2))) hq19 (A_X9_settingOf _ (hC.2.2.2.2.2.2.2.2.2.2.2.2.1) _ _ _ p3 h17)) rfl rfl rfl rfl rfl ⟨rfl, rfl⟩ ?_
        refine aw_bind rfl (fun q20 hq20 => ?_)
        refine aw_cVi hC dX9_settingIf_53 cv_RX9_406 rfl rm_7_0_0 (am_some (inj := (fun r => (.inr (some (.int r.1)), r.2))) hq20 (A_X9_fromAway _ (hC.2.2.2.2.2.2.2.2.2.2.2.2.1) _ _ _ q19.1 q19.2)) rfl rfl rfl rfl rfl ⟨rfl, rfl⟩ ?_
        exact aw_iret hC dX9_settingIf_56 rfl rfl
      · refine aw_iconst hC dX9_settingIf_32 (v := 0) (by decide) ?_
        exact aw_iret hC dX9_settingIf_33 rfl rfl
set_option maxHeartbeats 4000000 in
set_option maxRecDepth 100000 in
theorem L_X9_bestFor_25 (p1 : Int32) (k72 : Int32 → HD → Option (Int32 × HD)) (hC : Cx p l e R s m args meth c D loc cy A cX9_bestFor 6 (some .int) RX9 6 147 0 0) (hk72 : ∀ (x2 : Int32) (h2 : HD), AW p l e R s m args below meth c D loc cy A 6 (QM below D loc cy A args s) (fun (r : Option (Int32 × HD)) => r.map (fun r => (.inr (some (.int r.1)), r.2))) (0, 0) 72 [(0, .ref (loc (7, 0, 0))), (2, .int x2)] [] h2 (k72 x2 h2)) : ∀ (n25 : Nat) (x2 : Int32) (x3 : Int32) (x4 : Int32) (h : HD), AW p l e R s m args below meth c D loc cy A 6 (QM below D loc cy A args s) (fun (r : Option (Int32 × HD)) => r.map (fun r => (.inr (some (.int r.1)), r.2))) (0, 0) 25 [(0, .ref (loc (7, 0, 0))), (1, .int p1), (2, .int x2), (3, .int x3), (4, .int x4)] [] h (jX9_bestFor_L25 p1 k72 n25 x2 x3 x4 h) := by
  intro n25
  induction n25 with
  | zero => intro x2 x3 x4 h; exact aw_none rfl
  | succ n25 ih25 =>
    intro x2 x3 x4 h
    rw [jX9_bestFor_L25]
    refine aw_iload hC dX9_bestFor_25 rfl ?_
    refine aw_aload_n hC dX9_bestFor_27 rfl ?_
    refine aw_bind rfl (fun q4 hq4 => ?_)
    refine aw_cVi hC dX9_bestFor_28 cv_RX9_214 rfl rm_7_0_0 (am_some (inj := (fun r => (.inr (some (.int r)), h))) hq4 (A_X9_spots _ (hC.2.2.2.2.2.2.2.2.2.2.2.2.1) _ _ _ h)) rfl rfl rfl rfl rfl ⟨rfl, rfl⟩ ?_
    refine aw_icmp_ge hC dX9_bestFor_31 (tgt := 72) (by decide) ?_ ?_
    · refine aw_sub [0, 2] ?_
      exact hk72 x2 h
    · refine aw_aload_n hC dX9_bestFor_34 rfl ?_
      refine aw_gfR hC dX9_bestFor_35 fg_RX9_20 rfl rfl rm_7_0_0 ?_
      refine aw_iconst hC dX9_bestFor_38 (v := 2) (by decide) ?_
      refine aw_iload_n hC dX9_bestFor_39 rfl ?_
      refine aw_iadd hC dX9_bestFor_40 ?_
      refine aw_iload hC dX9_bestFor_41 rfl ?_
      refine aw_guard rfl (fun g6 => ?_)
      refine aw_iast hC dX9_bestFor_43 rm_7_0_2 rfl rfl g6 rfl (fun h5 => ?_)
      refine aw_aload_n hC dX9_bestFor_44 rfl ?_
      refine aw_iconst hC dX9_bestFor_45 (v := 4) (by decide) ?_
      refine aw_bind rfl (fun q7 hq7 => ?_)
      refine aw_cVi hC dX9_bestFor_46 cv_RX9_317 rfl rm_7_0_0 (am_some (inj := (fun r => (.inr (some (.int r.1)), r.2))) hq7 (A_X9_settingOf _ (hC.2.2.2.2.2.2.2.2.2.2.2.2.1) _ _ _ (4 : Int32) h5)) rfl rfl rfl rfl rfl ⟨rfl, rfl⟩ ?_
      refine aw_istore hC dX9_bestFor_49 (by decide) ?_
      refine aw_iload hC dX9_bestFor_51 rfl ?_
      refine aw_iload_n hC dX9_bestFor_53 rfl ?_
      refine aw_icmp_gt hC dX9_bestFor_54 (tgt := 60) (by decide) ?_ ?_
      · refine aw_iload hC dX9_bestFor_60 rfl ?_
        refine aw_istore_n hC dX9_bestFor_62 (by decide) ?_
        refine aw_iload hC dX9_bestFor_63 rfl ?_
        refine aw_istore_n hC dX9_bestFor_65 (by decide) ?_
        refine aw_iinc hC dX9_bestFor_66 rfl (v := x4 + 1) (by first | rfl | decide) (by decide) ?_
        refine aw_goto hC dX9_bestFor_69 (tgt := 25) (by decide) ?_
        refine aw_sub [0, 1, 2, 3, 4] ?_
        exact ih25 x4 q7.1 (x4 + 1) q7.2
      · refine aw_goto hC dX9_bestFor_57 (tgt := 66) (by decide) ?_
        refine aw_iinc hC dX9_bestFor_66 rfl (v := x4 + 1) (by first | rfl | decide) (by decide) ?_
        refine aw_goto hC dX9_bestFor_69 (tgt := 25) (by decide) ?_
        refine aw_sub [0, 1, 2, 3, 4] ?_
        exact ih25 x2 x3 (x4 + 1) q7.2
set_option maxHeartbeats 4000000 in
set_option maxRecDepth 100000 in
theorem A_X9_bestFor (l : Launch) (hl0 : l.stackTraces = false) (D : va_G) (loc : Rf → Nat) (cy : Nat → ClassId) (p1 : Int32) (h : HD) : AM l D loc cy yX9_bestFor cX9_bestFor 6 (some .int) 6 147 [.ref (loc (7, 0, 0)), .int p1] h ((jX9_bestFor p1 h).map (fun r => (.inr (some (.int r.1)), r.2))) := by
  refine am_start (y := yX9_bestFor) (av := [.ref (loc (7, 0, 0)), .int p1]) (nL := 6) (h := h) (RF := fun (r : Option (Int32 × HD)) => r.map (fun r => (.inr (some (.int r.1)), r.2))) (x := jX9_bestFor p1 h) hl0 (by decide +kernel) rfl ?_
  intro p e R s m below meth c A hC
  unfold jX9_bestFor
  refine aw_aload_n hC dX9_bestFor_0 rfl ?_
  refine aw_aload_n hC dX9_bestFor_1 rfl ?_
  refine aw_iload_n hC dX9_bestFor_2 rfl ?_
  refine aw_bind rfl (fun q1 hq1 => ?_)
  refine aw_cVb hC dX9_bestFor_3 cv_RX9_325 rfl rm_7_0_0 (am_some (inj := (fun r => (.inr (some (.int (b2i r))), h))) hq1 (A_X9_isCar _ (hC.2.2.2.2.2.2.2.2.2.2.2.2.1) _ _ _ p1 h)) rfl rfl rfl rfl rfl ⟨rfl, rfl⟩ ?_
  refine aw_bind rfl (fun q2 hq2 => ?_)
  refine aw_cVb hC dX9_bestFor_6 cv_RX9_122 rfl rm_7_0_0 (am_some (inj := (fun r => (.inr (some (.int (b2i r.1))), r.2))) hq2 (A_X9_goes _ (hC.2.2.2.2.2.2.2.2.2.2.2.2.1) _ _ _ q1 h)) rfl rfl rfl rfl rfl ⟨rfl, rfl⟩ ?_
  refine aw_if_ne_b hC dX9_bestFor_9 (tgt := 14) (by decide) ?_ ?_
  · refine aw_aload_n hC dX9_bestFor_14 rfl ?_
    refine aw_bind rfl (fun q3 hq3 => ?_)
    refine aw_cVv hC dX9_bestFor_15 cv_RX9_403 rfl rm_7_0_0 (am_some (inj := (fun r => (.inr (none), r))) hq3 (A_X9_laysAway _ (hC.2.2.2.2.2.2.2.2.2.2.2.2.1) _ _ _ q2.2)) rfl rfl rfl rfl rfl ⟨rfl, rfl⟩ ?_
    refine aw_iconst hC dX9_bestFor_18 (v := 0) (by decide) ?_
    refine aw_istore_n hC dX9_bestFor_19 (by decide) ?_
    refine aw_iconst hC dX9_bestFor_20 (v := -1) (by decide) ?_
    refine aw_istore_n hC dX9_bestFor_21 (by decide) ?_
    refine aw_iconst hC dX9_bestFor_22 (v := 0) (by decide) ?_
    refine aw_istore hC dX9_bestFor_23 (by decide) ?_
    refine aw_sub [0, 1, 2, 3, 4] ?_
    refine L_X9_bestFor_25 p1 _ hC ?_ FU (0 : Int32) (-1 : Int32) (0 : Int32) q3
    · intro y25_2 h8
      refine aw_aload_n hC dX9_bestFor_72 rfl ?_
      refine aw_iload_n hC dX9_bestFor_73 rfl ?_
      refine aw_bind rfl (fun q9 hq9 => ?_)
      refine aw_cVi hC dX9_bestFor_74 cv_RX9_406 rfl rm_7_0_0 (am_some (inj := (fun r => (.inr (some (.int r.1)), r.2))) hq9 (A_X9_fromAway _ (hC.2.2.2.2.2.2.2.2.2.2.2.2.1) _ _ _ y25_2 h8)) rfl rfl rfl rfl rfl ⟨rfl, rfl⟩ ?_
      exact aw_iret hC dX9_bestFor_77 rfl rfl
  · refine aw_iconst hC dX9_bestFor_12 (v := 0) (by decide) ?_
    exact aw_iret hC dX9_bestFor_13 rfl rfl
set_option maxHeartbeats 4000000 in
set_option maxRecDepth 100000 in
theorem A_X9_changesPlaces (l : Launch) (hl0 : l.stackTraces = false) (D : va_G) (loc : Rf → Nat) (cy : Nat → ClassId) (p1 : Int32) (p2 : Int32) (h : HD) : AM l D loc cy yX9_changesPlaces cX9_changesPlaces 6 (none) 1 37 [.ref (loc (7, 0, 0)), .int p1, .int p2] h ((jX9_changesPlaces p1 p2 h).map (fun r => (.inr (none), r))) := by
  refine am_start (y := yX9_changesPlaces) (av := [.ref (loc (7, 0, 0)), .int p1, .int p2]) (nL := 6) (h := h) (RF := fun (r : Option HD) => r.map (fun r => (.inr (none), r))) (x := jX9_changesPlaces p1 p2 h) hl0 (by decide +kernel) rfl ?_
  intro p e R s m below meth c A hC
  unfold jX9_changesPlaces
  refine aw_aload_n hC dX9_changesPlaces_0 rfl ?_
  refine aw_iload_n hC dX9_changesPlaces_1 rfl ?_
  refine aw_bind rfl (fun q1 hq1 => ?_)
  refine aw_cVi hC dX9_changesPlaces_2 cv_RX9_221 rfl rm_7_0_0 (am_some (inj := (fun r => (.inr (some (.int r)), h))) hq1 (A_X9_wishOf _ (hC.2.2.2.2.2.2.2.2.2.2.2.2.1) _ _ _ p1 h)) rfl rfl rfl rfl rfl ⟨rfl, rfl⟩ ?_
  refine aw_istore_n hC dX9_changesPlaces_5 (by decide) ?_
  refine aw_aload_n hC dX9_changesPlaces_6 rfl ?_
  refine aw_gfR hC dX9_changesPlaces_7 fg_RX9_35 rfl rfl rm_7_0_0 ?_
  refine aw_iload_n hC dX9_changesPlaces_10 rfl ?_
  refine aw_guard rfl (fun g2 => ?_)
  refine aw_lald hC dX9_changesPlaces_11 rm_7_0_7 rfl rfl g2 rfl ?_
  refine aw_lstore hC dX9_changesPlaces_12 (by decide) ?_
  refine aw_aload_n hC dX9_changesPlaces_14 rfl ?_
  refine aw_gfR hC dX9_changesPlaces_15 fg_RX9_20 rfl rfl rm_7_0_0 ?_
  refine aw_iconst hC dX9_changesPlaces_18 (v := 2) (by decide) ?_
  refine aw_iload_n hC dX9_changesPlaces_19 rfl ?_
  refine aw_iadd hC dX9_changesPlaces_20 ?_
  refine aw_aload_n hC dX9_changesPlaces_21 rfl ?_
  refine aw_iload_n hC dX9_changesPlaces_22 rfl ?_
  refine aw_bind rfl (fun q3 hq3 => ?_)
  refine aw_cVi hC dX9_changesPlaces_23 cv_RX9_221 rfl rm_7_0_0 (am_some (inj := (fun r => (.inr (some (.int r)), h))) hq3 (A_X9_wishOf _ (hC.2.2.2.2.2.2.2.2.2.2.2.2.1) _ _ _ p2 h)) rfl rfl rfl rfl rfl ⟨rfl, rfl⟩ ?_
  refine aw_guard rfl (fun g5 => ?_)
  refine aw_iast hC dX9_changesPlaces_26 rm_7_0_2 rfl rfl g5 rfl (fun h4 => ?_)
  refine aw_aload_n hC dX9_changesPlaces_27 rfl ?_
  refine aw_gfR hC dX9_changesPlaces_28 fg_RX9_35 rfl rfl rm_7_0_0 ?_
  refine aw_iload_n hC dX9_changesPlaces_31 rfl ?_
  refine aw_aload_n hC dX9_changesPlaces_32 rfl ?_
  refine aw_gfR hC dX9_changesPlaces_33 fg_RX9_35 rfl rfl rm_7_0_0 ?_
  refine aw_iload_n hC dX9_changesPlaces_36 rfl ?_
  refine aw_guard rfl (fun g6 => ?_)
  refine aw_lald hC dX9_changesPlaces_37 rm_7_0_7 rfl rfl g6 rfl ?_
  refine aw_guard rfl (fun g8 => ?_)
  refine aw_last hC dX9_changesPlaces_38 rm_7_0_7 rfl rfl g8 rfl (fun h7 => ?_)
  refine aw_aload_n hC dX9_changesPlaces_39 rfl ?_
  refine aw_gfR hC dX9_changesPlaces_40 fg_RX9_20 rfl rfl rm_7_0_0 ?_
  refine aw_iconst hC dX9_changesPlaces_43 (v := 2) (by decide) ?_
  refine aw_iload_n hC dX9_changesPlaces_44 rfl ?_
  refine aw_iadd hC dX9_changesPlaces_45 ?_
  refine aw_iload_n hC dX9_changesPlaces_46 rfl ?_
  refine aw_guard rfl (fun g10 => ?_)
  refine aw_iast hC dX9_changesPlaces_47 rm_7_0_2 rfl rfl g10 rfl (fun h9 => ?_)
  refine aw_aload_n hC dX9_changesPlaces_48 rfl ?_
  refine aw_gfR hC dX9_changesPlaces_49 fg_RX9_35 rfl rfl rm_7_0_0 ?_
  refine aw_iload_n hC dX9_changesPlaces_52 rfl ?_
  refine aw_lload hC dX9_changesPlaces_53 rfl ?_
  refine aw_guard rfl (fun g12 => ?_)
  refine aw_last hC dX9_changesPlaces_55 rm_7_0_7 rfl rfl g12 rfl (fun h11 => ?_)
  exact aw_vret hC dX9_changesPlaces_56 rfl rfl
set_option maxHeartbeats 4000000 in
set_option maxRecDepth 100000 in
theorem L_X9_placesAt_2 (p1 : Int32) (p2 : Int32) (k21 : HD → Option HD) (hC : Cx p l e R s m args meth c D loc cy A cX9_placesAt 4 (none) RX9 2 62 0 0) (hk21 : ∀  (h2 : HD), AW p l e R s m args below meth c D loc cy A 4 (QM below D loc cy A args s) (fun (r : Option HD) => r.map (fun r => (.inr (none), r))) (0, 0) 21 [(0, .ref (loc (7, 0, 0))), (1, .int p1), (2, .int p2)] [] h2 (k21  h2)) : ∀ (n2 : Nat) (x3 : Int32) (h : HD), AW p l e R s m args below meth c D loc cy A 4 (QM below D loc cy A args s) (fun (r : Option HD) => r.map (fun r => (.inr (none), r))) (0, 0) 2 [(0, .ref (loc (7, 0, 0))), (1, .int p1), (2, .int p2), (3, .int x3)] [] h (jX9_placesAt_L2 p1 p2 k21 n2 x3 h) := by
  intro n2
  induction n2 with
  | zero => intro x3 h; exact aw_none rfl
  | succ n2 ih2 =>
    intro x3 h
    rw [jX9_placesAt_L2]
    refine aw_iload_n hC dX9_placesAt_2 rfl ?_
    refine aw_iload_n hC dX9_placesAt_3 rfl ?_
    refine aw_icmp_ge hC dX9_placesAt_4 (tgt := 21) (by decide) ?_ ?_
    · refine aw_sub [0, 1, 2] ?_
      exact hk21 h
    · refine aw_aload_n hC dX9_placesAt_7 rfl ?_
      refine aw_iload_n hC dX9_placesAt_8 rfl ?_
      refine aw_iload_n hC dX9_placesAt_9 rfl ?_
      refine aw_iconst hC dX9_placesAt_10 (v := 1) (by decide) ?_
      refine aw_iadd hC dX9_placesAt_11 ?_
      refine aw_bind rfl (fun q1 hq1 => ?_)
      refine aw_cVv hC dX9_placesAt_12 cv_RX9_409 rfl rm_7_0_0 (am_some (inj := (fun r => (.inr (none), r))) hq1 (A_X9_changesPlaces _ (hC.2.2.2.2.2.2.2.2.2.2.2.2.1) _ _ _ x3 (x3 + (1 : Int32)) h)) rfl rfl rfl rfl rfl ⟨rfl, rfl⟩ ?_
      refine aw_iinc hC dX9_placesAt_15 rfl (v := x3 + 1) (by first | rfl | decide) (by decide) ?_
      refine aw_goto hC dX9_placesAt_18 (tgt := 2) (by decide) ?_
      refine aw_sub [0, 1, 2, 3] ?_
      exact ih2 (x3 + 1) q1
set_option maxHeartbeats 4000000 in
set_option maxRecDepth 100000 in
theorem L_X9_placesAt_23 (p1 : Int32) (p2 : Int32) (hC : Cx p l e R s m args meth c D loc cy A cX9_placesAt 4 (none) RX9 2 62 0 0)  : ∀ (n23 : Nat) (x3 : Int32) (h : HD), AW p l e R s m args below meth c D loc cy A 4 (QM below D loc cy A args s) (fun (r : Option HD) => r.map (fun r => (.inr (none), r))) (0, 0) 23 [(0, .ref (loc (7, 0, 0))), (2, .int p2), (3, .int x3)] [] h (jX9_placesAt_L23 p1 p2 n23 x3 h) := by
  intro n23
  induction n23 with
  | zero => intro x3 h; exact aw_none rfl
  | succ n23 ih23 =>
    intro x3 h
    rw [jX9_placesAt_L23]
    refine aw_iload_n hC dX9_placesAt_23 rfl ?_
    refine aw_iload_n hC dX9_placesAt_24 rfl ?_
    refine aw_icmp_le hC dX9_placesAt_25 (tgt := 42) (by decide) ?_ ?_
    · exact aw_vret hC dX9_placesAt_42 rfl rfl
    · refine aw_aload_n hC dX9_placesAt_28 rfl ?_
      refine aw_iload_n hC dX9_placesAt_29 rfl ?_
      refine aw_iload_n hC dX9_placesAt_30 rfl ?_
      refine aw_iconst hC dX9_placesAt_31 (v := 1) (by decide) ?_
      refine aw_isub hC dX9_placesAt_32 ?_
      refine aw_bind rfl (fun q3 hq3 => ?_)
      refine aw_cVv hC dX9_placesAt_33 cv_RX9_409 rfl rm_7_0_0 (am_some (inj := (fun r => (.inr (none), r))) hq3 (A_X9_changesPlaces _ (hC.2.2.2.2.2.2.2.2.2.2.2.2.1) _ _ _ x3 (x3 - (1 : Int32)) h)) rfl rfl rfl rfl rfl ⟨rfl, rfl⟩ ?_
      refine aw_iinc hC dX9_placesAt_36 rfl (v := x3 + (-1)) (by first | rfl | decide) (by decide) ?_
      refine aw_goto hC dX9_placesAt_39 (tgt := 23) (by decide) ?_
      refine aw_sub [0, 2, 3] ?_
      exact ih23 (x3 + (-1)) q3
set_option maxHeartbeats 4000000 in
set_option maxRecDepth 100000 in
theorem A_X9_placesAt (l : Launch) (hl0 : l.stackTraces = false) (D : va_G) (loc : Rf → Nat) (cy : Nat → ClassId) (p1 : Int32) (p2 : Int32) (h : HD) : AM l D loc cy yX9_placesAt cX9_placesAt 4 (none) 2 62 [.ref (loc (7, 0, 0)), .int p1, .int p2] h ((jX9_placesAt p1 p2 h).map (fun r => (.inr (none), r))) := by
  refine am_start (y := yX9_placesAt) (av := [.ref (loc (7, 0, 0)), .int p1, .int p2]) (nL := 4) (h := h) (RF := fun (r : Option HD) => r.map (fun r => (.inr (none), r))) (x := jX9_placesAt p1 p2 h) hl0 (by decide +kernel) rfl ?_
  intro p e R s m below meth c A hC
  unfold jX9_placesAt
  refine aw_iload_n hC dX9_placesAt_0 rfl ?_
  refine aw_istore_n hC dX9_placesAt_1 (by decide) ?_
  refine aw_sub [0, 1, 2, 3] ?_
  refine L_X9_placesAt_2 p1 p2 _ hC ?_ FU p1 h
  · intro h2
    refine aw_iload_n hC dX9_placesAt_21 rfl ?_
    refine aw_istore_n hC dX9_placesAt_22 (by decide) ?_
    refine aw_sub [0, 2, 3] ?_
    exact L_X9_placesAt_23 p1 p2  hC FU p1 h2
set_option maxHeartbeats 4000000 in
set_option maxRecDepth 100000 in
theorem L_X9_latest_18 (p1 : Int32) (hC : Cx p l e R s m args meth c D loc cy A cX9_latest 4 (some .int) RX9 4 103 0 0)  : ∀ (n18 : Nat) (x2 : Int32) (x3 : Int32) (h : HD), AW p l e R s m args below meth c D loc cy A 4 (QM below D loc cy A args s) (fun (r : Option (Int32 × HD)) => r.map (fun r => (.inr (some (.int r.1)), r.2))) (0, 0) 18 [(0, .ref (loc (7, 0, 0))), (1, .int p1), (2, .int x2), (3, .int x3)] [] h (jX9_latest_L18 p1 n18 x2 x3 h) := by
  intro n18
  induction n18 with
  | zero => intro x2 x3 h; exact aw_none rfl
  | succ n18 ih18 =>
    intro x2 x3 h
    rw [jX9_latest_L18]
    refine aw_iload_n hC dX9_latest_18 rfl ?_
    refine aw_aload_n hC dX9_latest_19 rfl ?_
    refine aw_gfR hC dX9_latest_20 fg_RX9_20 rfl rfl rm_7_0_0 ?_
    refine aw_iconst hC dX9_latest_23 (v := 0) (by decide) ?_
    refine aw_iald hC dX9_latest_24 rm_7_0_2 rfl rfl (by decide) (k := 0) (by decide) ?_
    refine aw_icmp_ge hC dX9_latest_25 (tgt := 73) (by decide) ?_ ?_
    · refine aw_iload_n hC dX9_latest_73 rfl ?_
      exact aw_iret hC dX9_latest_74 rfl rfl
    · refine aw_aload_n hC dX9_latest_28 rfl ?_
      refine aw_bind rfl (fun q3 hq3 => ?_)
      refine aw_cVv hC dX9_latest_29 cv_RX9_403 rfl rm_7_0_0 (am_some (inj := (fun r => (.inr (none), r))) hq3 (A_X9_laysAway _ (hC.2.2.2.2.2.2.2.2.2.2.2.2.1) _ _ _ h)) rfl rfl rfl rfl rfl ⟨rfl, rfl⟩ ?_
      refine aw_aload_n hC dX9_latest_32 rfl ?_
      refine aw_iload_n hC dX9_latest_33 rfl ?_
      refine aw_iload_n hC dX9_latest_34 rfl ?_
      refine aw_bind rfl (fun q4 hq4 => ?_)
      refine aw_cVv hC dX9_latest_35 cv_RX9_412 rfl rm_7_0_0 (am_some (inj := (fun r => (.inr (none), r))) hq4 (A_X9_placesAt _ (hC.2.2.2.2.2.2.2.2.2.2.2.2.1) _ _ _ p1 x3 q3)) rfl rfl rfl rfl rfl ⟨rfl, rfl⟩ ?_
      refine aw_aload_n hC dX9_latest_38 rfl ?_
      refine aw_aload_n hC dX9_latest_39 rfl ?_
      refine aw_gfR hC dX9_latest_40 fg_RX9_20 rfl rfl rm_7_0_0 ?_
      refine aw_iconst hC dX9_latest_43 (v := 0) (by decide) ?_
      refine aw_iald hC dX9_latest_44 rm_7_0_2 rfl rfl (by decide) (k := 0) (by decide) ?_
      refine aw_bind rfl (fun q5 hq5 => ?_)
      refine aw_cVv hC dX9_latest_45 cv_RX9_230 rfl rm_7_0_0 (am_some (inj := (fun r => (.inr (none), r))) hq5 (A_X9_parks _ (hC.2.2.2.2.2.2.2.2.2.2.2.2.1) _ _ _ (gI q4 (7, 0, 2) 0) q4)) rfl rfl rfl rfl rfl ⟨rfl, rfl⟩ ?_
      refine aw_aload_n hC dX9_latest_48 rfl ?_
      refine aw_aload_n hC dX9_latest_49 rfl ?_
      refine aw_gfR hC dX9_latest_50 fg_RX9_60 rfl rfl rm_7_0_0 ?_
      refine aw_iload_n hC dX9_latest_53 rfl ?_
      refine aw_guard rfl (fun g6 => ?_)
      refine aw_iald hC dX9_latest_54 rm_7_0_15 rfl rfl g6 rfl ?_
      refine aw_if_ne hC dX9_latest_55 (tgt := 62) (by decide) ?_ ?_
      · refine aw_iload_n hC dX9_latest_62 rfl ?_
        refine aw_bind rfl (fun q7 hq7 => ?_)
        refine aw_cVi hC dX9_latest_63 cv_RX9_406 rfl rm_7_0_0 (am_some (inj := (fun r => (.inr (some (.int r.1)), r.2))) hq7 (A_X9_fromAway _ (hC.2.2.2.2.2.2.2.2.2.2.2.2.1) _ _ _ x2 q5)) rfl rfl rfl rfl rfl ⟨rfl, rfl⟩ ?_
        refine aw_istore_n hC dX9_latest_66 (by decide) ?_
        refine aw_iinc hC dX9_latest_67 rfl (v := x3 + 1) (by first | rfl | decide) (by decide) ?_
        refine aw_goto hC dX9_latest_70 (tgt := 18) (by decide) ?_
        refine aw_sub [0, 1, 2, 3] ?_
        exact ih18 q7.1 (x3 + 1) q7.2
      · refine aw_iload_n hC dX9_latest_58 rfl ?_
        refine aw_goto hC dX9_latest_59 (tgt := 63) (by decide) ?_
        refine aw_bind rfl (fun q8 hq8 => ?_)
        refine aw_cVi hC dX9_latest_63 cv_RX9_406 rfl rm_7_0_0 (am_some (inj := (fun r => (.inr (some (.int r.1)), r.2))) hq8 (A_X9_fromAway _ (hC.2.2.2.2.2.2.2.2.2.2.2.2.1) _ _ _ x3 q5)) rfl rfl rfl rfl rfl ⟨rfl, rfl⟩ ?_
        refine aw_istore_n hC dX9_latest_66 (by decide) ?_
        refine aw_iinc hC dX9_latest_67 rfl (v := x3 + 1) (by first | rfl | decide) (by decide) ?_
        refine aw_goto hC dX9_latest_70 (tgt := 18) (by decide) ?_
        refine aw_sub [0, 1, 2, 3] ?_
        exact ih18 q8.1 (x3 + 1) q8.2
set_option maxHeartbeats 4000000 in
set_option maxRecDepth 100000 in
theorem A_X9_latest (l : Launch) (hl0 : l.stackTraces = false) (D : va_G) (loc : Rf → Nat) (cy : Nat → ClassId) (p1 : Int32) (h : HD) : AM l D loc cy yX9_latest cX9_latest 4 (some .int) 4 103 [.ref (loc (7, 0, 0)), .int p1] h ((jX9_latest p1 h).map (fun r => (.inr (some (.int r.1)), r.2))) := by
  refine am_start (y := yX9_latest) (av := [.ref (loc (7, 0, 0)), .int p1]) (nL := 4) (h := h) (RF := fun (r : Option (Int32 × HD)) => r.map (fun r => (.inr (some (.int r.1)), r.2))) (x := jX9_latest p1 h) hl0 (by decide +kernel) rfl ?_
  intro p e R s m below meth c A hC
  unfold jX9_latest
  refine aw_aload_n hC dX9_latest_0 rfl ?_
  refine aw_aload_n hC dX9_latest_1 rfl ?_
  refine aw_iload_n hC dX9_latest_2 rfl ?_
  refine aw_bind rfl (fun q1 hq1 => ?_)
  refine aw_cVb hC dX9_latest_3 cv_RX9_325 rfl rm_7_0_0 (am_some (inj := (fun r => (.inr (some (.int (b2i r))), h))) hq1 (A_X9_isCar _ (hC.2.2.2.2.2.2.2.2.2.2.2.2.1) _ _ _ p1 h)) rfl rfl rfl rfl rfl ⟨rfl, rfl⟩ ?_
  refine aw_bind rfl (fun q2 hq2 => ?_)
  refine aw_cVb hC dX9_latest_6 cv_RX9_122 rfl rm_7_0_0 (am_some (inj := (fun r => (.inr (some (.int (b2i r.1))), r.2))) hq2 (A_X9_goes _ (hC.2.2.2.2.2.2.2.2.2.2.2.2.1) _ _ _ q1 h)) rfl rfl rfl rfl rfl ⟨rfl, rfl⟩ ?_
  refine aw_if_ne_b hC dX9_latest_9 (tgt := 14) (by decide) ?_ ?_
  · refine aw_iconst hC dX9_latest_14 (v := -1) (by decide) ?_
    refine aw_istore_n hC dX9_latest_15 (by decide) ?_
    refine aw_iconst hC dX9_latest_16 (v := 0) (by decide) ?_
    refine aw_istore_n hC dX9_latest_17 (by decide) ?_
    refine aw_sub [0, 1, 2, 3] ?_
    exact L_X9_latest_18 p1  hC FU (-1 : Int32) (0 : Int32) q2.2
  · refine aw_iconst hC dX9_latest_12 (v := 0) (by decide) ?_
    exact aw_iret hC dX9_latest_13 rfl rfl
set_option maxHeartbeats 4000000 in
set_option maxRecDepth 100000 in
theorem A_X9_wayWith (l : Launch) (hl0 : l.stackTraces = false) (D : va_G) (loc : Rf → Nat) (cy : Nat → ClassId) (p1 : Int32) (h : HD) : AM l D loc cy yX9_wayWith cX9_wayWith 2 (some .int) 4 103 [.ref (loc (7, 0, 0)), .int p1] h ((jX9_wayWith p1 h).map (fun r => (.inr (some (.int r.1)), r.2))) := by
  refine am_start (y := yX9_wayWith) (av := [.ref (loc (7, 0, 0)), .int p1]) (nL := 2) (h := h) (RF := fun (r : Option (Int32 × HD)) => r.map (fun r => (.inr (some (.int r.1)), r.2))) (x := jX9_wayWith p1 h) hl0 (by decide +kernel) rfl ?_
  intro p e R s m below meth c A hC
  unfold jX9_wayWith
  refine aw_aload_n hC dX9_wayWith_0 rfl ?_
  refine aw_bind rfl (fun q1 hq1 => ?_)
  refine aw_cVv hC dX9_wayWith_1 cv_RX9_403 rfl rm_7_0_0 (am_some (inj := (fun r => (.inr (none), r))) hq1 (A_X9_laysAway _ (hC.2.2.2.2.2.2.2.2.2.2.2.2.1) _ _ _ h)) rfl rfl rfl rfl rfl ⟨rfl, rfl⟩ ?_
  refine aw_aload_n hC dX9_wayWith_4 rfl ?_
  refine aw_gfR hC dX9_wayWith_5 fg_RX9_20 rfl rfl rm_7_0_0 ?_
  refine aw_iconst hC dX9_wayWith_8 (v := 1) (by decide) ?_
  refine aw_iload_n hC dX9_wayWith_9 rfl ?_
  refine aw_iast hC dX9_wayWith_10 rm_7_0_2 rfl rfl (by decide) (k := 1) (by decide) (fun h2 => ?_)
  refine aw_aload_n hC dX9_wayWith_11 rfl ?_
  refine aw_aload_n hC dX9_wayWith_12 rfl ?_
  refine aw_gfR hC dX9_wayWith_13 fg_RX9_20 rfl rfl rm_7_0_0 ?_
  refine aw_iconst hC dX9_wayWith_16 (v := 0) (by decide) ?_
  refine aw_iald hC dX9_wayWith_17 rm_7_0_2 rfl rfl (by decide) (k := 0) (by decide) ?_
  refine aw_bind rfl (fun q3 hq3 => ?_)
  refine aw_cVv hC dX9_wayWith_18 cv_RX9_230 rfl rm_7_0_0 (am_some (inj := (fun r => (.inr (none), r))) hq3 (A_X9_parks _ (hC.2.2.2.2.2.2.2.2.2.2.2.2.1) _ _ _ (gI h2 (7, 0, 2) 0) h2)) rfl rfl rfl rfl rfl ⟨rfl, rfl⟩ ?_
  refine aw_aload_n hC dX9_wayWith_21 rfl ?_
  refine aw_aload_n hC dX9_wayWith_22 rfl ?_
  refine aw_bind rfl (fun q4 hq4 => ?_)
  refine aw_cVi hC dX9_wayWith_23 cv_RX9_303 rfl rm_7_0_0 (am_some (inj := (fun r => (.inr (some (.int r)), q3))) hq4 (A_X9_way _ (hC.2.2.2.2.2.2.2.2.2.2.2.2.1) _ _ _ q3)) rfl rfl rfl rfl rfl ⟨rfl, rfl⟩ ?_
  refine aw_bind rfl (fun q5 hq5 => ?_)
  refine aw_cVi hC dX9_wayWith_26 cv_RX9_406 rfl rm_7_0_0 (am_some (inj := (fun r => (.inr (some (.int r.1)), r.2))) hq5 (A_X9_fromAway _ (hC.2.2.2.2.2.2.2.2.2.2.2.2.1) _ _ _ q4 q3)) rfl rfl rfl rfl rfl ⟨rfl, rfl⟩ ?_
  exact aw_iret hC dX9_wayWith_29 rfl rfl
set_option maxHeartbeats 4000000 in
set_option maxRecDepth 100000 in
theorem A_X9_isBack (l : Launch) (hl0 : l.stackTraces = false) (D : va_G) (loc : Rf → Nat) (cy : Nat → ClassId) (p1 : Int32) (h : HD) : AM l D loc cy yX9_isBack cX9_isBack 1 (some .boolean) 1 41 [.int p1] h (some (.inr (some (.int (b2i (jX9_isBack p1 h)))), h)) := by
  refine am_start (y := yX9_isBack) (av := [.int p1]) (nL := 1) (h := h) (RF := fun (r : Bool) => some (.inr (some (.int (b2i r))), h)) (x := jX9_isBack p1 h) hl0 (by decide +kernel) rfl ?_
  intro p e R s m below meth c A hC
  unfold jX9_isBack
  refine aw_iload_n hC dX9_isBack_0 rfl ?_
  refine aw_i2l hC dX9_isBack_1 ?_
  refine aw_lconst hC dX9_isBack_2 (v := 0) (by decide) ?_
  refine aw_ldc2 hC dX9_isBack_3 (v := 5) tw8_110 ?_
  refine aw_cSb hC dX9_isBack_6 cv_RX9_130 (A_X9_isIn _ (hC.2.2.2.2.2.2.2.2.2.2.2.2.1) _ _ _ p1.toInt64 (0 : Int64) (5 : Int64) h) rfl rfl rfl rfl rfl ⟨rfl, rfl⟩ ?_
  exact aw_zret hC dX9_isBack_9 rfl (show _ = b2i (jX9_isIn p1.toInt64 (0 : Int64) (5 : Int64) h) from rfl) rfl
end PRF
