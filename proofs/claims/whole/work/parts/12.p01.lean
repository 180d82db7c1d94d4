section PRF
variable {p : Program} {l : Launch} {e : Env} {R : Room} {s : State} {m : MethodId} {args : Array Value} {below : List Frame} {meth : Method} {c : Code} {D : va_G} {loc : Rf → Nat} {cy : Nat → ClassId} {A : Nat → Prop}
set_option maxHeartbeats 4000000 in
set_option maxRecDepth 100000 in
theorem A_J9_floorMod_7cf53 (l : Launch) (hl0 : l.stackTraces = false) (D : va_G) (loc : Rf → Nat) (cy : Nat → ClassId) (p1 : Int32) (p2 : Int32) (h : HD) : AM l D loc cy yJ9_floorMod_7cf53 cJ9_floorMod_7cf53 3 (some .int) 0 16 [.int p1, .int p2] h ((jJ9_floorMod_7cf53 p1 p2 h).map (fun r => (.inr (some (.int r)), h))) := by
  refine am_startF (y := yJ9_floorMod_7cf53) (av := [.int p1, .int p2]) (nL := 3) (h := h) (RF := fun (r : Option Int32) => r.map (fun r => (.inr (some (.int r)), h))) (x := jJ9_floorMod_7cf53 p1 p2 h) hl0 (by decide +kernel) rfl ?_
  intro p e R s m below meth c A hC
  unfold jJ9_floorMod_7cf53
  refine aw_iload_n hC dJ9_floorMod_7cf53_0 rfl ?_
  refine aw_iload_n hC dJ9_floorMod_7cf53_1 rfl ?_
  refine aw_guardN rfl (fun g1 => ?_)
  refine aw_irem hC dJ9_floorMod_7cf53_2 g1 ?_
  refine aw_istore_n hC dJ9_floorMod_7cf53_3 (by decide) ?_
  refine aw_iload_n hC dJ9_floorMod_7cf53_4 rfl ?_
  refine aw_iload_n hC dJ9_floorMod_7cf53_5 rfl ?_
  refine aw_ixor hC dJ9_floorMod_7cf53_6 ?_
  refine aw_if_ge hC dJ9_floorMod_7cf53_7 (tgt := 18) (by decide) ?_ ?_
  · refine aw_iload_n hC dJ9_floorMod_7cf53_18 rfl ?_
    exact aw_iret hC dJ9_floorMod_7cf53_19 rfl rfl
  · refine aw_iload_n hC dJ9_floorMod_7cf53_10 rfl ?_
    refine aw_if_eq hC dJ9_floorMod_7cf53_11 (tgt := 18) (by decide) ?_ ?_
    · refine aw_iload_n hC dJ9_floorMod_7cf53_18 rfl ?_
      exact aw_iret hC dJ9_floorMod_7cf53_19 rfl rfl
    · refine aw_iload_n hC dJ9_floorMod_7cf53_14 rfl ?_
      refine aw_iload_n hC dJ9_floorMod_7cf53_15 rfl ?_
      refine aw_iadd hC dJ9_floorMod_7cf53_16 ?_
      exact aw_iret hC dJ9_floorMod_7cf53_17 rfl rfl
set_option maxHeartbeats 4000000 in
set_option maxRecDepth 100000 in
theorem L_J7_fill_53178_5 (r1 : Rf) (hr1 : r1 ∈ refs) (hpr1 : Nat.beq r1.2.2 0 = false) (hqr1 : (arrT r1).1 = 1) (p2 : Int32) (x3 : Int32) (hC : Cx p l e R s m args meth c D loc cy A cJ7_fill_53178 4 (none) RJ7 0 16 0 0)  : ∀ (n5 : Nat) (x2 : Int32) (h : HD), AW p l e R s m args below meth c D loc cy A 4 (QM below D loc cy A args s) (fun (r : Option HD) => r.map (fun r => (.inr (none), r))) (0, 0) 5 [(0, .ref (loc r1)), (1, .int p2), (2, .int x2), (3, .int x3)] [] h (jJ7_fill_53178_L5 r1 p2 x3 n5 x2 h) := by
  intro n5
  induction n5 with
  | zero => intro x2 h; exact aw_none rfl
  | succ n5 ih5 =>
    intro x2 h
    rw [jJ7_fill_53178_L5]
    refine aw_iload_n hC dJ7_fill_53178_5 rfl ?_
    refine aw_iload_n hC dJ7_fill_53178_6 rfl ?_
    refine aw_icmp_ge hC dJ7_fill_53178_7 (tgt := 20) (by decide) ?_ ?_
    · exact aw_vret hC dJ7_fill_53178_20 rfl rfl
    · refine aw_aload_n hC dJ7_fill_53178_10 rfl ?_
      refine aw_iload_n hC dJ7_fill_53178_11 rfl ?_
      refine aw_iload_n hC dJ7_fill_53178_12 rfl ?_
      refine aw_guard rfl (fun g2 => ?_)
      refine aw_iast hC dJ7_fill_53178_13 hr1 hpr1 (at_of hqr1) g2 rfl (fun h1 => ?_)
      refine aw_iinc hC dJ7_fill_53178_14 rfl (v := x2 + 1) (by first | rfl | decide) (by decide) ?_
      refine aw_goto hC dJ7_fill_53178_17 (tgt := 5) (by decide) ?_
      refine aw_sub [0, 1, 2, 3] ?_
      exact ih5 (x2 + 1) h1
set_option maxHeartbeats 4000000 in
set_option maxRecDepth 100000 in
theorem A_J7_fill_53178 (l : Launch) (hl0 : l.stackTraces = false) (D : va_G) (loc : Rf → Nat) (cy : Nat → ClassId) (r1 : Rf) (hr1 : r1 ∈ refs) (hpr1 : Nat.beq r1.2.2 0 = false) (hqr1 : (arrT r1).1 = 1) (p2 : Int32) (h : HD) : AM l D loc cy yJ7_fill_53178 cJ7_fill_53178 4 (none) 0 16 [.ref (loc r1), .int p2] h ((jJ7_fill_53178 r1 p2 h).map (fun r => (.inr (none), r))) := by
  refine am_start (y := yJ7_fill_53178) (av := [.ref (loc r1), .int p2]) (nL := 4) (h := h) (RF := fun (r : Option HD) => r.map (fun r => (.inr (none), r))) (x := jJ7_fill_53178 r1 p2 h) hl0 (by decide +kernel) rfl ?_
  intro p e R s m below meth c A hC
  unfold jJ7_fill_53178
  refine aw_iconst hC dJ7_fill_53178_0 (v := 0) (by decide) ?_
  refine aw_istore_n hC dJ7_fill_53178_1 (by decide) ?_
  refine aw_aload_n hC dJ7_fill_53178_2 rfl ?_
  refine aw_alen hC dJ7_fill_53178_3 hr1 hpr1 (at_of hqr1) rfl rfl ?_
  refine aw_istore_n hC dJ7_fill_53178_4 (by decide) ?_
  refine aw_sub [0, 1, 2, 3] ?_
  exact L_J7_fill_53178_5 r1 hr1 hpr1 hqr1 p2 (Int32.ofNat (arrT r1).2)  hC FU (0 : Int32) h
set_option maxHeartbeats 4000000 in
set_option maxRecDepth 100000 in
theorem A_X1_length (l : Launch) (hl0 : l.stackTraces = false) (D : va_G) (loc : Rf → Nat) (cy : Nat → ClassId) (o : Nat) (ho : o < 2) (h : HD) : AM l D loc cy yX1_length cX1_length 1 (some .int) 0 16 [.ref (loc (0, o, 0))] h (some (.inr (some (.int (jX1_length o h))), h)) := by
  refine am_start (y := yX1_length) (av := [.ref (loc (0, o, 0))]) (nL := 1) (h := h) (RF := fun (r : Int32) => some (.inr (some (.int r)), h)) (x := jX1_length o h) hl0 (by decide +kernel) rfl ?_
  intro p e R s m below meth c A hC
  unfold jX1_length
  refine aw_aload_n hC dX1_length_0 rfl ?_
  refine aw_gfI hC dX1_length_1 fg_RX1_9 rfl (rv_0_0 ho) ?_
  exact aw_iret hC dX1_length_4 rfl rfl
set_option maxHeartbeats 4000000 in
set_option maxRecDepth 100000 in
theorem A_X1_add (l : Launch) (hl0 : l.stackTraces = false) (D : va_G) (loc : Rf → Nat) (cy : Nat → ClassId) (o : Nat) (ho : o < 2) (p1 : Int32) (h : HD) : AM l D loc cy yX1_add cX1_add 2 (none) 0 16 [.ref (loc (0, o, 0)), .int p1] h ((jX1_add o p1 h).map (fun r => (.inr (none), r))) := by
  refine am_start (y := yX1_add) (av := [.ref (loc (0, o, 0)), .int p1]) (nL := 2) (h := h) (RF := fun (r : Option HD) => r.map (fun r => (.inr (none), r))) (x := jX1_add o p1 h) hl0 (by decide +kernel) rfl ?_
  intro p e R s m below meth c A hC
  unfold jX1_add
  refine aw_aload_n hC dX1_add_0 rfl ?_
  refine aw_gfI hC dX1_add_1 fg_RX1_9 rfl (rv_0_0 ho) ?_
  refine aw_aload_n hC dX1_add_4 rfl ?_
  refine aw_gfR hC dX1_add_5 fg_RX1_15 rfl rfl (rv_0_0 ho) ?_
  refine aw_alen hC dX1_add_8 (rv_0_1 ho) rfl rfl rfl rfl ?_
  refine aw_icmp_ge hC dX1_add_9 (tgt := 33) (by decide) ?_ ?_
  · exact aw_vret hC dX1_add_33 rfl rfl
  · refine aw_aload_n hC dX1_add_12 rfl ?_
    refine aw_gfR hC dX1_add_13 fg_RX1_15 rfl rfl (rv_0_0 ho) ?_
    refine aw_aload_n hC dX1_add_16 rfl ?_
    refine aw_gfI hC dX1_add_17 fg_RX1_9 rfl (rv_0_0 ho) ?_
    refine aw_iload_n hC dX1_add_20 rfl ?_
    refine aw_i2b hC dX1_add_21 ?_
    refine aw_guard rfl (fun g2 => ?_)
    refine aw_bast hC dX1_add_22 (rv_0_1 ho) rfl rfl g2 rfl (fun h1 => ?_)
    refine aw_aload_n hC dX1_add_23 rfl ?_
    refine aw_dup hC dX1_add_24 rfl ?_
    refine aw_gfI hC dX1_add_25 fg_RX1_9 rfl (rv_0_0 ho) ?_
    refine aw_iconst hC dX1_add_28 (v := 1) (by decide) ?_
    refine aw_iadd hC dX1_add_29 ?_
    refine aw_pfI hC dX1_add_30 fg_RX1_9 fp_0_1 rfl (rv_0_0 ho) (fun h3 => ?_)
    exact aw_vret hC dX1_add_33 rfl rfl
set_option maxHeartbeats 4000000 in
set_option maxRecDepth 100000 in
theorem L_X1_addFour_3 (o : Nat) (ho : o < 2) (p1 : Int32) (hC : Cx p l e R s m args meth c D loc cy A cX1_addFour 3 (none) RX1 1 37 0 0)  : ∀ (n3 : Nat) (x2 : Int32) (h : HD), AW p l e R s m args below meth c D loc cy A 3 (QM below D loc cy A args s) (fun (r : Option HD) => r.map (fun r => (.inr (none), r))) (0, 0) 3 [(0, .ref (loc (0, o, 0))), (1, .int p1), (2, .int x2)] [] h (jX1_addFour_L3 o p1 n3 x2 h) := by
  intro n3
  induction n3 with
  | zero => intro x2 h; exact aw_none rfl
  | succ n3 ih3 =>
    intro x2 h
    rw [jX1_addFour_L3]
    refine aw_iload_n hC dX1_addFour_3 rfl ?_
    refine aw_if_lt hC dX1_addFour_4 (tgt := 20) (by decide) ?_ ?_
    · exact aw_vret hC dX1_addFour_20 rfl rfl
    · refine aw_aload_n hC dX1_addFour_7 rfl ?_
      refine aw_iload_n hC dX1_addFour_8 rfl ?_
      refine aw_iload_n hC dX1_addFour_9 rfl ?_
      refine aw_ishr hC dX1_addFour_10 ?_
      refine aw_bind rfl (fun q1 hq1 => ?_)
      refine aw_cVv hC dX1_addFour_11 cv_RX1_19 rfl (rv_0_0 ho) (am_some (inj := (fun r => (.inr (none), r))) hq1 (A_X1_add _ (hC.2.2.2.2.2.2.2.2.2.2.2.2.1) _ _ _ o ho (p1 >>> (x2 &&& 31)) h)) rfl rfl rfl rfl rfl ⟨rfl, rfl⟩ ?_
      refine aw_iinc hC dX1_addFour_14 rfl (v := x2 + (-8)) (by first | rfl | decide) (by decide) ?_
      refine aw_goto hC dX1_addFour_17 (tgt := 3) (by decide) ?_
      refine aw_sub [0, 1, 2] ?_
      exact ih3 (x2 + (-8)) q1
set_option maxHeartbeats 4000000 in
set_option maxRecDepth 100000 in
theorem A_X1_addFour (l : Launch) (hl0 : l.stackTraces = false) (D : va_G) (loc : Rf → Nat) (cy : Nat → ClassId) (o : Nat) (ho : o < 2) (p1 : Int32) (h : HD) : AM l D loc cy yX1_addFour cX1_addFour 3 (none) 1 37 [.ref (loc (0, o, 0)), .int p1] h ((jX1_addFour o p1 h).map (fun r => (.inr (none), r))) := by
  refine am_start (y := yX1_addFour) (av := [.ref (loc (0, o, 0)), .int p1]) (nL := 3) (h := h) (RF := fun (r : Option HD) => r.map (fun r => (.inr (none), r))) (x := jX1_addFour o p1 h) hl0 (by decide +kernel) rfl ?_
  intro p e R s m below meth c A hC
  unfold jX1_addFour
  refine aw_bipush hC dX1_addFour_0 (v := 24) (by decide) ?_
  refine aw_istore_n hC dX1_addFour_2 (by decide) ?_
  refine aw_sub [0, 1, 2] ?_
  exact L_X1_addFour_3 o ho p1  hC FU (24 : Int32) h
set_option maxHeartbeats 4000000 in
set_option maxRecDepth 100000 in
theorem A_X8_feed (l : Launch) (hl0 : l.stackTraces = false) (D : va_G) (loc : Rf → Nat) (cy : Nat → ClassId) (p1 : Int32) (p2 : Int32) (p3 : Int32) (p4 : Int32) (p5 : Int32) (h : HD) : AX l D loc cy yX8_feed (Cond.code yX8_feed cX8_feed 6 (some .int) :: LW) 6 100 1 6 [.ref (loc (6, 0, 0)), .int p1, .int p2, .int p3, .int p4, .int p5] h ((jX8_feed p1 p2 p3 p4 p5 h).map (fun r => (xi (fun v => some (.int v)) r.1, r.2))) := by
  refine ax_start (y := yX8_feed) (av := [.ref (loc (6, 0, 0)), .int p1, .int p2, .int p3, .int p4, .int p5]) (nL := 6) (h := h) (RF := fun (r : Option ((Nat ⊕ Int32) × HD)) => r.map (fun r => (xi (fun v => some (.int v)) r.1, r.2))) (x := jX8_feed p1 p2 p3 p4 p5 h) hl0 (by decide +kernel) rfl ?_
  intro p e R s m below meth c A hxt hC
  unfold jX8_feed
  refine aw_aload_n hC dX8_feed_0 rfl ?_
  refine aw_gfR hC dX8_feed_1 fg_RX8_20 rfl rfl rm_6_0_0 ?_
  refine aw_cVi hC dX8_feed_4 cv_RX8_100 rfl rm_0_0_0 (A_X1_length _ (hC.2.2.2.2.2.2.2.2.2.2.2.2.1) _ _ _ 0 (by decide) h) rfl rfl rfl rfl rfl ⟨rfl, rfl⟩ ?_
  refine aw_bipush hC dX8_feed_7 (v := 20) (by decide) ?_
  refine aw_iadd hC dX8_feed_9 ?_
  refine aw_sipush hC dX8_feed_10 (v := 400) (by decide) ?_
  refine aw_icmp_le hC dX8_feed_13 (tgt := 26) (by decide) ?_ ?_
  · refine aw_aload_n hC dX8_feed_26 rfl ?_
    refine aw_gfR hC dX8_feed_27 fg_RX8_20 rfl rfl rm_6_0_0 ?_
    refine aw_iload_n hC dX8_feed_30 rfl ?_
    refine aw_bind rfl (fun q1 hq1 => ?_)
    refine aw_cVv hC dX8_feed_31 cv_RX8_111 rfl rm_0_0_0 (am_some (inj := (fun r => (.inr (none), r))) hq1 (A_X1_addFour _ (hC.2.2.2.2.2.2.2.2.2.2.2.2.1) _ _ _ 0 (by decide) p1 h)) rfl rfl rfl rfl rfl ⟨rfl, rfl⟩ ?_
    refine aw_aload_n hC dX8_feed_34 rfl ?_
    refine aw_gfR hC dX8_feed_35 fg_RX8_20 rfl rfl rm_6_0_0 ?_
    refine aw_iload_n hC dX8_feed_38 rfl ?_
    refine aw_bind rfl (fun q2 hq2 => ?_)
    refine aw_cVv hC dX8_feed_39 cv_RX8_111 rfl rm_0_0_0 (am_some (inj := (fun r => (.inr (none), r))) hq2 (A_X1_addFour _ (hC.2.2.2.2.2.2.2.2.2.2.2.2.1) _ _ _ 0 (by decide) p2 q1)) rfl rfl rfl rfl rfl ⟨rfl, rfl⟩ ?_
    refine aw_aload_n hC dX8_feed_42 rfl ?_
    refine aw_gfR hC dX8_feed_43 fg_RX8_20 rfl rfl rm_6_0_0 ?_
    refine aw_iload_n hC dX8_feed_46 rfl ?_
    refine aw_bind rfl (fun q3 hq3 => ?_)
    refine aw_cVv hC dX8_feed_47 cv_RX8_111 rfl rm_0_0_0 (am_some (inj := (fun r => (.inr (none), r))) hq3 (A_X1_addFour _ (hC.2.2.2.2.2.2.2.2.2.2.2.2.1) _ _ _ 0 (by decide) p3 q2)) rfl rfl rfl rfl rfl ⟨rfl, rfl⟩ ?_
    refine aw_aload_n hC dX8_feed_50 rfl ?_
    refine aw_gfR hC dX8_feed_51 fg_RX8_20 rfl rfl rm_6_0_0 ?_
    refine aw_iload hC dX8_feed_54 rfl ?_
    refine aw_bind rfl (fun q4 hq4 => ?_)
    refine aw_cVv hC dX8_feed_56 cv_RX8_111 rfl rm_0_0_0 (am_some (inj := (fun r => (.inr (none), r))) hq4 (A_X1_addFour _ (hC.2.2.2.2.2.2.2.2.2.2.2.2.1) _ _ _ 0 (by decide) p4 q3)) rfl rfl rfl rfl rfl ⟨rfl, rfl⟩ ?_
    refine aw_aload_n hC dX8_feed_59 rfl ?_
    refine aw_gfR hC dX8_feed_60 fg_RX8_20 rfl rfl rm_6_0_0 ?_
    refine aw_iload hC dX8_feed_63 rfl ?_
    refine aw_bind rfl (fun q5 hq5 => ?_)
    refine aw_cVv hC dX8_feed_65 cv_RX8_111 rfl rm_0_0_0 (am_some (inj := (fun r => (.inr (none), r))) hq5 (A_X1_addFour _ (hC.2.2.2.2.2.2.2.2.2.2.2.2.1) _ _ _ 0 (by decide) p5 q4)) rfl rfl rfl rfl rfl ⟨rfl, rfl⟩ ?_
    refine aw_aload_n hC dX8_feed_68 rfl ?_
    refine aw_gfR hC dX8_feed_69 fg_RX8_20 rfl rfl rm_6_0_0 ?_
    refine aw_cVi hC dX8_feed_72 cv_RX8_100 rfl rm_0_0_0 (A_X1_length _ (hC.2.2.2.2.2.2.2.2.2.2.2.2.1) _ _ _ 0 (by decide) q5) rfl rfl rfl rfl rfl ⟨rfl, rfl⟩ ?_
    exact aw_ireX hC dX8_feed_75 rfl rfl rfl rfl
  · exact aw_throw0 (text := "the buffer would exceed 400 bytes") (sid := 106) hC hxt dX8_feed_16 dX8_feed_19 dX8_feed_20 dX8_feed_22 dX8_feed_25 tw3_209 tw1_12 (by decide +kernel) rfl rfl rfl rfl rfl rfl rfl
set_option maxHeartbeats 4000000 in
set_option maxRecDepth 100000 in
theorem A_X1_shorten (l : Launch) (hl0 : l.stackTraces = false) (D : va_G) (loc : Rf → Nat) (cy : Nat → ClassId) (o : Nat) (ho : o < 2) (p1 : Int32) (h : HD) : AM l D loc cy yX1_shorten cX1_shorten 2 (none) 0 16 [.ref (loc (0, o, 0)), .int p1] h ((jX1_shorten o p1 h).map (fun r => (.inr (none), r))) := by
  refine am_start (y := yX1_shorten) (av := [.ref (loc (0, o, 0)), .int p1]) (nL := 2) (h := h) (RF := fun (r : Option HD) => r.map (fun r => (.inr (none), r))) (x := jX1_shorten o p1 h) hl0 (by decide +kernel) rfl ?_
  intro p e R s m below meth c A hC
  unfold jX1_shorten
  refine aw_iload_n hC dX1_shorten_0 rfl ?_
  refine aw_if_lt hC dX1_shorten_1 (tgt := 17) (by decide) ?_ ?_
  · exact aw_vret hC dX1_shorten_17 rfl rfl
  · refine aw_iload_n hC dX1_shorten_4 rfl ?_
    refine aw_aload_n hC dX1_shorten_5 rfl ?_
    refine aw_gfI hC dX1_shorten_6 fg_RX1_9 rfl (rv_0_0 ho) ?_
    refine aw_icmp_ge hC dX1_shorten_9 (tgt := 17) (by decide) ?_ ?_
    · exact aw_vret hC dX1_shorten_17 rfl rfl
    · refine aw_aload_n hC dX1_shorten_12 rfl ?_
      refine aw_iload_n hC dX1_shorten_13 rfl ?_
      refine aw_pfI hC dX1_shorten_14 fg_RX1_9 fp_0_1 rfl (rv_0_0 ho) (fun h1 => ?_)
      exact aw_vret hC dX1_shorten_17 rfl rfl
set_option maxHeartbeats 4000000 in
set_option maxRecDepth 100000 in
theorem A_X8_truncate (l : Launch) (hl0 : l.stackTraces = false) (D : va_G) (loc : Rf → Nat) (cy : Nat → ClassId) (p1 : Int32) (h : HD) : AX l D loc cy yX8_truncate (Cond.code yX8_truncate cX8_truncate 2 (some .int) :: LW) 6 100 1 6 [.ref (loc (6, 0, 0)), .int p1] h ((jX8_truncate p1 h).map (fun r => (xi (fun v => some (.int v)) r.1, r.2))) := by
  refine ax_start (y := yX8_truncate) (av := [.ref (loc (6, 0, 0)), .int p1]) (nL := 2) (h := h) (RF := fun (r : Option ((Nat ⊕ Int32) × HD)) => r.map (fun r => (xi (fun v => some (.int v)) r.1, r.2))) (x := jX8_truncate p1 h) hl0 (by decide +kernel) rfl ?_
  intro p e R s m below meth c A hxt hC
  unfold jX8_truncate
  refine aw_iload_n hC dX8_truncate_0 rfl ?_
  refine aw_if_lt hC dX8_truncate_1 (tgt := 15) (by decide) ?_ ?_
  · exact aw_throw1 (text := "no such length of the buffer") (sid := 116) hC hxt dX8_truncate_15 dX8_truncate_18 dX8_truncate_19 dX8_truncate_21 dX8_truncate_24 tw4_48 tw1_13 (by decide +kernel) rfl rfl rfl rfl rfl rfl rfl
  · refine aw_iload_n hC dX8_truncate_4 rfl ?_
    refine aw_aload_n hC dX8_truncate_5 rfl ?_
    refine aw_gfR hC dX8_truncate_6 fg_RX8_20 rfl rfl rm_6_0_0 ?_
    refine aw_cVi hC dX8_truncate_9 cv_RX8_100 rfl rm_0_0_0 (A_X1_length _ (hC.2.2.2.2.2.2.2.2.2.2.2.2.1) _ _ _ 0 (by decide) h) rfl rfl rfl rfl rfl ⟨rfl, rfl⟩ ?_
    refine aw_icmp_le hC dX8_truncate_12 (tgt := 25) (by decide) ?_ ?_
    · refine aw_aload_n hC dX8_truncate_25 rfl ?_
      refine aw_gfR hC dX8_truncate_26 fg_RX8_20 rfl rfl rm_6_0_0 ?_
      refine aw_iload_n hC dX8_truncate_29 rfl ?_
      refine aw_bind rfl (fun q1 hq1 => ?_)
      refine aw_cVv hC dX8_truncate_30 cv_RX8_119 rfl rm_0_0_0 (am_some (inj := (fun r => (.inr (none), r))) hq1 (A_X1_shorten _ (hC.2.2.2.2.2.2.2.2.2.2.2.2.1) _ _ _ 0 (by decide) p1 h)) rfl rfl rfl rfl rfl ⟨rfl, rfl⟩ ?_
      refine aw_iload_n hC dX8_truncate_33 rfl ?_
      exact aw_ireX hC dX8_truncate_34 rfl rfl rfl rfl
    · exact aw_throw1 (text := "no such length of the buffer") (sid := 116) hC hxt dX8_truncate_15 dX8_truncate_18 dX8_truncate_19 dX8_truncate_21 dX8_truncate_24 tw4_48 tw1_13 (by decide +kernel) rfl rfl rfl rfl rfl rfl rfl
set_option maxHeartbeats 4000000 in
set_option maxRecDepth 100000 in
theorem A_X8_errorCode (l : Launch) (hl0 : l.stackTraces = false) (D : va_G) (loc : Rf → Nat) (cy : Nat → ClassId)  (h : HD) : AM l D loc cy yX8_errorCode cX8_errorCode 1 (some .int) 0 16 [.ref (loc (6, 0, 0))] h (some (.inr (some (.int (jX8_errorCode h))), h)) := by
  refine am_start (y := yX8_errorCode) (av := [.ref (loc (6, 0, 0))]) (nL := 1) (h := h) (RF := fun (r : Int32) => some (.inr (some (.int r)), h)) (x := jX8_errorCode h) hl0 (by decide +kernel) rfl ?_
  intro p e R s m below meth c A hC
  unfold jX8_errorCode
  refine aw_aload_n hC dX8_errorCode_0 rfl ?_
  refine aw_gfI hC dX8_errorCode_1 fg_RX8_94 rfl rm_6_0_0 ?_
  exact aw_iret hC dX8_errorCode_4 rfl rfl
set_option maxHeartbeats 4000000 in
set_option maxRecDepth 100000 in
theorem A_X8_errorPosition (l : Launch) (hl0 : l.stackTraces = false) (D : va_G) (loc : Rf → Nat) (cy : Nat → ClassId)  (h : HD) : AM l D loc cy yX8_errorPosition cX8_errorPosition 1 (some .int) 0 16 [.ref (loc (6, 0, 0))] h (some (.inr (some (.int (jX8_errorPosition h))), h)) := by
  refine am_start (y := yX8_errorPosition) (av := [.ref (loc (6, 0, 0))]) (nL := 1) (h := h) (RF := fun (r : Int32) => some (.inr (some (.int r)), h)) (x := jX8_errorPosition h) hl0 (by decide +kernel) rfl ?_
  intro p e R s m below meth c A hC
  unfold jX8_errorPosition
  refine aw_aload_n hC dX8_errorPosition_0 rfl ?_
  refine aw_gfI hC dX8_errorPosition_1 fg_RX8_97 rfl rm_6_0_0 ?_
  exact aw_iret hC dX8_errorPosition_4 rfl rfl
set_option maxHeartbeats 4000000 in
set_option maxRecDepth 100000 in
theorem A_X6_wrongCode (l : Launch) (hl0 : l.stackTraces = false) (D : va_G) (loc : Rf → Nat) (cy : Nat → ClassId)  (h : HD) : AM l D loc cy yX6_wrongCode cX6_wrongCode 1 (some .int) 0 16 [.ref (loc (4, 0, 0))] h (some (.inr (some (.int (jX6_wrongCode h))), h)) := by
  refine am_start (y := yX6_wrongCode) (av := [.ref (loc (4, 0, 0))]) (nL := 1) (h := h) (RF := fun (r : Int32) => some (.inr (some (.int r)), h)) (x := jX6_wrongCode h) hl0 (by decide +kernel) rfl ?_
  intro p e R s m below meth c A hC
  unfold jX6_wrongCode
  refine aw_aload_n hC dX6_wrongCode_0 rfl ?_
  refine aw_gfI hC dX6_wrongCode_1 fg_RX6_40 rfl rm_4_0_0 ?_
  exact aw_iret hC dX6_wrongCode_4 rfl rfl
set_option maxHeartbeats 4000000 in
set_option maxRecDepth 100000 in
theorem A_X6_wrongPosition (l : Launch) (hl0 : l.stackTraces = false) (D : va_G) (loc : Rf → Nat) (cy : Nat → ClassId)  (h : HD) : AM l D loc cy yX6_wrongPosition cX6_wrongPosition 1 (some .int) 0 16 [.ref (loc (4, 0, 0))] h (some (.inr (some (.int (jX6_wrongPosition h))), h)) := by
  refine am_start (y := yX6_wrongPosition) (av := [.ref (loc (4, 0, 0))]) (nL := 1) (h := h) (RF := fun (r : Int32) => some (.inr (some (.int r)), h)) (x := jX6_wrongPosition h) hl0 (by decide +kernel) rfl ?_
  intro p e R s m below meth c A hC
  unfold jX6_wrongPosition
  refine aw_aload_n hC dX6_wrongPosition_0 rfl ?_
  refine aw_gfI hC dX6_wrongPosition_1 fg_RX6_43 rfl rm_4_0_0 ?_
  exact aw_iret hC dX6_wrongPosition_4 rfl rfl
set_option maxHeartbeats 4000000 in
set_option maxRecDepth 100000 in
theorem A_X8_endReading (l : Launch) (hl0 : l.stackTraces = false) (D : va_G) (loc : Rf → Nat) (cy : Nat → ClassId)  (h : HD) : AM l D loc cy yX8_endReading cX8_endReading 1 (none) 1 37 [.ref (loc (6, 0, 0))] h ((jX8_endReading h).map (fun r => (.inr (none), r))) := by
  refine am_start (y := yX8_endReading) (av := [.ref (loc (6, 0, 0))]) (nL := 1) (h := h) (RF := fun (r : Option HD) => r.map (fun r => (.inr (none), r))) (x := jX8_endReading h) hl0 (by decide +kernel) rfl ?_
  intro p e R s m below meth c A hC
  unfold jX8_endReading
  refine aw_aload_n hC dX8_endReading_0 rfl ?_
  refine aw_aload_n hC dX8_endReading_1 rfl ?_
  refine aw_gfR hC dX8_endReading_2 fg_RX8_12 rfl rfl rm_6_0_0 ?_
  refine aw_cVi hC dX8_endReading_5 cv_RX8_158 rfl rm_4_0_0 (A_X6_wrongCode _ (hC.2.2.2.2.2.2.2.2.2.2.2.2.1) _ _ _ h) rfl rfl rfl rfl rfl ⟨rfl, rfl⟩ ?_
  refine aw_pfI hC dX8_endReading_8 fg_RX8_94 fp_6_17 rfl rm_6_0_0 (fun h1 => ?_)
  refine aw_aload_n hC dX8_endReading_11 rfl ?_
  refine aw_aload_n hC dX8_endReading_12 rfl ?_
  refine aw_gfR hC dX8_endReading_13 fg_RX8_12 rfl rfl rm_6_0_0 ?_
  refine aw_cVi hC dX8_endReading_16 cv_RX8_161 rfl rm_4_0_0 (A_X6_wrongPosition _ (hC.2.2.2.2.2.2.2.2.2.2.2.2.1) _ _ _ h1) rfl rfl rfl rfl rfl ⟨rfl, rfl⟩ ?_
  refine aw_pfI hC dX8_endReading_19 fg_RX8_97 fp_6_18 rfl rm_6_0_0 (fun h2 => ?_)
  refine aw_aload_n hC dX8_endReading_22 rfl ?_
  refine aw_gfR hC dX8_endReading_23 fg_RX8_20 rfl rfl rm_6_0_0 ?_
  refine aw_iconst hC dX8_endReading_26 (v := 0) (by decide) ?_
  refine aw_bind rfl (fun q3 hq3 => ?_)
  refine aw_cVv hC dX8_endReading_27 cv_RX8_119 rfl rm_0_0_0 (am_some (inj := (fun r => (.inr (none), r))) hq3 (A_X1_shorten _ (hC.2.2.2.2.2.2.2.2.2.2.2.2.1) _ _ _ 0 (by decide) (0 : Int32) h2)) rfl rfl rfl rfl rfl ⟨rfl, rfl⟩ ?_
  exact aw_vret hC dX8_endReading_30 rfl rfl
set_option maxHeartbeats 4000000 in
set_option maxRecDepth 100000 in
theorem A_X1_at (l : Launch) (hl0 : l.stackTraces = false) (D : va_G) (loc : Rf → Nat) (cy : Nat → ClassId) (o : Nat) (ho : o < 2) (p1 : Int32) (h : HD) : AM l D loc cy yX1_at cX1_at 2 (some .int) 0 16 [.ref (loc (0, o, 0)), .int p1] h ((jX1_at o p1 h).map (fun r => (.inr (some (.int r)), h))) := by
  refine am_start (y := yX1_at) (av := [.ref (loc (0, o, 0)), .int p1]) (nL := 2) (h := h) (RF := fun (r : Option Int32) => r.map (fun r => (.inr (some (.int r)), h))) (x := jX1_at o p1 h) hl0 (by decide +kernel) rfl ?_
  intro p e R s m below meth c A hC
  unfold jX1_at
  refine aw_iload_n hC dX1_at_0 rfl ?_
  refine aw_if_lt hC dX1_at_1 (tgt := 30) (by decide) ?_ ?_
  · refine aw_iconst hC dX1_at_30 (v := -1) (by decide) ?_
    exact aw_iret hC dX1_at_31 rfl rfl
  · refine aw_iload_n hC dX1_at_4 rfl ?_
    refine aw_aload_n hC dX1_at_5 rfl ?_
    refine aw_gfI hC dX1_at_6 fg_RX1_9 rfl (rv_0_0 ho) ?_
    refine aw_icmp_ge hC dX1_at_9 (tgt := 30) (by decide) ?_ ?_
    · refine aw_iconst hC dX1_at_30 (v := -1) (by decide) ?_
      exact aw_iret hC dX1_at_31 rfl rfl
    · refine aw_iload_n hC dX1_at_12 rfl ?_
      refine aw_aload_n hC dX1_at_13 rfl ?_
      refine aw_gfR hC dX1_at_14 fg_RX1_15 rfl rfl (rv_0_0 ho) ?_
      refine aw_alen hC dX1_at_17 (rv_0_1 ho) rfl rfl rfl rfl ?_
      refine aw_icmp_ge hC dX1_at_18 (tgt := 30) (by decide) ?_ ?_
      · refine aw_iconst hC dX1_at_30 (v := -1) (by decide) ?_
        exact aw_iret hC dX1_at_31 rfl rfl
      · refine aw_aload_n hC dX1_at_21 rfl ?_
        refine aw_gfR hC dX1_at_22 fg_RX1_15 rfl rfl (rv_0_0 ho) ?_
        refine aw_iload_n hC dX1_at_25 rfl ?_
        refine aw_guard rfl (fun g1 => ?_)
        refine aw_bald hC dX1_at_26 (rv_0_1 ho) rfl rfl g1 rfl ?_
        refine aw_goto hC dX1_at_27 (tgt := 31) (by decide) ?_
        exact aw_iret hC dX1_at_31 rfl rfl
set_option maxHeartbeats 4000000 in
set_option maxRecDepth 100000 in
theorem A_X8_isLetter (l : Launch) (hl0 : l.stackTraces = false) (D : va_G) (loc : Rf → Nat) (cy : Nat → ClassId) (p1 : Int32) (h : HD) : AM l D loc cy yX8_isLetter cX8_isLetter 1 (some .boolean) 0 16 [.int p1] h (some (.inr (some (.int (b2i (jX8_isLetter p1 h)))), h)) := by
  refine am_start (y := yX8_isLetter) (av := [.int p1]) (nL := 1) (h := h) (RF := fun (r : Bool) => some (.inr (some (.int (b2i r))), h)) (x := jX8_isLetter p1 h) hl0 (by decide +kernel) rfl ?_
  intro p e R s m below meth c A hC
  unfold jX8_isLetter
  refine aw_iload_n hC dX8_isLetter_0 rfl ?_
  refine aw_bipush hC dX8_isLetter_1 (v := 97) (by decide) ?_
  refine aw_icmp_lt hC dX8_isLetter_3 (tgt := 16) (by decide) ?_ ?_
  · refine aw_iconst hC dX8_isLetter_16 (v := 0) (by decide) ?_
    exact aw_zret hC dX8_isLetter_17 rfl (show _ = b2i false from rfl) rfl
  · refine aw_iload_n hC dX8_isLetter_6 rfl ?_
    refine aw_bipush hC dX8_isLetter_7 (v := 122) (by decide) ?_
    refine aw_icmp_gt hC dX8_isLetter_9 (tgt := 16) (by decide) ?_ ?_
    · refine aw_iconst hC dX8_isLetter_16 (v := 0) (by decide) ?_
      exact aw_zret hC dX8_isLetter_17 rfl (show _ = b2i false from rfl) rfl
    · refine aw_iconst hC dX8_isLetter_12 (v := 1) (by decide) ?_
      refine aw_goto hC dX8_isLetter_13 (tgt := 17) (by decide) ?_
      exact aw_zret hC dX8_isLetter_17 rfl (show _ = b2i true from rfl) rfl
set_option maxHeartbeats 4000000 in
set_option maxRecDepth 100000 in
theorem A_X8_withLetter (l : Launch) (hl0 : l.stackTraces = false) (D : va_G) (loc : Rf → Nat) (cy : Nat → ClassId) (p1 : Int64) (p2 : Int32) (p3 : Int32) (h : HD) : AM l D loc cy yX8_withLetter cX8_withLetter 4 (some .long) 0 16 [.long p1, .int p2, .int p3] h (some (.inr (some (.long (jX8_withLetter p1 p2 p3 h))), h)) := by
  refine am_start (y := yX8_withLetter) (av := [.long p1, .int p2, .int p3]) (nL := 4) (h := h) (RF := fun (r : Int64) => some (.inr (some (.long r)), h)) (x := jX8_withLetter p1 p2 p3 h) hl0 (by decide +kernel) rfl ?_
  intro p e R s m below meth c A hC
  unfold jX8_withLetter
  refine aw_lload_n hC dX8_withLetter_0 rfl ?_
  refine aw_iload_n hC dX8_withLetter_1 rfl ?_
  refine aw_i2l hC dX8_withLetter_2 ?_
  refine aw_iconst hC dX8_withLetter_3 (v := 5) (by decide) ?_
  refine aw_bipush hC dX8_withLetter_4 (v := 7) (by decide) ?_
  refine aw_iload_n hC dX8_withLetter_6 rfl ?_
  refine aw_isub hC dX8_withLetter_7 ?_
  refine aw_imul hC dX8_withLetter_8 ?_
  refine aw_lshl hC dX8_withLetter_9 ?_
  refine aw_lor hC dX8_withLetter_10 ?_
  exact aw_lret hC dX8_withLetter_11 rfl rfl
set_option maxHeartbeats 4000000 in
set_option maxRecDepth 100000 in
theorem L_X6_takeWord_5 (k99 : HD → Option HD) (hC : Cx p l e R s m args meth c D loc cy A cX6_takeWord 1 (none) RX6 1 39 0 0) (hk99 : ∀  (h2 : HD), AW p l e R s m args below meth c D loc cy A 1 (QM below D loc cy A args s) (fun (r : Option HD) => r.map (fun r => (.inr (none), r))) (0, 0) 99 [(0, .ref (loc (4, 0, 0)))] [] h2 (k99  h2)) : ∀ (n5 : Nat)  (h : HD), AW p l e R s m args below meth c D loc cy A 1 (QM below D loc cy A args s) (fun (r : Option HD) => r.map (fun r => (.inr (none), r))) (0, 0) 5 [(0, .ref (loc (4, 0, 0)))] [] h (jX6_takeWord_L5 k99 n5 h) := by
  intro n5
  induction n5 with
  | zero => intro h; exact aw_none rfl
  | succ n5 ih5 =>
    intro h
    rw [jX6_takeWord_L5]
    refine aw_aload_n hC dX6_takeWord_5 rfl ?_
    refine aw_gfI hC dX6_takeWord_6 fg_RX6_27 rfl rm_4_0_0 ?_
    refine aw_aload_n hC dX6_takeWord_9 rfl ?_
    refine aw_gfR hC dX6_takeWord_10 fg_RX6_14 rfl rfl rm_4_0_0 ?_
    refine aw_cVi hC dX6_takeWord_13 cv_RX6_46 rfl rm_0_0_0 (A_X1_length _ (hC.2.2.2.2.2.2.2.2.2.2.2.2.1) _ _ _ 0 (by decide) h) rfl rfl rfl rfl rfl ⟨rfl, rfl⟩ ?_
    refine aw_icmp_ge hC dX6_takeWord_16 (tgt := 99) (by decide) ?_ ?_
    · refine aw_sub [0] ?_
      exact hk99 h
    · refine aw_aload_n hC dX6_takeWord_19 rfl ?_
      refine aw_gfR hC dX6_takeWord_20 fg_RX6_14 rfl rfl rm_4_0_0 ?_
      refine aw_aload_n hC dX6_takeWord_23 rfl ?_
      refine aw_gfI hC dX6_takeWord_24 fg_RX6_27 rfl rm_4_0_0 ?_
      refine aw_bind rfl (fun q2 hq2 => ?_)
      refine aw_cVi hC dX6_takeWord_27 cv_RX6_50 rfl rm_0_0_0 (am_some (inj := (fun r => (.inr (some (.int r)), h))) hq2 (A_X1_at _ (hC.2.2.2.2.2.2.2.2.2.2.2.2.1) _ _ _ 0 (by decide) (gI h (4, 0, 0) 3) h)) rfl rfl rfl rfl rfl ⟨rfl, rfl⟩ ?_
      refine aw_cNb hC dX6_takeWord_30 cv_RX6_54 (A_X8_isLetter _ (hC.2.2.2.2.2.2.2.2.2.2.2.2.1) _ _ _ q2 h) rfl rfl rfl rfl rfl ⟨rfl, rfl⟩ ?_
      refine aw_if_eq_b hC dX6_takeWord_33 (tgt := 99) (by decide) ?_ ?_
      · refine aw_sub [0] ?_
        exact hk99 h
      · refine aw_aload_n hC dX6_takeWord_36 rfl ?_
        refine aw_gfI hC dX6_takeWord_37 fg_RX6_27 rfl rm_4_0_0 ?_
        refine aw_aload_n hC dX6_takeWord_40 rfl ?_
        refine aw_gfI hC dX6_takeWord_41 fg_RX6_24 rfl rm_4_0_0 ?_
        refine aw_isub hC dX6_takeWord_44 ?_
        refine aw_bipush hC dX6_takeWord_45 (v := 8) (by decide) ?_
        refine aw_icmp_ge hC dX6_takeWord_47 (tgt := 86) (by decide) ?_ ?_
        · refine aw_aload_n hC dX6_takeWord_86 rfl ?_
          refine aw_dup hC dX6_takeWord_87 rfl ?_
          refine aw_gfI hC dX6_takeWord_88 fg_RX6_27 rfl rm_4_0_0 ?_
          refine aw_iconst hC dX6_takeWord_91 (v := 1) (by decide) ?_
          refine aw_iadd hC dX6_takeWord_92 ?_
          refine aw_pfI hC dX6_takeWord_93 fg_RX6_27 fp_4_3 rfl rm_4_0_0 (fun h3 => ?_)
          refine aw_goto hC dX6_takeWord_96 (tgt := 5) (by decide) ?_
          refine aw_sub [0] ?_
          exact ih5 h3
        · refine aw_aload_n hC dX6_takeWord_50 rfl ?_
          refine aw_aload_n hC dX6_takeWord_51 rfl ?_
          refine aw_gfJ hC dX6_takeWord_52 fg_RX6_30 rfl rm_4_0_0 ?_
          refine aw_aload_n hC dX6_takeWord_55 rfl ?_
          refine aw_gfI hC dX6_takeWord_56 fg_RX6_27 rfl rm_4_0_0 ?_
          refine aw_aload_n hC dX6_takeWord_59 rfl ?_
          refine aw_gfI hC dX6_takeWord_60 fg_RX6_24 rfl rm_4_0_0 ?_
          refine aw_isub hC dX6_takeWord_63 ?_
          refine aw_aload_n hC dX6_takeWord_64 rfl ?_
          refine aw_gfR hC dX6_takeWord_65 fg_RX6_14 rfl rfl rm_4_0_0 ?_
          refine aw_aload_n hC dX6_takeWord_68 rfl ?_
          refine aw_gfI hC dX6_takeWord_69 fg_RX6_27 rfl rm_4_0_0 ?_
          refine aw_bind rfl (fun q4 hq4 => ?_)
          refine aw_cVi hC dX6_takeWord_72 cv_RX6_50 rfl rm_0_0_0 (am_some (inj := (fun r => (.inr (some (.int r)), h))) hq4 (A_X1_at _ (hC.2.2.2.2.2.2.2.2.2.2.2.2.1) _ _ _ 0 (by decide) (gI h (4, 0, 0) 3) h)) rfl rfl rfl rfl rfl ⟨rfl, rfl⟩ ?_
          refine aw_bipush hC dX6_takeWord_75 (v := 97) (by decide) ?_
          refine aw_isub hC dX6_takeWord_77 ?_
          refine aw_iconst hC dX6_takeWord_78 (v := 1) (by decide) ?_
          refine aw_iadd hC dX6_takeWord_79 ?_
          refine aw_cNj hC dX6_takeWord_80 cv_RX6_67 (A_X8_withLetter _ (hC.2.2.2.2.2.2.2.2.2.2.2.2.1) _ _ _ (gJ h (4, 0, 0) 4) ((gI h (4, 0, 0) 3) - (gI h (4, 0, 0) 2)) ((q4 - (97 : Int32)) + (1 : Int32)) h) rfl rfl rfl rfl rfl ⟨rfl, rfl⟩ ?_
          refine aw_pfJ hC dX6_takeWord_83 fg_RX6_30 fp_4_4 rfl rm_4_0_0 (fun h5 => ?_)
          refine aw_aload_n hC dX6_takeWord_86 rfl ?_
          refine aw_dup hC dX6_takeWord_87 rfl ?_
          refine aw_gfI hC dX6_takeWord_88 fg_RX6_27 rfl rm_4_0_0 ?_
          refine aw_iconst hC dX6_takeWord_91 (v := 1) (by decide) ?_
          refine aw_iadd hC dX6_takeWord_92 ?_
          refine aw_pfI hC dX6_takeWord_93 fg_RX6_27 fp_4_3 rfl rm_4_0_0 (fun h6 => ?_)
          refine aw_goto hC dX6_takeWord_96 (tgt := 5) (by decide) ?_
          refine aw_sub [0] ?_
          exact ih5 h6
set_option maxHeartbeats 4000000 in
set_option maxRecDepth 100000 in
theorem A_X6_takeWord (l : Launch) (hl0 : l.stackTraces = false) (D : va_G) (loc : Rf → Nat) (cy : Nat → ClassId)  (h : HD) : AM l D loc cy yX6_takeWord cX6_takeWord 1 (none) 1 39 [.ref (loc (4, 0, 0))] h ((jX6_takeWord h).map (fun r => (.inr (none), r))) := by
  refine am_start (y := yX6_takeWord) (av := [.ref (loc (4, 0, 0))]) (nL := 1) (h := h) (RF := fun (r : Option HD) => r.map (fun r => (.inr (none), r))) (x := jX6_takeWord h) hl0 (by decide +kernel) rfl ?_
  intro p e R s m below meth c A hC
  unfold jX6_takeWord
  refine aw_aload_n hC dX6_takeWord_0 rfl ?_
  refine aw_lconst hC dX6_takeWord_1 (v := 0) (by decide) ?_
  refine aw_pfJ hC dX6_takeWord_2 fg_RX6_30 fp_4_4 rfl rm_4_0_0 (fun h1 => ?_)
  refine aw_sub [0] ?_
  refine L_X6_takeWord_5  _ hC ?_ FU h1
  · intro h7
    refine aw_aload_n hC dX6_takeWord_99 rfl ?_
    refine aw_aload_n hC dX6_takeWord_100 rfl ?_
    refine aw_gfI hC dX6_takeWord_101 fg_RX6_27 rfl rm_4_0_0 ?_
    refine aw_aload_n hC dX6_takeWord_104 rfl ?_
    refine aw_gfI hC dX6_takeWord_105 fg_RX6_24 rfl rm_4_0_0 ?_
    refine aw_isub hC dX6_takeWord_108 ?_
    refine aw_bipush hC dX6_takeWord_109 (v := 8) (by decide) ?_
    refine aw_icmp_le hC dX6_takeWord_111 (tgt := 118) (by decide) ?_ ?_
    · refine aw_iconst hC dX6_takeWord_118 (v := 1) (by decide) ?_
      refine aw_pfI hC dX6_takeWord_119 fg_RX6_20 fp_4_1 rfl rm_4_0_0 (fun h8 => ?_)
      exact aw_vret hC dX6_takeWord_122 rfl rfl
    · refine aw_iconst hC dX6_takeWord_114 (v := 4) (by decide) ?_
      refine aw_goto hC dX6_takeWord_115 (tgt := 119) (by decide) ?_
      refine aw_pfI hC dX6_takeWord_119 fg_RX6_20 fp_4_1 rfl rm_4_0_0 (fun h9 => ?_)
      exact aw_vret hC dX6_takeWord_122 rfl rfl
set_option maxHeartbeats 4000000 in
set_option maxRecDepth 100000 in
theorem A_X8_isDigit (l : Launch) (hl0 : l.stackTraces = false) (D : va_G) (loc : Rf → Nat) (cy : Nat → ClassId) (p1 : Int32) (h : HD) : AM l D loc cy yX8_isDigit cX8_isDigit 1 (some .boolean) 0 16 [.int p1] h (some (.inr (some (.int (b2i (jX8_isDigit p1 h)))), h)) := by
  refine am_start (y := yX8_isDigit) (av := [.int p1]) (nL := 1) (h := h) (RF := fun (r : Bool) => some (.inr (some (.int (b2i r))), h)) (x := jX8_isDigit p1 h) hl0 (by decide +kernel) rfl ?_
  intro p e R s m below meth c A hC
  unfold jX8_isDigit
  refine aw_iload_n hC dX8_isDigit_0 rfl ?_
  refine aw_bipush hC dX8_isDigit_1 (v := 48) (by decide) ?_
  refine aw_icmp_lt hC dX8_isDigit_3 (tgt := 16) (by decide) ?_ ?_
  · refine aw_iconst hC dX8_isDigit_16 (v := 0) (by decide) ?_
    exact aw_zret hC dX8_isDigit_17 rfl (show _ = b2i false from rfl) rfl
  · refine aw_iload_n hC dX8_isDigit_6 rfl ?_
    refine aw_bipush hC dX8_isDigit_7 (v := 57) (by decide) ?_
    refine aw_icmp_gt hC dX8_isDigit_9 (tgt := 16) (by decide) ?_ ?_
    · refine aw_iconst hC dX8_isDigit_16 (v := 0) (by decide) ?_
      exact aw_zret hC dX8_isDigit_17 rfl (show _ = b2i false from rfl) rfl
    · refine aw_iconst hC dX8_isDigit_12 (v := 1) (by decide) ?_
      refine aw_goto hC dX8_isDigit_13 (tgt := 17) (by decide) ?_
      exact aw_zret hC dX8_isDigit_17 rfl (show _ = b2i true from rfl) rfl
set_option maxHeartbeats 4000000 in
set_option maxRecDepth 100000 in
theorem L_X6_takeNumber_5 (k88 : HD → Option HD) (hC : Cx p l e R s m args meth c D loc cy A cX6_takeNumber 1 (none) RX6 1 37 0 0) (hk88 : ∀  (h2 : HD), AW p l e R s m args below meth c D loc cy A 1 (QM below D loc cy A args s) (fun (r : Option HD) => r.map (fun r => (.inr (none), r))) (0, 0) 88 [(0, .ref (loc (4, 0, 0)))] [] h2 (k88  h2)) : ∀ (n5 : Nat)  (h : HD), AW p l e R s m args below meth c D loc cy A 1 (QM below D loc cy A args s) (fun (r : Option HD) => r.map (fun r => (.inr (none), r))) (0, 0) 5 [(0, .ref (loc (4, 0, 0)))] [] h (jX6_takeNumber_L5 k88 n5 h) := by
  intro n5
  induction n5 with
  | zero => intro h; exact aw_none rfl
  | succ n5 ih5 =>
    intro h
    rw [jX6_takeNumber_L5]
    refine aw_aload_n hC dX6_takeNumber_5 rfl ?_
    refine aw_gfI hC dX6_takeNumber_6 fg_RX6_27 rfl rm_4_0_0 ?_
    refine aw_aload_n hC dX6_takeNumber_9 rfl ?_
    refine aw_gfR hC dX6_takeNumber_10 fg_RX6_14 rfl rfl rm_4_0_0 ?_
    refine aw_cVi hC dX6_takeNumber_13 cv_RX6_46 rfl rm_0_0_0 (A_X1_length _ (hC.2.2.2.2.2.2.2.2.2.2.2.2.1) _ _ _ 0 (by decide) h) rfl rfl rfl rfl rfl ⟨rfl, rfl⟩ ?_
    refine aw_icmp_ge hC dX6_takeNumber_16 (tgt := 88) (by decide) ?_ ?_
    · refine aw_sub [0] ?_
      exact hk88 h
    · refine aw_aload_n hC dX6_takeNumber_19 rfl ?_
      refine aw_gfR hC dX6_takeNumber_20 fg_RX6_14 rfl rfl rm_4_0_0 ?_
      refine aw_aload_n hC dX6_takeNumber_23 rfl ?_
      refine aw_gfI hC dX6_takeNumber_24 fg_RX6_27 rfl rm_4_0_0 ?_
      refine aw_bind rfl (fun q2 hq2 => ?_)
      refine aw_cVi hC dX6_takeNumber_27 cv_RX6_50 rfl rm_0_0_0 (am_some (inj := (fun r => (.inr (some (.int r)), h))) hq2 (A_X1_at _ (hC.2.2.2.2.2.2.2.2.2.2.2.2.1) _ _ _ 0 (by decide) (gI h (4, 0, 0) 3) h)) rfl rfl rfl rfl rfl ⟨rfl, rfl⟩ ?_
      refine aw_cNb hC dX6_takeNumber_30 cv_RX6_61 (A_X8_isDigit _ (hC.2.2.2.2.2.2.2.2.2.2.2.2.1) _ _ _ q2 h) rfl rfl rfl rfl rfl ⟨rfl, rfl⟩ ?_
      refine aw_if_eq_b hC dX6_takeNumber_33 (tgt := 88) (by decide) ?_ ?_
      · refine aw_sub [0] ?_
        exact hk88 h
      · refine aw_aload_n hC dX6_takeNumber_36 rfl ?_
        refine aw_gfI hC dX6_takeNumber_37 fg_RX6_27 rfl rm_4_0_0 ?_
        refine aw_aload_n hC dX6_takeNumber_40 rfl ?_
        refine aw_gfI hC dX6_takeNumber_41 fg_RX6_24 rfl rm_4_0_0 ?_
        refine aw_isub hC dX6_takeNumber_44 ?_
        refine aw_iconst hC dX6_takeNumber_45 (v := 3) (by decide) ?_
        refine aw_icmp_ge hC dX6_takeNumber_46 (tgt := 75) (by decide) ?_ ?_
        · refine aw_aload_n hC dX6_takeNumber_75 rfl ?_
          refine aw_dup hC dX6_takeNumber_76 rfl ?_
          refine aw_gfI hC dX6_takeNumber_77 fg_RX6_27 rfl rm_4_0_0 ?_
          refine aw_iconst hC dX6_takeNumber_80 (v := 1) (by decide) ?_
          refine aw_iadd hC dX6_takeNumber_81 ?_
          refine aw_pfI hC dX6_takeNumber_82 fg_RX6_27 fp_4_3 rfl rm_4_0_0 (fun h3 => ?_)
          refine aw_goto hC dX6_takeNumber_85 (tgt := 5) (by decide) ?_
          refine aw_sub [0] ?_
          exact ih5 h3
        · refine aw_aload_n hC dX6_takeNumber_49 rfl ?_
          refine aw_bipush hC dX6_takeNumber_50 (v := 10) (by decide) ?_
          refine aw_aload_n hC dX6_takeNumber_52 rfl ?_
          refine aw_gfI hC dX6_takeNumber_53 fg_RX6_34 rfl rm_4_0_0 ?_
          refine aw_imul hC dX6_takeNumber_56 ?_
          refine aw_aload_n hC dX6_takeNumber_57 rfl ?_
          refine aw_gfR hC dX6_takeNumber_58 fg_RX6_14 rfl rfl rm_4_0_0 ?_
          refine aw_aload_n hC dX6_takeNumber_61 rfl ?_
          refine aw_gfI hC dX6_takeNumber_62 fg_RX6_27 rfl rm_4_0_0 ?_
          refine aw_bind rfl (fun q4 hq4 => ?_)
          refine aw_cVi hC dX6_takeNumber_65 cv_RX6_50 rfl rm_0_0_0 (am_some (inj := (fun r => (.inr (some (.int r)), h))) hq4 (A_X1_at _ (hC.2.2.2.2.2.2.2.2.2.2.2.2.1) _ _ _ 0 (by decide) (gI h (4, 0, 0) 3) h)) rfl rfl rfl rfl rfl ⟨rfl, rfl⟩ ?_
          refine aw_bipush hC dX6_takeNumber_68 (v := 48) (by decide) ?_
          refine aw_isub hC dX6_takeNumber_70 ?_
          refine aw_iadd hC dX6_takeNumber_71 ?_
          refine aw_pfI hC dX6_takeNumber_72 fg_RX6_34 fp_4_5 rfl rm_4_0_0 (fun h5 => ?_)
          refine aw_aload_n hC dX6_takeNumber_75 rfl ?_
          refine aw_dup hC dX6_takeNumber_76 rfl ?_
          refine aw_gfI hC dX6_takeNumber_77 fg_RX6_27 rfl rm_4_0_0 ?_
          refine aw_iconst hC dX6_takeNumber_80 (v := 1) (by decide) ?_
          refine aw_iadd hC dX6_takeNumber_81 ?_
          refine aw_pfI hC dX6_takeNumber_82 fg_RX6_27 fp_4_3 rfl rm_4_0_0 (fun h6 => ?_)
          refine aw_goto hC dX6_takeNumber_85 (tgt := 5) (by decide) ?_
          refine aw_sub [0] ?_
          exact ih5 h6
set_option maxHeartbeats 4000000 in
set_option maxRecDepth 100000 in
theorem A_X6_takeNumber (l : Launch) (hl0 : l.stackTraces = false) (D : va_G) (loc : Rf → Nat) (cy : Nat → ClassId)  (h : HD) : AM l D loc cy yX6_takeNumber cX6_takeNumber 1 (none) 1 37 [.ref (loc (4, 0, 0))] h ((jX6_takeNumber h).map (fun r => (.inr (none), r))) := by
  refine am_start (y := yX6_takeNumber) (av := [.ref (loc (4, 0, 0))]) (nL := 1) (h := h) (RF := fun (r : Option HD) => r.map (fun r => (.inr (none), r))) (x := jX6_takeNumber h) hl0 (by decide +kernel) rfl ?_
  intro p e R s m below meth c A hC
  unfold jX6_takeNumber
  refine aw_aload_n hC dX6_takeNumber_0 rfl ?_
  refine aw_iconst hC dX6_takeNumber_1 (v := 0) (by decide) ?_
  refine aw_pfI hC dX6_takeNumber_2 fg_RX6_34 fp_4_5 rfl rm_4_0_0 (fun h1 => ?_)
  refine aw_sub [0] ?_
  refine L_X6_takeNumber_5  _ hC ?_ FU h1
  · intro h7
    refine aw_aload_n hC dX6_takeNumber_88 rfl ?_
    refine aw_aload_n hC dX6_takeNumber_89 rfl ?_
    refine aw_gfI hC dX6_takeNumber_90 fg_RX6_27 rfl rm_4_0_0 ?_
    refine aw_aload_n hC dX6_takeNumber_93 rfl ?_
    refine aw_gfI hC dX6_takeNumber_94 fg_RX6_24 rfl rm_4_0_0 ?_
    refine aw_isub hC dX6_takeNumber_97 ?_
    refine aw_iconst hC dX6_takeNumber_98 (v := 3) (by decide) ?_
    refine aw_icmp_le hC dX6_takeNumber_99 (tgt := 106) (by decide) ?_ ?_
    · refine aw_iconst hC dX6_takeNumber_106 (v := 2) (by decide) ?_
      refine aw_pfI hC dX6_takeNumber_107 fg_RX6_20 fp_4_1 rfl rm_4_0_0 (fun h8 => ?_)
      exact aw_vret hC dX6_takeNumber_110 rfl rfl
    · refine aw_iconst hC dX6_takeNumber_102 (v := 4) (by decide) ?_
      refine aw_goto hC dX6_takeNumber_103 (tgt := 107) (by decide) ?_
      refine aw_pfI hC dX6_takeNumber_107 fg_RX6_20 fp_4_1 rfl rm_4_0_0 (fun h9 => ?_)
      exact aw_vret hC dX6_takeNumber_110 rfl rfl
set_option maxHeartbeats 4000000 in
set_option maxRecDepth 100000 in
theorem L_X6_advance_0 (k59 : HD → Option HD) (hC : Cx p l e R s m args meth c D loc cy A cX6_advance 2 (none) RX6 2 59 0 0) (hk59 : ∀  (h2 : HD), AW p l e R s m args below meth c D loc cy A 2 (QM below D loc cy A args s) (fun (r : Option HD) => r.map (fun r => (.inr (none), r))) (0, 0) 59 [(0, .ref (loc (4, 0, 0)))] [] h2 (k59  h2)) : ∀ (n0 : Nat)  (h : HD), AW p l e R s m args below meth c D loc cy A 2 (QM below D loc cy A args s) (fun (r : Option HD) => r.map (fun r => (.inr (none), r))) (0, 0) 0 [(0, .ref (loc (4, 0, 0)))] [] h (jX6_advance_L0 k59 n0 h) := by
  intro n0
  induction n0 with
  | zero => intro h; exact aw_none rfl
  | succ n0 ih0 =>
    intro h
    rw [jX6_advance_L0]
    refine aw_aload_n hC dX6_advance_0 rfl ?_
    refine aw_gfI hC dX6_advance_1 fg_RX6_27 rfl rm_4_0_0 ?_
    refine aw_aload_n hC dX6_advance_4 rfl ?_
    refine aw_gfR hC dX6_advance_5 fg_RX6_14 rfl rfl rm_4_0_0 ?_
    refine aw_cVi hC dX6_advance_8 cv_RX6_46 rfl rm_0_0_0 (A_X1_length _ (hC.2.2.2.2.2.2.2.2.2.2.2.2.1) _ _ _ 0 (by decide) h) rfl rfl rfl rfl rfl ⟨rfl, rfl⟩ ?_
    refine aw_icmp_ge hC dX6_advance_11 (tgt := 59) (by decide) ?_ ?_
    · refine aw_sub [0] ?_
      exact hk59 h
    · refine aw_aload_n hC dX6_advance_14 rfl ?_
      refine aw_gfR hC dX6_advance_15 fg_RX6_14 rfl rfl rm_4_0_0 ?_
      refine aw_aload_n hC dX6_advance_18 rfl ?_
      refine aw_gfI hC dX6_advance_19 fg_RX6_27 rfl rm_4_0_0 ?_
      refine aw_bind rfl (fun q1 hq1 => ?_)
      refine aw_cVi hC dX6_advance_22 cv_RX6_50 rfl rm_0_0_0 (am_some (inj := (fun r => (.inr (some (.int r)), h))) hq1 (A_X1_at _ (hC.2.2.2.2.2.2.2.2.2.2.2.2.1) _ _ _ 0 (by decide) (gI h (4, 0, 0) 3) h)) rfl rfl rfl rfl rfl ⟨rfl, rfl⟩ ?_
      refine aw_bipush hC dX6_advance_25 (v := 32) (by decide) ?_
      refine aw_icmp_eq hC dX6_advance_27 (tgt := 46) (by decide) ?_ ?_
      · refine aw_aload_n hC dX6_advance_46 rfl ?_
        refine aw_dup hC dX6_advance_47 rfl ?_
        refine aw_gfI hC dX6_advance_48 fg_RX6_27 rfl rm_4_0_0 ?_
        refine aw_iconst hC dX6_advance_51 (v := 1) (by decide) ?_
        refine aw_iadd hC dX6_advance_52 ?_
        refine aw_pfI hC dX6_advance_53 fg_RX6_27 fp_4_3 rfl rm_4_0_0 (fun h2 => ?_)
        refine aw_goto hC dX6_advance_56 (tgt := 0) (by decide) ?_
        refine aw_sub [0] ?_
        exact ih0 h2
      · refine aw_aload_n hC dX6_advance_30 rfl ?_
        refine aw_gfR hC dX6_advance_31 fg_RX6_14 rfl rfl rm_4_0_0 ?_
        refine aw_aload_n hC dX6_advance_34 rfl ?_
        refine aw_gfI hC dX6_advance_35 fg_RX6_27 rfl rm_4_0_0 ?_
        refine aw_bind rfl (fun q3 hq3 => ?_)
        refine aw_cVi hC dX6_advance_38 cv_RX6_50 rfl rm_0_0_0 (am_some (inj := (fun r => (.inr (some (.int r)), h))) hq3 (A_X1_at _ (hC.2.2.2.2.2.2.2.2.2.2.2.2.1) _ _ _ 0 (by decide) (gI h (4, 0, 0) 3) h)) rfl rfl rfl rfl rfl ⟨rfl, rfl⟩ ?_
        refine aw_bipush hC dX6_advance_41 (v := 10) (by decide) ?_
        refine aw_icmp_ne hC dX6_advance_43 (tgt := 59) (by decide) ?_ ?_
        · refine aw_sub [0] ?_
          exact hk59 h
        · refine aw_aload_n hC dX6_advance_46 rfl ?_
          refine aw_dup hC dX6_advance_47 rfl ?_
          refine aw_gfI hC dX6_advance_48 fg_RX6_27 rfl rm_4_0_0 ?_
          refine aw_iconst hC dX6_advance_51 (v := 1) (by decide) ?_
          refine aw_iadd hC dX6_advance_52 ?_
          refine aw_pfI hC dX6_advance_53 fg_RX6_27 fp_4_3 rfl rm_4_0_0 (fun h4 => ?_)
          refine aw_goto hC dX6_advance_56 (tgt := 0) (by decide) ?_
          refine aw_sub [0] ?_
          exact ih0 h4
set_option maxHeartbeats 4000000 in
set_option maxRecDepth 100000 in
theorem A_X6_advance (l : Launch) (hl0 : l.stackTraces = false) (D : va_G) (loc : Rf → Nat) (cy : Nat → ClassId)  (h : HD) : AM l D loc cy yX6_advance cX6_advance 2 (none) 2 59 [.ref (loc (4, 0, 0))] h ((jX6_advance h).map (fun r => (.inr (none), r))) := by
  refine am_start (y := yX6_advance) (av := [.ref (loc (4, 0, 0))]) (nL := 2) (h := h) (RF := fun (r : Option HD) => r.map (fun r => (.inr (none), r))) (x := jX6_advance h) hl0 (by decide +kernel) rfl ?_
  intro p e R s m below meth c A hC
  unfold jX6_advance
  refine aw_sub [0] ?_
  refine L_X6_advance_0  _ hC ?_ FU h
  · intro h5
    refine aw_aload_n hC dX6_advance_59 rfl ?_
    refine aw_aload_n hC dX6_advance_60 rfl ?_
    refine aw_gfI hC dX6_advance_61 fg_RX6_27 rfl rm_4_0_0 ?_
    refine aw_pfI hC dX6_advance_64 fg_RX6_24 fp_4_2 rfl rm_4_0_0 (fun h6 => ?_)
    refine aw_aload_n hC dX6_advance_67 rfl ?_
    refine aw_gfR hC dX6_advance_68 fg_RX6_14 rfl rfl rm_4_0_0 ?_
    refine aw_aload_n hC dX6_advance_71 rfl ?_
    refine aw_gfI hC dX6_advance_72 fg_RX6_27 rfl rm_4_0_0 ?_
    refine aw_bind rfl (fun q7 hq7 => ?_)
    refine aw_cVi hC dX6_advance_75 cv_RX6_50 rfl rm_0_0_0 (am_some (inj := (fun r => (.inr (some (.int r)), h6))) hq7 (A_X1_at _ (hC.2.2.2.2.2.2.2.2.2.2.2.2.1) _ _ _ 0 (by decide) (gI h6 (4, 0, 0) 3) h6)) rfl rfl rfl rfl rfl ⟨rfl, rfl⟩ ?_
    refine aw_istore_n hC dX6_advance_78 (by decide) ?_
    refine aw_aload_n hC dX6_advance_79 rfl ?_
    refine aw_gfI hC dX6_advance_80 fg_RX6_27 rfl rm_4_0_0 ?_
    refine aw_aload_n hC dX6_advance_83 rfl ?_
    refine aw_gfR hC dX6_advance_84 fg_RX6_14 rfl rfl rm_4_0_0 ?_
    refine aw_cVi hC dX6_advance_87 cv_RX6_46 rfl rm_0_0_0 (A_X1_length _ (hC.2.2.2.2.2.2.2.2.2.2.2.2.1) _ _ _ 0 (by decide) h6) rfl rfl rfl rfl rfl ⟨rfl, rfl⟩ ?_
    refine aw_icmp_lt hC dX6_advance_90 (tgt := 101) (by decide) ?_ ?_
    · refine aw_iload_n hC dX6_advance_101 rfl ?_
      refine aw_cNb hC dX6_advance_102 cv_RX6_54 (A_X8_isLetter _ (hC.2.2.2.2.2.2.2.2.2.2.2.2.1) _ _ _ q7 h6) rfl rfl rfl rfl rfl ⟨rfl, rfl⟩ ?_
      refine aw_if_eq_b hC dX6_advance_105 (tgt := 115) (by decide) ?_ ?_
      · refine aw_iload_n hC dX6_advance_115 rfl ?_
        refine aw_cNb hC dX6_advance_116 cv_RX6_61 (A_X8_isDigit _ (hC.2.2.2.2.2.2.2.2.2.2.2.2.1) _ _ _ q7 h6) rfl rfl rfl rfl rfl ⟨rfl, rfl⟩ ?_
        refine aw_if_eq_b hC dX6_advance_119 (tgt := 129) (by decide) ?_ ?_
        · refine aw_aload_n hC dX6_advance_129 rfl ?_
          refine aw_iload_n hC dX6_advance_130 rfl ?_
          refine aw_bipush hC dX6_advance_131 (v := 59) (by decide) ?_
          refine aw_icmp_eq hC dX6_advance_133 (tgt := 148) (by decide) ?_ ?_
          · refine aw_iconst hC dX6_advance_148 (v := 3) (by decide) ?_
            refine aw_goto hC dX6_advance_149 (tgt := 153) (by decide) ?_
            refine aw_pfI hC dX6_advance_153 fg_RX6_20 fp_4_1 rfl rm_4_0_0 (fun h8 => ?_)
            refine aw_aload_n hC dX6_advance_156 rfl ?_
            refine aw_iload_n hC dX6_advance_157 rfl ?_
            refine aw_pfI hC dX6_advance_158 fg_RX6_37 fp_4_6 rfl rm_4_0_0 (fun h9 => ?_)
            refine aw_aload_n hC dX6_advance_161 rfl ?_
            refine aw_dup hC dX6_advance_162 rfl ?_
            refine aw_gfI hC dX6_advance_163 fg_RX6_27 rfl rm_4_0_0 ?_
            refine aw_iconst hC dX6_advance_166 (v := 1) (by decide) ?_
            refine aw_iadd hC dX6_advance_167 ?_
            refine aw_pfI hC dX6_advance_168 fg_RX6_27 fp_4_3 rfl rm_4_0_0 (fun h10 => ?_)
            exact aw_vret hC dX6_advance_171 rfl rfl
          · refine aw_iload_n hC dX6_advance_136 rfl ?_
            refine aw_bipush hC dX6_advance_137 (v := 40) (by decide) ?_
            refine aw_icmp_eq hC dX6_advance_139 (tgt := 148) (by decide) ?_ ?_
            · refine aw_iconst hC dX6_advance_148 (v := 3) (by decide) ?_
              refine aw_goto hC dX6_advance_149 (tgt := 153) (by decide) ?_
              refine aw_pfI hC dX6_advance_153 fg_RX6_20 fp_4_1 rfl rm_4_0_0 (fun h11 => ?_)
              refine aw_aload_n hC dX6_advance_156 rfl ?_
              refine aw_iload_n hC dX6_advance_157 rfl ?_
              refine aw_pfI hC dX6_advance_158 fg_RX6_37 fp_4_6 rfl rm_4_0_0 (fun h12 => ?_)
              refine aw_aload_n hC dX6_advance_161 rfl ?_
              refine aw_dup hC dX6_advance_162 rfl ?_
              refine aw_gfI hC dX6_advance_163 fg_RX6_27 rfl rm_4_0_0 ?_
              refine aw_iconst hC dX6_advance_166 (v := 1) (by decide) ?_
              refine aw_iadd hC dX6_advance_167 ?_
              refine aw_pfI hC dX6_advance_168 fg_RX6_27 fp_4_3 rfl rm_4_0_0 (fun h13 => ?_)
              exact aw_vret hC dX6_advance_171 rfl rfl
            · refine aw_iload_n hC dX6_advance_142 rfl ?_
              refine aw_bipush hC dX6_advance_143 (v := 41) (by decide) ?_
              refine aw_icmp_ne hC dX6_advance_145 (tgt := 152) (by decide) ?_ ?_
              · refine aw_iconst hC dX6_advance_152 (v := 4) (by decide) ?_
                refine aw_pfI hC dX6_advance_153 fg_RX6_20 fp_4_1 rfl rm_4_0_0 (fun h14 => ?_)
                refine aw_aload_n hC dX6_advance_156 rfl ?_
                refine aw_iload_n hC dX6_advance_157 rfl ?_
                refine aw_pfI hC dX6_advance_158 fg_RX6_37 fp_4_6 rfl rm_4_0_0 (fun h15 => ?_)
                refine aw_aload_n hC dX6_advance_161 rfl ?_
                refine aw_dup hC dX6_advance_162 rfl ?_
                refine aw_gfI hC dX6_advance_163 fg_RX6_27 rfl rm_4_0_0 ?_
                refine aw_iconst hC dX6_advance_166 (v := 1) (by decide) ?_
                refine aw_iadd hC dX6_advance_167 ?_
                refine aw_pfI hC dX6_advance_168 fg_RX6_27 fp_4_3 rfl rm_4_0_0 (fun h16 => ?_)
                exact aw_vret hC dX6_advance_171 rfl rfl
              · refine aw_iconst hC dX6_advance_148 (v := 3) (by decide) ?_
                refine aw_goto hC dX6_advance_149 (tgt := 153) (by decide) ?_
                refine aw_pfI hC dX6_advance_153 fg_RX6_20 fp_4_1 rfl rm_4_0_0 (fun h17 => ?_)
                refine aw_aload_n hC dX6_advance_156 rfl ?_
                refine aw_iload_n hC dX6_advance_157 rfl ?_
                refine aw_pfI hC dX6_advance_158 fg_RX6_37 fp_4_6 rfl rm_4_0_0 (fun h18 => ?_)
                refine aw_aload_n hC dX6_advance_161 rfl ?_
                refine aw_dup hC dX6_advance_162 rfl ?_
                refine aw_gfI hC dX6_advance_163 fg_RX6_27 rfl rm_4_0_0 ?_
                refine aw_iconst hC dX6_advance_166 (v := 1) (by decide) ?_
                refine aw_iadd hC dX6_advance_167 ?_
                refine aw_pfI hC dX6_advance_168 fg_RX6_27 fp_4_3 rfl rm_4_0_0 (fun h19 => ?_)
                exact aw_vret hC dX6_advance_171 rfl rfl
        · refine aw_aload_n hC dX6_advance_122 rfl ?_
          refine aw_bind rfl (fun q20 hq20 => ?_)
          refine aw_cVv hC dX6_advance_123 cv_RX6_64 rfl rm_4_0_0 (am_some (inj := (fun r => (.inr (none), r))) hq20 (A_X6_takeNumber _ (hC.2.2.2.2.2.2.2.2.2.2.2.2.1) _ _ _ h6)) rfl rfl rfl rfl rfl ⟨rfl, rfl⟩ ?_
          refine aw_goto hC dX6_advance_126 (tgt := 171) (by decide) ?_
          exact aw_vret hC dX6_advance_171 rfl rfl
      · refine aw_aload_n hC dX6_advance_108 rfl ?_
        refine aw_bind rfl (fun q21 hq21 => ?_)
        refine aw_cVv hC dX6_advance_109 cv_RX6_58 rfl rm_4_0_0 (am_some (inj := (fun r => (.inr (none), r))) hq21 (A_X6_takeWord _ (hC.2.2.2.2.2.2.2.2.2.2.2.2.1) _ _ _ h6)) rfl rfl rfl rfl rfl ⟨rfl, rfl⟩ ?_
        refine aw_goto hC dX6_advance_112 (tgt := 171) (by decide) ?_
        exact aw_vret hC dX6_advance_171 rfl rfl
    · refine aw_aload_n hC dX6_advance_93 rfl ?_
      refine aw_iconst hC dX6_advance_94 (v := 0) (by decide) ?_
      refine aw_pfI hC dX6_advance_95 fg_RX6_20 fp_4_1 rfl rm_4_0_0 (fun h22 => ?_)
      refine aw_goto hC dX6_advance_98 (tgt := 171) (by decide) ?_
      exact aw_vret hC dX6_advance_171 rfl rfl
set_option maxHeartbeats 4000000 in
set_option maxRecDepth 100000 in
theorem A_X6_fail (l : Launch) (hl0 : l.stackTraces = false) (D : va_G) (loc : Rf → Nat) (cy : Nat → ClassId) (p1 : Int32) (h : HD) : AM l D loc cy yX6_fail cX6_fail 2 (some .boolean) 0 16 [.ref (loc (4, 0, 0)), .int p1] h ((jX6_fail p1 h).map (fun r => (.inr (some (.int (b2i r.1))), r.2))) := by
  refine am_start (y := yX6_fail) (av := [.ref (loc (4, 0, 0)), .int p1]) (nL := 2) (h := h) (RF := fun (r : Option (Bool × HD)) => r.map (fun r => (.inr (some (.int (b2i r.1))), r.2))) (x := jX6_fail p1 h) hl0 (by decide +kernel) rfl ?_
  intro p e R s m below meth c A hC
  unfold jX6_fail
  refine aw_aload_n hC dX6_fail_0 rfl ?_
  refine aw_iload_n hC dX6_fail_1 rfl ?_
  refine aw_pfI hC dX6_fail_2 fg_RX6_40 fp_4_7 rfl rm_4_0_0 (fun h1 => ?_)
  refine aw_aload_n hC dX6_fail_5 rfl ?_
  refine aw_aload_n hC dX6_fail_6 rfl ?_
  refine aw_gfI hC dX6_fail_7 fg_RX6_24 rfl rm_4_0_0 ?_
  refine aw_pfI hC dX6_fail_10 fg_RX6_43 fp_4_8 rfl rm_4_0_0 (fun h2 => ?_)
  refine aw_iconst hC dX6_fail_13 (v := 0) (by decide) ?_
  exact aw_zret hC dX6_fail_14 rfl (show _ = b2i false from rfl) rfl
set_option maxHeartbeats 4000000 in
set_option maxRecDepth 100000 in
theorem A_X6_readNumber (l : Launch) (hl0 : l.stackTraces = false) (D : va_G) (loc : Rf → Nat) (cy : Nat → ClassId) (p1 : Int32) (p2 : Int32) (h : HD) : AM l D loc cy yX6_readNumber cX6_readNumber 3 (some .boolean) 3 80 [.ref (loc (4, 0, 0)), .int p1, .int p2] h ((jX6_readNumber p1 p2 h).map (fun r => (.inr (some (.int (b2i r.1))), r.2))) := by
  refine am_start (y := yX6_readNumber) (av := [.ref (loc (4, 0, 0)), .int p1, .int p2]) (nL := 3) (h := h) (RF := fun (r : Option (Bool × HD)) => r.map (fun r => (.inr (some (.int (b2i r.1))), r.2))) (x := jX6_readNumber p1 p2 h) hl0 (by decide +kernel) rfl ?_
  intro p e R s m below meth c A hC
  unfold jX6_readNumber
  refine aw_aload_n hC dX6_readNumber_0 rfl ?_
  refine aw_bind rfl (fun q1 hq1 => ?_)
  refine aw_cVv hC dX6_readNumber_1 cv_RX6_75 rfl rm_4_0_0 (am_some (inj := (fun r => (.inr (none), r))) hq1 (A_X6_advance _ (hC.2.2.2.2.2.2.2.2.2.2.2.2.1) _ _ _ h)) rfl rfl rfl rfl rfl ⟨rfl, rfl⟩ ?_
  refine aw_aload_n hC dX6_readNumber_4 rfl ?_
  refine aw_gfI hC dX6_readNumber_5 fg_RX6_20 rfl rm_4_0_0 ?_
  refine aw_iconst hC dX6_readNumber_8 (v := 2) (by decide) ?_
  refine aw_icmp_eq hC dX6_readNumber_9 (tgt := 18) (by decide) ?_ ?_
  · refine aw_aload_n hC dX6_readNumber_18 rfl ?_
    refine aw_gfI hC dX6_readNumber_19 fg_RX6_34 rfl rm_4_0_0 ?_
    refine aw_iload_n hC dX6_readNumber_22 rfl ?_
    refine aw_icmp_lt hC dX6_readNumber_23 (tgt := 34) (by decide) ?_ ?_
    · refine aw_aload_n hC dX6_readNumber_34 rfl ?_
      refine aw_iconst hC dX6_readNumber_35 (v := 2) (by decide) ?_
      refine aw_bind rfl (fun q2 hq2 => ?_)
      refine aw_cVb hC dX6_readNumber_36 cv_RX6_82 rfl rm_4_0_0 (am_some (inj := (fun r => (.inr (some (.int (b2i r.1))), r.2))) hq2 (A_X6_fail _ (hC.2.2.2.2.2.2.2.2.2.2.2.2.1) _ _ _ (2 : Int32) q1)) rfl rfl rfl rfl rfl ⟨rfl, rfl⟩ ?_
      refine aw_if_eq_b hC dX6_readNumber_39 (tgt := 46) (by decide) ?_ ?_
      · refine aw_iconst hC dX6_readNumber_46 (v := 0) (by decide) ?_
        exact aw_zret hC dX6_readNumber_47 rfl (show _ = b2i false from rfl) rfl
      · refine aw_iconst hC dX6_readNumber_42 (v := 1) (by decide) ?_
        refine aw_goto hC dX6_readNumber_43 (tgt := 47) (by decide) ?_
        exact aw_zret hC dX6_readNumber_47 rfl (show _ = b2i true from rfl) rfl
    · refine aw_aload_n hC dX6_readNumber_26 rfl ?_
      refine aw_gfI hC dX6_readNumber_27 fg_RX6_34 rfl rm_4_0_0 ?_
      refine aw_iload_n hC dX6_readNumber_30 rfl ?_
      refine aw_icmp_le hC dX6_readNumber_31 (tgt := 42) (by decide) ?_ ?_
      · refine aw_iconst hC dX6_readNumber_42 (v := 1) (by decide) ?_
        refine aw_goto hC dX6_readNumber_43 (tgt := 47) (by decide) ?_
        exact aw_zret hC dX6_readNumber_47 rfl (show _ = b2i true from rfl) rfl
      · refine aw_aload_n hC dX6_readNumber_34 rfl ?_
        refine aw_iconst hC dX6_readNumber_35 (v := 2) (by decide) ?_
        refine aw_bind rfl (fun q3 hq3 => ?_)
        refine aw_cVb hC dX6_readNumber_36 cv_RX6_82 rfl rm_4_0_0 (am_some (inj := (fun r => (.inr (some (.int (b2i r.1))), r.2))) hq3 (A_X6_fail _ (hC.2.2.2.2.2.2.2.2.2.2.2.2.1) _ _ _ (2 : Int32) q1)) rfl rfl rfl rfl rfl ⟨rfl, rfl⟩ ?_
        refine aw_if_eq_b hC dX6_readNumber_39 (tgt := 46) (by decide) ?_ ?_
        · refine aw_iconst hC dX6_readNumber_46 (v := 0) (by decide) ?_
          exact aw_zret hC dX6_readNumber_47 rfl (show _ = b2i false from rfl) rfl
        · refine aw_iconst hC dX6_readNumber_42 (v := 1) (by decide) ?_
          refine aw_goto hC dX6_readNumber_43 (tgt := 47) (by decide) ?_
          exact aw_zret hC dX6_readNumber_47 rfl (show _ = b2i true from rfl) rfl
  · refine aw_aload_n hC dX6_readNumber_12 rfl ?_
    refine aw_iconst hC dX6_readNumber_13 (v := 1) (by decide) ?_
    refine aw_bind rfl (fun q4 hq4 => ?_)
    refine aw_cVb hC dX6_readNumber_14 cv_RX6_82 rfl rm_4_0_0 (am_some (inj := (fun r => (.inr (some (.int (b2i r.1))), r.2))) hq4 (A_X6_fail _ (hC.2.2.2.2.2.2.2.2.2.2.2.2.1) _ _ _ (1 : Int32) q1)) rfl rfl rfl rfl rfl ⟨rfl, rfl⟩ ?_
    exact aw_zret hC dX6_readNumber_17 rfl (show _ = b2i q4.1 from rfl) rfl
set_option maxHeartbeats 4000000 in
set_option maxRecDepth 100000 in
theorem A_X6_number (l : Launch) (hl0 : l.stackTraces = false) (D : va_G) (loc : Rf → Nat) (cy : Nat → ClassId)  (h : HD) : AM l D loc cy yX6_number cX6_number 1 (some .int) 0 16 [.ref (loc (4, 0, 0))] h (some (.inr (some (.int (jX6_number h))), h)) := by
  refine am_start (y := yX6_number) (av := [.ref (loc (4, 0, 0))]) (nL := 1) (h := h) (RF := fun (r : Int32) => some (.inr (some (.int r)), h)) (x := jX6_number h) hl0 (by decide +kernel) rfl ?_
  intro p e R s m below meth c A hC
  unfold jX6_number
  refine aw_aload_n hC dX6_number_0 rfl ?_
  refine aw_gfI hC dX6_number_1 fg_RX6_34 rfl rm_4_0_0 ?_
  exact aw_iret hC dX6_number_4 rfl rfl
set_option maxHeartbeats 4000000 in
set_option maxRecDepth 100000 in
theorem A_X2_changeBack (l : Launch) (hl0 : l.stackTraces = false) (D : va_G) (loc : Rf → Nat) (cy : Nat → ClassId) (o : Nat) (ho : o < 10) (p1 : Int32) (h : HD) : AM l D loc cy yX2_changeBack cX2_changeBack 2 (none) 0 16 [.ref (loc (1, o, 0)), .int p1] h ((jX2_changeBack o p1 h).map (fun r => (.inr (none), r))) := by
  refine am_start (y := yX2_changeBack) (av := [.ref (loc (1, o, 0)), .int p1]) (nL := 2) (h := h) (RF := fun (r : Option HD) => r.map (fun r => (.inr (none), r))) (x := jX2_changeBack o p1 h) hl0 (by decide +kernel) rfl ?_
  intro p e R s m below meth c A hC
  unfold jX2_changeBack
  refine aw_aload_n hC dX2_changeBack_0 rfl ?_
  refine aw_iload_n hC dX2_changeBack_1 rfl ?_
  refine aw_pfI hC dX2_changeBack_2 fg_RX2_23 fp_1_3 rfl (rv_1_0 ho) (fun h1 => ?_)
  exact aw_vret hC dX2_changeBack_5 rfl rfl
set_option maxHeartbeats 4000000 in
set_option maxRecDepth 100000 in
theorem A_X6_isMark (l : Launch) (hl0 : l.stackTraces = false) (D : va_G) (loc : Rf → Nat) (cy : Nat → ClassId) (p1 : Int32) (h : HD) : AM l D loc cy yX6_isMark cX6_isMark 2 (some .boolean) 0 16 [.ref (loc (4, 0, 0)), .int p1] h (some (.inr (some (.int (b2i (jX6_isMark p1 h)))), h)) := by
  refine am_start (y := yX6_isMark) (av := [.ref (loc (4, 0, 0)), .int p1]) (nL := 2) (h := h) (RF := fun (r : Bool) => some (.inr (some (.int (b2i r))), h)) (x := jX6_isMark p1 h) hl0 (by decide +kernel) rfl ?_
  intro p e R s m below meth c A hC
  unfold jX6_isMark
  refine aw_aload_n hC dX6_isMark_0 rfl ?_
  refine aw_gfI hC dX6_isMark_1 fg_RX6_20 rfl rm_4_0_0 ?_
  refine aw_iconst hC dX6_isMark_4 (v := 3) (by decide) ?_
  refine aw_icmp_ne hC dX6_isMark_5 (tgt := 20) (by decide) ?_ ?_
  · refine aw_iconst hC dX6_isMark_20 (v := 0) (by decide) ?_
    exact aw_zret hC dX6_isMark_21 rfl (show _ = b2i false from rfl) rfl
  · refine aw_aload_n hC dX6_isMark_8 rfl ?_
    refine aw_gfI hC dX6_isMark_9 fg_RX6_37 rfl rm_4_0_0 ?_
    refine aw_iload_n hC dX6_isMark_12 rfl ?_
    refine aw_icmp_ne hC dX6_isMark_13 (tgt := 20) (by decide) ?_ ?_
    · refine aw_iconst hC dX6_isMark_20 (v := 0) (by decide) ?_
      exact aw_zret hC dX6_isMark_21 rfl (show _ = b2i false from rfl) rfl
    · refine aw_iconst hC dX6_isMark_16 (v := 1) (by decide) ?_
      refine aw_goto hC dX6_isMark_17 (tgt := 21) (by decide) ?_
      exact aw_zret hC dX6_isMark_21 rfl (show _ = b2i true from rfl) rfl
set_option maxHeartbeats 4000000 in
set_option maxRecDepth 100000 in
theorem A_X6_readMark (l : Launch) (hl0 : l.stackTraces = false) (D : va_G) (loc : Rf → Nat) (cy : Nat → ClassId) (p1 : Int32) (h : HD) : AM l D loc cy yX6_readMark cX6_readMark 2 (some .boolean) 3 80 [.ref (loc (4, 0, 0)), .int p1] h ((jX6_readMark p1 h).map (fun r => (.inr (some (.int (b2i r.1))), r.2))) := by
  refine am_start (y := yX6_readMark) (av := [.ref (loc (4, 0, 0)), .int p1]) (nL := 2) (h := h) (RF := fun (r : Option (Bool × HD)) => r.map (fun r => (.inr (some (.int (b2i r.1))), r.2))) (x := jX6_readMark p1 h) hl0 (by decide +kernel) rfl ?_
  intro p e R s m below meth c A hC
  unfold jX6_readMark
  refine aw_aload_n hC dX6_readMark_0 rfl ?_
  refine aw_bind rfl (fun q1 hq1 => ?_)
  refine aw_cVv hC dX6_readMark_1 cv_RX6_75 rfl rm_4_0_0 (am_some (inj := (fun r => (.inr (none), r))) hq1 (A_X6_advance _ (hC.2.2.2.2.2.2.2.2.2.2.2.2.1) _ _ _ h)) rfl rfl rfl rfl rfl ⟨rfl, rfl⟩ ?_
  refine aw_aload_n hC dX6_readMark_4 rfl ?_
  refine aw_iload_n hC dX6_readMark_5 rfl ?_
  refine aw_cVb hC dX6_readMark_6 cv_RX6_88 rfl rm_4_0_0 (A_X6_isMark _ (hC.2.2.2.2.2.2.2.2.2.2.2.2.1) _ _ _ p1 q1) rfl rfl rfl rfl rfl ⟨rfl, rfl⟩ ?_
  refine aw_if_ne_b hC dX6_readMark_9 (tgt := 20) (by decide) ?_ ?_
  · refine aw_iconst hC dX6_readMark_20 (v := 1) (by decide) ?_
    refine aw_goto hC dX6_readMark_21 (tgt := 25) (by decide) ?_
    exact aw_zret hC dX6_readMark_25 rfl (show _ = b2i true from rfl) rfl
  · refine aw_aload_n hC dX6_readMark_12 rfl ?_
    refine aw_iconst hC dX6_readMark_13 (v := 1) (by decide) ?_
    refine aw_bind rfl (fun q2 hq2 => ?_)
    refine aw_cVb hC dX6_readMark_14 cv_RX6_82 rfl rm_4_0_0 (am_some (inj := (fun r => (.inr (some (.int (b2i r.1))), r.2))) hq2 (A_X6_fail _ (hC.2.2.2.2.2.2.2.2.2.2.2.2.1) _ _ _ (1 : Int32) q1)) rfl rfl rfl rfl rfl ⟨rfl, rfl⟩ ?_
    refine aw_if_eq_b hC dX6_readMark_17 (tgt := 24) (by decide) ?_ ?_
    · refine aw_iconst hC dX6_readMark_24 (v := 0) (by decide) ?_
      exact aw_zret hC dX6_readMark_25 rfl (show _ = b2i false from rfl) rfl
    · refine aw_iconst hC dX6_readMark_20 (v := 1) (by decide) ?_
      refine aw_goto hC dX6_readMark_21 (tgt := 25) (by decide) ?_
      exact aw_zret hC dX6_readMark_25 rfl (show _ = b2i true from rfl) rfl
set_option maxHeartbeats 4000000 in
set_option maxRecDepth 100000 in
theorem A_X8_readBack (l : Launch) (hl0 : l.stackTraces = false) (D : va_G) (loc : Rf → Nat) (cy : Nat → ClassId) (r1 : Nat) (hr1 : r1 < 10) (h : HD) : AM l D loc cy yX8_readBack cX8_readBack 2 (some .boolean) 4 102 [.ref (loc (6, 0, 0)), .ref (loc (1, r1, 0))] h ((jX8_readBack r1 h).map (fun r => (.inr (some (.int (b2i r.1))), r.2))) := by
  refine am_start (y := yX8_readBack) (av := [.ref (loc (6, 0, 0)), .ref (loc (1, r1, 0))]) (nL := 2) (h := h) (RF := fun (r : Option (Bool × HD)) => r.map (fun r => (.inr (some (.int (b2i r.1))), r.2))) (x := jX8_readBack r1 h) hl0 (by decide +kernel) rfl ?_
  intro p e R s m below meth c A hC
  unfold jX8_readBack
  refine aw_aload_n hC dX8_readBack_0 rfl ?_
  refine aw_gfR hC dX8_readBack_1 fg_RX8_12 rfl rfl rm_6_0_0 ?_
  refine aw_iconst hC dX8_readBack_4 (v := 0) (by decide) ?_
  refine aw_iconst hC dX8_readBack_5 (v := 5) (by decide) ?_
  refine aw_bind rfl (fun q1 hq1 => ?_)
  refine aw_cVb hC dX8_readBack_6 cv_RX8_173 rfl rm_4_0_0 (am_some (inj := (fun r => (.inr (some (.int (b2i r.1))), r.2))) hq1 (A_X6_readNumber _ (hC.2.2.2.2.2.2.2.2.2.2.2.2.1) _ _ _ (0 : Int32) (5 : Int32) h)) rfl rfl rfl rfl rfl ⟨rfl, rfl⟩ ?_
  refine aw_if_ne_b hC dX8_readBack_9 (tgt := 14) (by decide) ?_ ?_
  · refine aw_aload_n hC dX8_readBack_14 rfl ?_
    refine aw_aload_n hC dX8_readBack_15 rfl ?_
    refine aw_gfR hC dX8_readBack_16 fg_RX8_12 rfl rfl rm_6_0_0 ?_
    refine aw_cVi hC dX8_readBack_19 cv_RX8_177 rfl rm_4_0_0 (A_X6_number _ (hC.2.2.2.2.2.2.2.2.2.2.2.2.1) _ _ _ q1.2) rfl rfl rfl rfl rfl ⟨rfl, rfl⟩ ?_
    refine aw_bind rfl (fun q2 hq2 => ?_)
    refine aw_cVv hC dX8_readBack_22 cv_RX8_209 rfl (rv_1_0 hr1) (am_some (inj := (fun r => (.inr (none), r))) hq2 (A_X2_changeBack _ (hC.2.2.2.2.2.2.2.2.2.2.2.2.1) _ _ _ r1 hr1 (jX6_number q1.2) q1.2)) rfl rfl rfl rfl rfl ⟨rfl, rfl⟩ ?_
    refine aw_aload_n hC dX8_readBack_25 rfl ?_
    refine aw_gfR hC dX8_readBack_26 fg_RX8_12 rfl rfl rm_6_0_0 ?_
    refine aw_bipush hC dX8_readBack_29 (v := 59) (by decide) ?_
    refine aw_bind rfl (fun q3 hq3 => ?_)
    refine aw_cVb hC dX8_readBack_31 cv_RX8_180 rfl rm_4_0_0 (am_some (inj := (fun r => (.inr (some (.int (b2i r.1))), r.2))) hq3 (A_X6_readMark _ (hC.2.2.2.2.2.2.2.2.2.2.2.2.1) _ _ _ (59 : Int32) q2)) rfl rfl rfl rfl rfl ⟨rfl, rfl⟩ ?_
    refine aw_if_ne_b hC dX8_readBack_34 (tgt := 39) (by decide) ?_ ?_
    · refine aw_aload_n hC dX8_readBack_39 rfl ?_
      refine aw_gfR hC dX8_readBack_40 fg_RX8_12 rfl rfl rm_6_0_0 ?_
      refine aw_bind rfl (fun q4 hq4 => ?_)
      refine aw_cVv hC dX8_readBack_43 cv_RX8_184 rfl rm_4_0_0 (am_some (inj := (fun r => (.inr (none), r))) hq4 (A_X6_advance _ (hC.2.2.2.2.2.2.2.2.2.2.2.2.1) _ _ _ q3.2)) rfl rfl rfl rfl rfl ⟨rfl, rfl⟩ ?_
      refine aw_iconst hC dX8_readBack_46 (v := 1) (by decide) ?_
      exact aw_zret hC dX8_readBack_47 rfl (show _ = b2i true from rfl) rfl
    · refine aw_iconst hC dX8_readBack_37 (v := 0) (by decide) ?_
      exact aw_zret hC dX8_readBack_38 rfl (show _ = b2i false from rfl) rfl
  · refine aw_iconst hC dX8_readBack_12 (v := 0) (by decide) ?_
    exact aw_zret hC dX8_readBack_13 rfl (show _ = b2i false from rfl) rfl
set_option maxHeartbeats 4000000 in
set_option maxRecDepth 100000 in
theorem A_X8_needSetting (l : Launch) (hl0 : l.stackTraces = false) (D : va_G) (loc : Rf → Nat) (cy : Nat → ClassId) (p1 : Int32) (h : HD) : AX l D loc cy yX8_needSetting (Cond.code yX8_needSetting cX8_needSetting 2 (none) :: LW) 6 100 1 6 [.ref (loc (6, 0, 0)), .int p1] h ((jX8_needSetting p1 h).map (fun r => (xi (fun _ => none) r, h))) := by
  refine ax_start (y := yX8_needSetting) (av := [.ref (loc (6, 0, 0)), .int p1]) (nL := 2) (h := h) (RF := fun (r : Option (Nat ⊕ Unit)) => r.map (fun r => (xi (fun _ => none) r, h))) (x := jX8_needSetting p1 h) hl0 (by decide +kernel) rfl ?_
  intro p e R s m below meth c A hxt hC
  unfold jX8_needSetting
  refine aw_iload_n hC dX8_needSetting_0 rfl ?_
  refine aw_if_lt hC dX8_needSetting_1 (tgt := 10) (by decide) ?_ ?_
  · exact aw_throw1w (text := "there is no such setting") (sid := 329) hC hxt dX8_needSetting_10 dX8_needSetting_13 dX8_needSetting_14 dX8_needSetting_17 dX8_needSetting_20 tw4_48 tw1_13 (by decide +kernel) rfl rfl rfl rfl rfl rfl rfl
  · refine aw_iload_n hC dX8_needSetting_4 rfl ?_
    refine aw_bipush hC dX8_needSetting_5 (v := 9) (by decide) ?_
    refine aw_icmp_le hC dX8_needSetting_7 (tgt := 21) (by decide) ?_ ?_
    · exact aw_vreX hC dX8_needSetting_21 rfl rfl rfl rfl
    · exact aw_throw1w (text := "there is no such setting") (sid := 329) hC hxt dX8_needSetting_10 dX8_needSetting_13 dX8_needSetting_14 dX8_needSetting_17 dX8_needSetting_20 tw4_48 tw1_13 (by decide +kernel) rfl rfl rfl rfl rfl rfl rfl
set_option maxHeartbeats 4000000 in
set_option maxRecDepth 100000 in
theorem A_X2_count (l : Launch) (hl0 : l.stackTraces = false) (D : va_G) (loc : Rf → Nat) (cy : Nat → ClassId) (o : Nat) (ho : o < 10) (h : HD) : AM l D loc cy yX2_count cX2_count 1 (some .int) 0 16 [.ref (loc (1, o, 0))] h (some (.inr (some (.int (jX2_count o h))), h)) := by
  refine am_start (y := yX2_count) (av := [.ref (loc (1, o, 0))]) (nL := 1) (h := h) (RF := fun (r : Int32) => some (.inr (some (.int r)), h)) (x := jX2_count o h) hl0 (by decide +kernel) rfl ?_
  intro p e R s m below meth c A hC
  unfold jX2_count
  refine aw_aload_n hC dX2_count_0 rfl ?_
  refine aw_gfI hC dX2_count_1 fg_RX2_19 rfl (rv_1_0 ho) ?_
  exact aw_iret hC dX2_count_4 rfl rfl
set_option maxHeartbeats 4000000 in
set_option maxRecDepth 100000 in
theorem A_X2_spots (l : Launch) (hl0 : l.stackTraces = false) (D : va_G) (loc : Rf → Nat) (cy : Nat → ClassId) (o : Nat) (ho : o < 10) (h : HD) : AM l D loc cy yX2_spots cX2_spots 1 (some .int) 0 16 [.ref (loc (1, o, 0))] h (some (.inr (some (.int (jX2_spots o h))), h)) := by
  refine am_start (y := yX2_spots) (av := [.ref (loc (1, o, 0))]) (nL := 1) (h := h) (RF := fun (r : Int32) => some (.inr (some (.int r)), h)) (x := jX2_spots o h) hl0 (by decide +kernel) rfl ?_
  intro p e R s m below meth c A hC
  unfold jX2_spots
  refine aw_aload_n hC dX2_spots_0 rfl ?_
  refine aw_gfI hC dX2_spots_1 fg_RX2_19 rfl (rv_1_0 ho) ?_
  refine aw_iconst hC dX2_spots_4 (v := 1) (by decide) ?_
  refine aw_iadd hC dX2_spots_5 ?_
  exact aw_iret hC dX2_spots_6 rfl rfl
set_option maxHeartbeats 4000000 in
set_option maxRecDepth 100000 in
theorem A_X2_back (l : Launch) (hl0 : l.stackTraces = false) (D : va_G) (loc : Rf → Nat) (cy : Nat → ClassId) (o : Nat) (ho : o < 10) (h : HD) : AM l D loc cy yX2_back cX2_back 1 (some .int) 0 16 [.ref (loc (1, o, 0))] h (some (.inr (some (.int (jX2_back o h))), h)) := by
  refine am_start (y := yX2_back) (av := [.ref (loc (1, o, 0))]) (nL := 1) (h := h) (RF := fun (r : Int32) => some (.inr (some (.int r)), h)) (x := jX2_back o h) hl0 (by decide +kernel) rfl ?_
  intro p e R s m below meth c A hC
  unfold jX2_back
  refine aw_aload_n hC dX2_back_0 rfl ?_
  refine aw_gfI hC dX2_back_1 fg_RX2_23 rfl (rv_1_0 ho) ?_
  exact aw_iret hC dX2_back_4 rfl rfl
set_option maxHeartbeats 4000000 in
set_option maxRecDepth 100000 in
theorem A_X4_open (l : Launch) (hl0 : l.stackTraces = false) (D : va_G) (loc : Rf → Nat) (cy : Nat → ClassId) (o : Nat) (ho : o < 2) (p1 : Int32) (p2 : Int32) (p3 : Bool) (h : HD) : AM l D loc cy yX4_open cX4_open 4 (none) 1 39 [.ref (loc (2, o, 0)), .int p1, .int p2, .int (b2i p3)] h ((jX4_open o p1 p2 p3 h).map (fun r => (.inr (none), r))) := by
  refine am_start (y := yX4_open) (av := [.ref (loc (2, o, 0)), .int p1, .int p2, .int (b2i p3)]) (nL := 4) (h := h) (RF := fun (r : Option HD) => r.map (fun r => (.inr (none), r))) (x := jX4_open o p1 p2 p3 h) hl0 (by decide +kernel) rfl ?_
  intro p e R s m below meth c A hC
  unfold jX4_open
  refine aw_aload_n hC dX4_open_0 rfl ?_
  refine aw_iload_n hC dX4_open_1 rfl ?_
  refine aw_bipush hC dX4_open_2 (v := 12) (by decide) ?_
  refine aw_icmp_ge hC dX4_open_4 (tgt := 11) (by decide) ?_ ?_
  · refine aw_bipush hC dX4_open_11 (v := 12) (by decide) ?_
    refine aw_pfI hC dX4_open_13 fg_RX4_24 fp_2_4 rfl (rv_2_0 ho) (fun h1 => ?_)
    refine aw_aload_n hC dX4_open_16 rfl ?_
    refine aw_iload_n hC dX4_open_17 rfl ?_
    refine aw_pfI hC dX4_open_18 fg_RX4_28 fp_2_5 rfl (rv_2_0 ho) (fun h2 => ?_)
    refine aw_aload_n hC dX4_open_21 rfl ?_
    refine aw_iload_n hC dX4_open_22 rfl ?_
    refine aw_pfZ hC dX4_open_23 fg_RX4_31 fp_2_6 rfl (rv_2_0 ho) rfl (fun h3 => ?_)
    refine aw_aload_n hC dX4_open_26 rfl ?_
    refine aw_iconst hC dX4_open_27 (v := 0) (by decide) ?_
    refine aw_pfI hC dX4_open_28 fg_RX4_35 fp_2_7 rfl (rv_2_0 ho) (fun h4 => ?_)
    refine aw_aload_n hC dX4_open_31 rfl ?_
    refine aw_gfR hC dX4_open_32 fg_RX4_21 rfl rfl (rv_2_0 ho) ?_
    refine aw_iconst hC dX4_open_35 (v := -1) (by decide) ?_
    refine aw_bind rfl (fun q5 hq5 => ?_)
    refine aw_cSv hC dX4_open_36 cv_RX4_67 (am_some (inj := (fun r => (.inr (none), r))) hq5 (A_J7_fill_53178 _ (hC.2.2.2.2.2.2.2.2.2.2.2.2.1) _ _ _ (2, o, 4) (rv_2_4 ho) rfl rfl (-1 : Int32) h4)) rfl rfl rfl rfl rfl ⟨rfl, rfl⟩ ?_
    exact aw_vret hC dX4_open_39 rfl rfl
  · refine aw_iload_n hC dX4_open_7 rfl ?_
    refine aw_goto hC dX4_open_8 (tgt := 13) (by decide) ?_
    refine aw_pfI hC dX4_open_13 fg_RX4_24 fp_2_4 rfl (rv_2_0 ho) (fun h6 => ?_)
    refine aw_aload_n hC dX4_open_16 rfl ?_
    refine aw_iload_n hC dX4_open_17 rfl ?_
    refine aw_pfI hC dX4_open_18 fg_RX4_28 fp_2_5 rfl (rv_2_0 ho) (fun h7 => ?_)
    refine aw_aload_n hC dX4_open_21 rfl ?_
    refine aw_iload_n hC dX4_open_22 rfl ?_
    refine aw_pfZ hC dX4_open_23 fg_RX4_31 fp_2_6 rfl (rv_2_0 ho) rfl (fun h8 => ?_)
    refine aw_aload_n hC dX4_open_26 rfl ?_
    refine aw_iconst hC dX4_open_27 (v := 0) (by decide) ?_
    refine aw_pfI hC dX4_open_28 fg_RX4_35 fp_2_7 rfl (rv_2_0 ho) (fun h9 => ?_)
    refine aw_aload_n hC dX4_open_31 rfl ?_
    refine aw_gfR hC dX4_open_32 fg_RX4_21 rfl rfl (rv_2_0 ho) ?_
    refine aw_iconst hC dX4_open_35 (v := -1) (by decide) ?_
    refine aw_bind rfl (fun q10 hq10 => ?_)
    refine aw_cSv hC dX4_open_36 cv_RX4_67 (am_some (inj := (fun r => (.inr (none), r))) hq10 (A_J7_fill_53178 _ (hC.2.2.2.2.2.2.2.2.2.2.2.2.1) _ _ _ (2, o, 4) (rv_2_4 ho) rfl rfl (-1 : Int32) h9)) rfl rfl rfl rfl rfl ⟨rfl, rfl⟩ ?_
    exact aw_vret hC dX4_open_39 rfl rfl
set_option maxHeartbeats 4000000 in
set_option maxRecDepth 100000 in
theorem A_X2_hasCar (l : Launch) (hl0 : l.stackTraces = false) (D : va_G) (loc : Rf → Nat) (cy : Nat → ClassId) (o : Nat) (ho : o < 10) (p1 : Int32) (h : HD) : AM l D loc cy yX2_hasCar cX2_hasCar 2 (some .boolean) 0 16 [.ref (loc (1, o, 0)), .int p1] h (some (.inr (some (.int (b2i (jX2_hasCar o p1 h)))), h)) := by
  refine am_start (y := yX2_hasCar) (av := [.ref (loc (1, o, 0)), .int p1]) (nL := 2) (h := h) (RF := fun (r : Bool) => some (.inr (some (.int (b2i r))), h)) (x := jX2_hasCar o p1 h) hl0 (by decide +kernel) rfl ?_
  intro p e R s m below meth c A hC
  unfold jX2_hasCar
  refine aw_iload_n hC dX2_hasCar_0 rfl ?_
  refine aw_if_lt hC dX2_hasCar_1 (tgt := 22) (by decide) ?_ ?_
  · refine aw_iconst hC dX2_hasCar_22 (v := 0) (by decide) ?_
    exact aw_zret hC dX2_hasCar_23 rfl (show _ = b2i false from rfl) rfl
  · refine aw_iload_n hC dX2_hasCar_4 rfl ?_
    refine aw_aload_n hC dX2_hasCar_5 rfl ?_
    refine aw_gfI hC dX2_hasCar_6 fg_RX2_19 rfl (rv_1_0 ho) ?_
    refine aw_icmp_ge hC dX2_hasCar_9 (tgt := 22) (by decide) ?_ ?_
    · refine aw_iconst hC dX2_hasCar_22 (v := 0) (by decide) ?_
      exact aw_zret hC dX2_hasCar_23 rfl (show _ = b2i false from rfl) rfl
    · refine aw_iload_n hC dX2_hasCar_12 rfl ?_
      refine aw_bipush hC dX2_hasCar_13 (v := 11) (by decide) ?_
      refine aw_icmp_ge hC dX2_hasCar_15 (tgt := 22) (by decide) ?_ ?_
      · refine aw_iconst hC dX2_hasCar_22 (v := 0) (by decide) ?_
        exact aw_zret hC dX2_hasCar_23 rfl (show _ = b2i false from rfl) rfl
      · refine aw_iconst hC dX2_hasCar_18 (v := 1) (by decide) ?_
        refine aw_goto hC dX2_hasCar_19 (tgt := 23) (by decide) ?_
        exact aw_zret hC dX2_hasCar_23 rfl (show _ = b2i true from rfl) rfl
set_option maxHeartbeats 4000000 in
set_option maxRecDepth 100000 in
theorem A_X2_preferenceOf (l : Launch) (hl0 : l.stackTraces = false) (D : va_G) (loc : Rf → Nat) (cy : Nat → ClassId) (o : Nat) (ho : o < 10) (p1 : Int32) (h : HD) : AM l D loc cy yX2_preferenceOf cX2_preferenceOf 2 (some .int) 1 37 [.ref (loc (1, o, 0)), .int p1] h ((jX2_preferenceOf o p1 h).map (fun r => (.inr (some (.int r)), h))) := by
  refine am_start (y := yX2_preferenceOf) (av := [.ref (loc (1, o, 0)), .int p1]) (nL := 2) (h := h) (RF := fun (r : Option Int32) => r.map (fun r => (.inr (some (.int r)), h))) (x := jX2_preferenceOf o p1 h) hl0 (by decide +kernel) rfl ?_
  intro p e R s m below meth c A hC
  unfold jX2_preferenceOf
  refine aw_aload_n hC dX2_preferenceOf_0 rfl ?_
  refine aw_iload_n hC dX2_preferenceOf_1 rfl ?_
  refine aw_cVb hC dX2_preferenceOf_2 cv_RX2_26 rfl (rv_1_0 ho) (A_X2_hasCar _ (hC.2.2.2.2.2.2.2.2.2.2.2.2.1) _ _ _ o ho p1 h) rfl rfl rfl rfl rfl ⟨rfl, rfl⟩ ?_
  refine aw_if_eq_b hC dX2_preferenceOf_5 (tgt := 17) (by decide) ?_ ?_
  · refine aw_iconst hC dX2_preferenceOf_17 (v := -1) (by decide) ?_
    exact aw_iret hC dX2_preferenceOf_18 rfl rfl
  · refine aw_aload_n hC dX2_preferenceOf_8 rfl ?_
    refine aw_gfR hC dX2_preferenceOf_9 fg_RX2_15 rfl rfl (rv_1_0 ho) ?_
    refine aw_iload_n hC dX2_preferenceOf_12 rfl ?_
    refine aw_guard rfl (fun g1 => ?_)
    refine aw_iald hC dX2_preferenceOf_13 (rv_1_2 ho) rfl rfl g1 rfl ?_
    refine aw_goto hC dX2_preferenceOf_14 (tgt := 18) (by decide) ?_
    exact aw_iret hC dX2_preferenceOf_18 rfl rfl
set_option maxHeartbeats 4000000 in
set_option maxRecDepth 100000 in
theorem A_X4_isSpot (l : Launch) (hl0 : l.stackTraces = false) (D : va_G) (loc : Rf → Nat) (cy : Nat → ClassId) (o : Nat) (ho : o < 2) (p1 : Int32) (h : HD) : AM l D loc cy yX4_isSpot cX4_isSpot 2 (some .boolean) 0 16 [.ref (loc (2, o, 0)), .int p1] h (some (.inr (some (.int (b2i (jX4_isSpot o p1 h)))), h)) := by
  refine am_start (y := yX4_isSpot) (av := [.ref (loc (2, o, 0)), .int p1]) (nL := 2) (h := h) (RF := fun (r : Bool) => some (.inr (some (.int (b2i r))), h)) (x := jX4_isSpot o p1 h) hl0 (by decide +kernel) rfl ?_
  intro p e R s m below meth c A hC
  unfold jX4_isSpot
  refine aw_iload_n hC dX4_isSpot_0 rfl ?_
  refine aw_if_lt hC dX4_isSpot_1 (tgt := 22) (by decide) ?_ ?_
  · refine aw_iconst hC dX4_isSpot_22 (v := 0) (by decide) ?_
    exact aw_zret hC dX4_isSpot_23 rfl (show _ = b2i false from rfl) rfl
  · refine aw_iload_n hC dX4_isSpot_4 rfl ?_
    refine aw_aload_n hC dX4_isSpot_5 rfl ?_
    refine aw_gfI hC dX4_isSpot_6 fg_RX4_24 rfl (rv_2_0 ho) ?_
    refine aw_icmp_ge hC dX4_isSpot_9 (tgt := 22) (by decide) ?_ ?_
    · refine aw_iconst hC dX4_isSpot_22 (v := 0) (by decide) ?_
      exact aw_zret hC dX4_isSpot_23 rfl (show _ = b2i false from rfl) rfl
    · refine aw_iload_n hC dX4_isSpot_12 rfl ?_
      refine aw_bipush hC dX4_isSpot_13 (v := 12) (by decide) ?_
      refine aw_icmp_ge hC dX4_isSpot_15 (tgt := 22) (by decide) ?_ ?_
      · refine aw_iconst hC dX4_isSpot_22 (v := 0) (by decide) ?_
        exact aw_zret hC dX4_isSpot_23 rfl (show _ = b2i false from rfl) rfl
      · refine aw_iconst hC dX4_isSpot_18 (v := 1) (by decide) ?_
        refine aw_goto hC dX4_isSpot_19 (tgt := 23) (by decide) ?_
        exact aw_zret hC dX4_isSpot_23 rfl (show _ = b2i true from rfl) rfl
set_option maxHeartbeats 4000000 in
set_option maxRecDepth 100000 in
theorem A_X4_isFree (l : Launch) (hl0 : l.stackTraces = false) (D : va_G) (loc : Rf → Nat) (cy : Nat → ClassId) (o : Nat) (ho : o < 2) (p1 : Int32) (h : HD) : AM l D loc cy yX4_isFree cX4_isFree 2 (some .boolean) 1 37 [.ref (loc (2, o, 0)), .int p1] h ((jX4_isFree o p1 h).map (fun r => (.inr (some (.int (b2i r))), h))) := by
  refine am_start (y := yX4_isFree) (av := [.ref (loc (2, o, 0)), .int p1]) (nL := 2) (h := h) (RF := fun (r : Option Bool) => r.map (fun r => (.inr (some (.int (b2i r))), h))) (x := jX4_isFree o p1 h) hl0 (by decide +kernel) rfl ?_
  intro p e R s m below meth c A hC
  unfold jX4_isFree
  refine aw_aload_n hC dX4_isFree_0 rfl ?_
  refine aw_iload_n hC dX4_isFree_1 rfl ?_
  refine aw_cVb hC dX4_isFree_2 cv_RX4_87 rfl (rv_2_0 ho) (A_X4_isSpot _ (hC.2.2.2.2.2.2.2.2.2.2.2.2.1) _ _ _ o ho p1 h) rfl rfl rfl rfl rfl ⟨rfl, rfl⟩ ?_
  refine aw_if_eq_b hC dX4_isFree_5 (tgt := 22) (by decide) ?_ ?_
  · refine aw_iconst hC dX4_isFree_22 (v := 0) (by decide) ?_
    exact aw_zret hC dX4_isFree_23 rfl (show _ = b2i false from rfl) rfl
  · refine aw_aload_n hC dX4_isFree_8 rfl ?_
    refine aw_gfR hC dX4_isFree_9 fg_RX4_21 rfl rfl (rv_2_0 ho) ?_
    refine aw_iload_n hC dX4_isFree_12 rfl ?_
    refine aw_guard rfl (fun g1 => ?_)
    refine aw_iald hC dX4_isFree_13 (rv_2_4 ho) rfl rfl g1 rfl ?_
    refine aw_iconst hC dX4_isFree_14 (v := -1) (by decide) ?_
    refine aw_icmp_ne hC dX4_isFree_15 (tgt := 22) (by decide) ?_ ?_
    · refine aw_iconst hC dX4_isFree_22 (v := 0) (by decide) ?_
      exact aw_zret hC dX4_isFree_23 rfl (show _ = b2i false from rfl) rfl
    · refine aw_iconst hC dX4_isFree_18 (v := 1) (by decide) ?_
      refine aw_goto hC dX4_isFree_19 (tgt := 23) (by decide) ?_
      exact aw_zret hC dX4_isFree_23 rfl (show _ = b2i true from rfl) rfl
set_option maxHeartbeats 4000000 in
set_option maxRecDepth 100000 in
theorem A_X8_wrapped (l : Launch) (hl0 : l.stackTraces = false) (D : va_G) (loc : Rf → Nat) (cy : Nat → ClassId) (p1 : Int32) (p2 : Int32) (h : HD) : AM l D loc cy yX8_wrapped cX8_wrapped 2 (some .int) 1 38 [.int p1, .int p2] h ((jX8_wrapped p1 p2 h).map (fun r => (.inr (some (.int r)), h))) := by
  refine am_start (y := yX8_wrapped) (av := [.int p1, .int p2]) (nL := 2) (h := h) (RF := fun (r : Option Int32) => r.map (fun r => (.inr (some (.int r)), h))) (x := jX8_wrapped p1 p2 h) hl0 (by decide +kernel) rfl ?_
  intro p e R s m below meth c A hC
  unfold jX8_wrapped
  refine aw_iload_n hC dX8_wrapped_0 rfl ?_
  refine aw_iconst hC dX8_wrapped_1 (v := 1) (by decide) ?_
  refine aw_icmp_ge hC dX8_wrapped_2 (tgt := 9) (by decide) ?_ ?_
  · refine aw_iload_n hC dX8_wrapped_9 rfl ?_
    refine aw_iload_n hC dX8_wrapped_10 rfl ?_
    refine aw_bind rfl (fun q1 hq1 => ?_)
    refine aw_cSi hC dX8_wrapped_11 cv_RX8_526 (am_some (inj := (fun r => (.inr (some (.int r)), h))) hq1 (A_J9_floorMod_7cf53 _ (hC.2.2.2.2.2.2.2.2.2.2.2.2.1) _ _ _ p1 p2 h)) rfl rfl rfl rfl rfl ⟨rfl, rfl⟩ ?_
    exact aw_iret hC dX8_wrapped_14 rfl rfl
  · refine aw_iconst hC dX8_wrapped_5 (v := -1) (by decide) ?_
    refine aw_goto hC dX8_wrapped_6 (tgt := 14) (by decide) ?_
    exact aw_iret hC dX8_wrapped_14 rfl rfl
set_option maxHeartbeats 4000000 in
set_option maxRecDepth 100000 in
theorem A_X4_spotAt (l : Launch) (hl0 : l.stackTraces = false) (D : va_G) (loc : Rf → Nat) (cy : Nat → ClassId) (o : Nat) (ho : o < 2) (p1 : Int32) (h : HD) : AM l D loc cy yX4_spotAt cX4_spotAt 2 (some .int) 2 59 [.ref (loc (2, o, 0)), .int p1] h ((jX4_spotAt o p1 h).map (fun r => (.inr (some (.int r)), h))) := by
  refine am_start (y := yX4_spotAt) (av := [.ref (loc (2, o, 0)), .int p1]) (nL := 2) (h := h) (RF := fun (r : Option Int32) => r.map (fun r => (.inr (some (.int r)), h))) (x := jX4_spotAt o p1 h) hl0 (by decide +kernel) rfl ?_
  intro p e R s m below meth c A hC
  unfold jX4_spotAt
  refine aw_aload_n hC dX4_spotAt_0 rfl ?_
  refine aw_gfI hC dX4_spotAt_1 fg_RX4_31 rfl (rv_2_0 ho) ?_
  refine aw_if_eq hC dX4_spotAt_4 (tgt := 18) (by decide) ?_ ?_
  · refine aw_iload_n hC dX4_spotAt_18 rfl ?_
    exact aw_iret hC dX4_spotAt_19 rfl rfl
  · refine aw_iload_n hC dX4_spotAt_7 rfl ?_
    refine aw_aload_n hC dX4_spotAt_8 rfl ?_
    refine aw_gfI hC dX4_spotAt_9 fg_RX4_24 rfl (rv_2_0 ho) ?_
    refine aw_bind rfl (fun q1 hq1 => ?_)
    refine aw_cNi hC dX4_spotAt_12 cv_RX4_83 (am_some (inj := (fun r => (.inr (some (.int r)), h))) hq1 (A_X8_wrapped _ (hC.2.2.2.2.2.2.2.2.2.2.2.2.1) _ _ _ p1 (gI h (2, o, 0) 4) h)) rfl rfl rfl rfl rfl ⟨rfl, rfl⟩ ?_
    refine aw_goto hC dX4_spotAt_15 (tgt := 19) (by decide) ?_
    exact aw_iret hC dX4_spotAt_19 rfl rfl
set_option maxHeartbeats 4000000 in
set_option maxRecDepth 100000 in
theorem L_X4_moveFrom_12 (o : Nat) (ho : o < 2) (p1 : Int32) (h : HD) (k43 : Option Int32) (hC : Cx p l e R s m args meth c D loc cy A cX4_moveFrom 3 (some .int) RX4 3 80 0 0) (hk43 : AW p l e R s m args below meth c D loc cy A 3 (QM below D loc cy A args s) (fun (r : Option Int32) => r.map (fun r => (.inr (some (.int r)), h))) (0, 0) 43 [(0, .ref (loc (2, o, 0))), (1, .int p1)] [] h (k43)) : ∀ (n12 : Nat) (x2 : Int32), AW p l e R s m args below meth c D loc cy A 3 (QM below D loc cy A args s) (fun (r : Option Int32) => r.map (fun r => (.inr (some (.int r)), h))) (0, 0) 12 [(0, .ref (loc (2, o, 0))), (1, .int p1), (2, .int x2)] [] h (jX4_moveFrom_L12 o p1 h k43 n12 x2) := by
  intro n12
  induction n12 with
  | zero => intro x2; exact aw_none rfl
  | succ n12 ih12 =>
    intro x2
    rw [jX4_moveFrom_L12]
    refine aw_iload_n hC dX4_moveFrom_12 rfl ?_
    refine aw_aload_n hC dX4_moveFrom_13 rfl ?_
    refine aw_gfI hC dX4_moveFrom_14 fg_RX4_28 rfl (rv_2_0 ho) ?_
    refine aw_icmp_gt hC dX4_moveFrom_17 (tgt := 43) (by decide) ?_ ?_
    · refine aw_sub [0, 1] ?_
      exact hk43
    · refine aw_aload_n hC dX4_moveFrom_20 rfl ?_
      refine aw_aload_n hC dX4_moveFrom_21 rfl ?_
      refine aw_iload_n hC dX4_moveFrom_22 rfl ?_
      refine aw_iload_n hC dX4_moveFrom_23 rfl ?_
      refine aw_isub hC dX4_moveFrom_24 ?_
      refine aw_bind rfl (fun q2 hq2 => ?_)
      refine aw_cVi hC dX4_moveFrom_25 cv_RX4_76 rfl (rv_2_0 ho) (am_some (inj := (fun r => (.inr (some (.int r)), h))) hq2 (A_X4_spotAt _ (hC.2.2.2.2.2.2.2.2.2.2.2.2.1) _ _ _ o ho (p1 - x2) h)) rfl rfl rfl rfl rfl ⟨rfl, rfl⟩ ?_
      refine aw_bind rfl (fun q3 hq3 => ?_)
      refine aw_cVb hC dX4_moveFrom_28 cv_RX4_79 rfl (rv_2_0 ho) (am_some (inj := (fun r => (.inr (some (.int (b2i r))), h))) hq3 (A_X4_isFree _ (hC.2.2.2.2.2.2.2.2.2.2.2.2.1) _ _ _ o ho q2 h)) rfl rfl rfl rfl rfl ⟨rfl, rfl⟩ ?_
      refine aw_if_eq_b hC dX4_moveFrom_31 (tgt := 37) (by decide) ?_ ?_
      · refine aw_iinc hC dX4_moveFrom_37 rfl (v := x2 + 1) (by first | rfl | decide) (by decide) ?_
        refine aw_goto hC dX4_moveFrom_40 (tgt := 12) (by decide) ?_
        refine aw_sub [0, 1, 2] ?_
        exact ih12 (x2 + 1)
      · refine aw_iload_n hC dX4_moveFrom_34 rfl ?_
        refine aw_ineg hC dX4_moveFrom_35 ?_
        exact aw_iret hC dX4_moveFrom_36 rfl rfl
set_option maxHeartbeats 4000000 in
set_option maxRecDepth 100000 in
theorem L_X4_moveFrom_45 (o : Nat) (ho : o < 2) (p1 : Int32) (h : HD) (hC : Cx p l e R s m args meth c D loc cy A cX4_moveFrom 3 (some .int) RX4 3 80 0 0)  : ∀ (n45 : Nat) (x2 : Int32), AW p l e R s m args below meth c D loc cy A 3 (QM below D loc cy A args s) (fun (r : Option Int32) => r.map (fun r => (.inr (some (.int r)), h))) (0, 0) 45 [(0, .ref (loc (2, o, 0))), (1, .int p1), (2, .int x2)] [] h (jX4_moveFrom_L45 o p1 h n45 x2) := by
  intro n45
  induction n45 with
  | zero => intro x2; exact aw_none rfl
  | succ n45 ih45 =>
    intro x2
    rw [jX4_moveFrom_L45]
    refine aw_iload_n hC dX4_moveFrom_45 rfl ?_
    refine aw_aload_n hC dX4_moveFrom_46 rfl ?_
    refine aw_gfI hC dX4_moveFrom_47 fg_RX4_24 rfl (rv_2_0 ho) ?_
    refine aw_icmp_ge hC dX4_moveFrom_50 (tgt := 75) (by decide) ?_ ?_
    · refine aw_iconst hC dX4_moveFrom_75 (v := 0) (by decide) ?_
      exact aw_iret hC dX4_moveFrom_76 rfl rfl
    · refine aw_aload_n hC dX4_moveFrom_53 rfl ?_
      refine aw_aload_n hC dX4_moveFrom_54 rfl ?_
      refine aw_iload_n hC dX4_moveFrom_55 rfl ?_
      refine aw_iload_n hC dX4_moveFrom_56 rfl ?_
      refine aw_iadd hC dX4_moveFrom_57 ?_
      refine aw_bind rfl (fun q4 hq4 => ?_)
      refine aw_cVi hC dX4_moveFrom_58 cv_RX4_76 rfl (rv_2_0 ho) (am_some (inj := (fun r => (.inr (some (.int r)), h))) hq4 (A_X4_spotAt _ (hC.2.2.2.2.2.2.2.2.2.2.2.2.1) _ _ _ o ho (p1 + x2) h)) rfl rfl rfl rfl rfl ⟨rfl, rfl⟩ ?_
      refine aw_bind rfl (fun q5 hq5 => ?_)
      refine aw_cVb hC dX4_moveFrom_61 cv_RX4_79 rfl (rv_2_0 ho) (am_some (inj := (fun r => (.inr (some (.int (b2i r))), h))) hq5 (A_X4_isFree _ (hC.2.2.2.2.2.2.2.2.2.2.2.2.1) _ _ _ o ho q4 h)) rfl rfl rfl rfl rfl ⟨rfl, rfl⟩ ?_
      refine aw_if_eq_b hC dX4_moveFrom_64 (tgt := 69) (by decide) ?_ ?_
      · refine aw_iinc hC dX4_moveFrom_69 rfl (v := x2 + 1) (by first | rfl | decide) (by decide) ?_
        refine aw_goto hC dX4_moveFrom_72 (tgt := 45) (by decide) ?_
        refine aw_sub [0, 1, 2] ?_
        exact ih45 (x2 + 1)
      · refine aw_iload_n hC dX4_moveFrom_67 rfl ?_
        exact aw_iret hC dX4_moveFrom_68 rfl rfl
set_option maxHeartbeats 4000000 in
set_option maxRecDepth 100000 in
theorem A_X4_moveFrom (l : Launch) (hl0 : l.stackTraces = false) (D : va_G) (loc : Rf → Nat) (cy : Nat → ClassId) (o : Nat) (ho : o < 2) (p1 : Int32) (h : HD) : AM l D loc cy yX4_moveFrom cX4_moveFrom 3 (some .int) 3 80 [.ref (loc (2, o, 0)), .int p1] h ((jX4_moveFrom o p1 h).map (fun r => (.inr (some (.int r)), h))) := by
  refine am_start (y := yX4_moveFrom) (av := [.ref (loc (2, o, 0)), .int p1]) (nL := 3) (h := h) (RF := fun (r : Option Int32) => r.map (fun r => (.inr (some (.int r)), h))) (x := jX4_moveFrom o p1 h) hl0 (by decide +kernel) rfl ?_
  intro p e R s m below meth c A hC
  unfold jX4_moveFrom
  refine aw_aload_n hC dX4_moveFrom_0 rfl ?_
  refine aw_iload_n hC dX4_moveFrom_1 rfl ?_
  refine aw_bind rfl (fun q1 hq1 => ?_)
  refine aw_cVb hC dX4_moveFrom_2 cv_RX4_79 rfl (rv_2_0 ho) (am_some (inj := (fun r => (.inr (some (.int (b2i r))), h))) hq1 (A_X4_isFree _ (hC.2.2.2.2.2.2.2.2.2.2.2.2.1) _ _ _ o ho p1 h)) rfl rfl rfl rfl rfl ⟨rfl, rfl⟩ ?_
  refine aw_if_eq_b hC dX4_moveFrom_5 (tgt := 10) (by decide) ?_ ?_
  · refine aw_iconst hC dX4_moveFrom_10 (v := 1) (by decide) ?_
    refine aw_istore_n hC dX4_moveFrom_11 (by decide) ?_
    refine aw_sub [0, 1, 2] ?_
    refine L_X4_moveFrom_12 o ho p1 h _ hC ?_ FU (1 : Int32)
    · refine aw_iconst hC dX4_moveFrom_43 (v := 1) (by decide) ?_
      refine aw_istore_n hC dX4_moveFrom_44 (by decide) ?_
      refine aw_sub [0, 1, 2] ?_
      exact L_X4_moveFrom_45 o ho p1 h  hC FU (1 : Int32)
  · refine aw_iconst hC dX4_moveFrom_8 (v := 0) (by decide) ?_
    exact aw_iret hC dX4_moveFrom_9 rfl rfl
set_option maxHeartbeats 4000000 in
set_option maxRecDepth 100000 in
theorem A_X4_bring (l : Launch) (hl0 : l.stackTraces = false) (D : va_G) (loc : Rf → Nat) (cy : Nat → ClassId) (o : Nat) (ho : o < 2) (p1 : Int32) (h : HD) : AM l D loc cy yX4_bring cX4_bring 4 (none) 4 102 [.ref (loc (2, o, 0)), .int p1] h ((jX4_bring o p1 h).map (fun r => (.inr (none), r))) := by
  refine am_start (y := yX4_bring) (av := [.ref (loc (2, o, 0)), .int p1]) (nL := 4) (h := h) (RF := fun (r : Option HD) => r.map (fun r => (.inr (none), r))) (x := jX4_bring o p1 h) hl0 (by decide +kernel) rfl ?_
  intro p e R s m below meth c A hC
  unfold jX4_bring
  refine aw_aload_n hC dX4_bring_0 rfl ?_
  refine aw_gfI hC dX4_bring_1 fg_RX4_35 rfl (rv_2_0 ho) ?_
  refine aw_bipush hC dX4_bring_4 (v := 11) (by decide) ?_
  refine aw_icmp_lt hC dX4_bring_6 (tgt := 10) (by decide) ?_ ?_
  · refine aw_aload_n hC dX4_bring_10 rfl ?_
    refine aw_iload_n hC dX4_bring_11 rfl ?_
    refine aw_bind rfl (fun q1 hq1 => ?_)
    refine aw_cVi hC dX4_bring_12 cv_RX4_73 rfl (rv_2_0 ho) (am_some (inj := (fun r => (.inr (some (.int r)), h))) hq1 (A_X4_moveFrom _ (hC.2.2.2.2.2.2.2.2.2.2.2.2.1) _ _ _ o ho p1 h)) rfl rfl rfl rfl rfl ⟨rfl, rfl⟩ ?_
    refine aw_istore_n hC dX4_bring_15 (by decide) ?_
    refine aw_aload_n hC dX4_bring_16 rfl ?_
    refine aw_iload_n hC dX4_bring_17 rfl ?_
    refine aw_iload_n hC dX4_bring_18 rfl ?_
    refine aw_iadd hC dX4_bring_19 ?_
    refine aw_bind rfl (fun q2 hq2 => ?_)
    refine aw_cVi hC dX4_bring_20 cv_RX4_76 rfl (rv_2_0 ho) (am_some (inj := (fun r => (.inr (some (.int r)), h))) hq2 (A_X4_spotAt _ (hC.2.2.2.2.2.2.2.2.2.2.2.2.1) _ _ _ o ho (p1 + q1) h)) rfl rfl rfl rfl rfl ⟨rfl, rfl⟩ ?_
    refine aw_istore_n hC dX4_bring_23 (by decide) ?_
    refine aw_aload_n hC dX4_bring_24 rfl ?_
    refine aw_gfR hC dX4_bring_25 fg_RX4_9 rfl rfl (rv_2_0 ho) ?_
    refine aw_aload_n hC dX4_bring_28 rfl ?_
    refine aw_gfI hC dX4_bring_29 fg_RX4_35 rfl (rv_2_0 ho) ?_
    refine aw_iload_n hC dX4_bring_32 rfl ?_
    refine aw_guard rfl (fun g4 => ?_)
    refine aw_iast hC dX4_bring_33 (rv_2_1 ho) rfl rfl g4 rfl (fun h3 => ?_)
    refine aw_aload_n hC dX4_bring_34 rfl ?_
    refine aw_gfR hC dX4_bring_35 fg_RX4_18 rfl rfl (rv_2_0 ho) ?_
    refine aw_aload_n hC dX4_bring_38 rfl ?_
    refine aw_gfI hC dX4_bring_39 fg_RX4_35 rfl (rv_2_0 ho) ?_
    refine aw_iload_n hC dX4_bring_42 rfl ?_
    refine aw_guard rfl (fun g6 => ?_)
    refine aw_iast hC dX4_bring_43 (rv_2_3 ho) rfl rfl g6 rfl (fun h5 => ?_)
    refine aw_aload_n hC dX4_bring_44 rfl ?_
    refine aw_gfR hC dX4_bring_45 fg_RX4_15 rfl rfl (rv_2_0 ho) ?_
    refine aw_aload_n hC dX4_bring_48 rfl ?_
    refine aw_gfI hC dX4_bring_49 fg_RX4_35 rfl (rv_2_0 ho) ?_
    refine aw_iconst hC dX4_bring_52 (v := -1) (by decide) ?_
    refine aw_guard rfl (fun g8 => ?_)
    refine aw_iast hC dX4_bring_53 (rv_2_2 ho) rfl rfl g8 rfl (fun h7 => ?_)
    refine aw_aload_n hC dX4_bring_54 rfl ?_
    refine aw_iload_n hC dX4_bring_55 rfl ?_
    refine aw_bind rfl (fun q9 hq9 => ?_)
    refine aw_cVb hC dX4_bring_56 cv_RX4_79 rfl (rv_2_0 ho) (am_some (inj := (fun r => (.inr (some (.int (b2i r))), h7))) hq9 (A_X4_isFree _ (hC.2.2.2.2.2.2.2.2.2.2.2.2.1) _ _ _ o ho q2 h7)) rfl rfl rfl rfl rfl ⟨rfl, rfl⟩ ?_
    refine aw_if_eq_b hC dX4_bring_59 (tgt := 82) (by decide) ?_ ?_
    · refine aw_aload_n hC dX4_bring_82 rfl ?_
      refine aw_dup hC dX4_bring_83 rfl ?_
      refine aw_gfI hC dX4_bring_84 fg_RX4_35 rfl (rv_2_0 ho) ?_
      refine aw_iconst hC dX4_bring_87 (v := 1) (by decide) ?_
      refine aw_iadd hC dX4_bring_88 ?_
      refine aw_pfI hC dX4_bring_89 fg_RX4_35 fp_2_7 rfl (rv_2_0 ho) (fun h10 => ?_)
      exact aw_vret hC dX4_bring_92 rfl rfl
    · refine aw_aload_n hC dX4_bring_62 rfl ?_
      refine aw_gfR hC dX4_bring_63 fg_RX4_15 rfl rfl (rv_2_0 ho) ?_
      refine aw_aload_n hC dX4_bring_66 rfl ?_
      refine aw_gfI hC dX4_bring_67 fg_RX4_35 rfl (rv_2_0 ho) ?_
      refine aw_iload_n hC dX4_bring_70 rfl ?_
      refine aw_guard rfl (fun g12 => ?_)
      refine aw_iast hC dX4_bring_71 (rv_2_2 ho) rfl rfl g12 rfl (fun h11 => ?_)
      refine aw_aload_n hC dX4_bring_72 rfl ?_
      refine aw_gfR hC dX4_bring_73 fg_RX4_21 rfl rfl (rv_2_0 ho) ?_
      refine aw_iload_n hC dX4_bring_76 rfl ?_
      refine aw_aload_n hC dX4_bring_77 rfl ?_
      refine aw_gfI hC dX4_bring_78 fg_RX4_35 rfl (rv_2_0 ho) ?_
      refine aw_guard rfl (fun g14 => ?_)
      refine aw_iast hC dX4_bring_81 (rv_2_4 ho) rfl rfl g14 rfl (fun h13 => ?_)
      refine aw_aload_n hC dX4_bring_82 rfl ?_
      refine aw_dup hC dX4_bring_83 rfl ?_
      refine aw_gfI hC dX4_bring_84 fg_RX4_35 rfl (rv_2_0 ho) ?_
      refine aw_iconst hC dX4_bring_87 (v := 1) (by decide) ?_
      refine aw_iadd hC dX4_bring_88 ?_
      refine aw_pfI hC dX4_bring_89 fg_RX4_35 fp_2_7 rfl (rv_2_0 ho) (fun h15 => ?_)
      exact aw_vret hC dX4_bring_92 rfl rfl
  · exact aw_vret hC dX4_bring_9 rfl rfl
set_option maxHeartbeats 4000000 in
set_option maxRecDepth 100000 in
theorem L_X4_findFree_7 (o : Nat) (ho : o < 2) (hC : Cx p l e R s m args meth c D loc cy A cX4_findFree 2 (none) RX4 2 58 0 0)  : ∀ (n7 : Nat) (x1 : Int32) (h : HD), AW p l e R s m args below meth c D loc cy A 2 (QM below D loc cy A args s) (fun (r : Option HD) => r.map (fun r => (.inr (none), r))) (0, 0) 7 [(0, .ref (loc (2, o, 0))), (1, .int x1)] [] h (jX4_findFree_L7 o n7 x1 h) := by
  intro n7
  induction n7 with
  | zero => intro x1 h; exact aw_none rfl
  | succ n7 ih7 =>
    intro x1 h
    rw [jX4_findFree_L7]
    refine aw_iload_n hC dX4_findFree_7 rfl ?_
    refine aw_aload_n hC dX4_findFree_8 rfl ?_
    refine aw_gfI hC dX4_findFree_9 fg_RX4_24 rfl (rv_2_0 ho) ?_
    refine aw_icmp_ge hC dX4_findFree_12 (tgt := 42) (by decide) ?_ ?_
    · exact aw_vret hC dX4_findFree_42 rfl rfl
    · refine aw_aload_n hC dX4_findFree_15 rfl ?_
      refine aw_gfI hC dX4_findFree_16 fg_RX4_38 rfl (rv_2_0 ho) ?_
      refine aw_iconst hC dX4_findFree_19 (v := -1) (by decide) ?_
      refine aw_icmp_ne hC dX4_findFree_20 (tgt := 42) (by decide) ?_ ?_
      · exact aw_vret hC dX4_findFree_42 rfl rfl
      · refine aw_aload_n hC dX4_findFree_23 rfl ?_
        refine aw_iload_n hC dX4_findFree_24 rfl ?_
        refine aw_bind rfl (fun q2 hq2 => ?_)
        refine aw_cVb hC dX4_findFree_25 cv_RX4_79 rfl (rv_2_0 ho) (am_some (inj := (fun r => (.inr (some (.int (b2i r))), h))) hq2 (A_X4_isFree _ (hC.2.2.2.2.2.2.2.2.2.2.2.2.1) _ _ _ o ho x1 h)) rfl rfl rfl rfl rfl ⟨rfl, rfl⟩ ?_
        refine aw_if_eq_b hC dX4_findFree_28 (tgt := 36) (by decide) ?_ ?_
        · refine aw_iinc hC dX4_findFree_36 rfl (v := x1 + 1) (by first | rfl | decide) (by decide) ?_
          refine aw_goto hC dX4_findFree_39 (tgt := 7) (by decide) ?_
          refine aw_sub [0, 1] ?_
          exact ih7 (x1 + 1) h
        · refine aw_aload_n hC dX4_findFree_31 rfl ?_
          refine aw_iload_n hC dX4_findFree_32 rfl ?_
          refine aw_pfI hC dX4_findFree_33 fg_RX4_38 fp_2_8 rfl (rv_2_0 ho) (fun h3 => ?_)
          refine aw_iinc hC dX4_findFree_36 rfl (v := x1 + 1) (by first | rfl | decide) (by decide) ?_
          refine aw_goto hC dX4_findFree_39 (tgt := 7) (by decide) ?_
          refine aw_sub [0, 1] ?_
          exact ih7 (x1 + 1) h3
set_option maxHeartbeats 4000000 in
set_option maxRecDepth 100000 in
theorem A_X4_findFree (l : Launch) (hl0 : l.stackTraces = false) (D : va_G) (loc : Rf → Nat) (cy : Nat → ClassId) (o : Nat) (ho : o < 2) (h : HD) : AM l D loc cy yX4_findFree cX4_findFree 2 (none) 2 58 [.ref (loc (2, o, 0))] h ((jX4_findFree o h).map (fun r => (.inr (none), r))) := by
  refine am_start (y := yX4_findFree) (av := [.ref (loc (2, o, 0))]) (nL := 2) (h := h) (RF := fun (r : Option HD) => r.map (fun r => (.inr (none), r))) (x := jX4_findFree o h) hl0 (by decide +kernel) rfl ?_
  intro p e R s m below meth c A hC
  unfold jX4_findFree
  refine aw_aload_n hC dX4_findFree_0 rfl ?_
  refine aw_iconst hC dX4_findFree_1 (v := -1) (by decide) ?_
  refine aw_pfI hC dX4_findFree_2 fg_RX4_38 fp_2_8 rfl (rv_2_0 ho) (fun h1 => ?_)
  refine aw_iconst hC dX4_findFree_5 (v := 0) (by decide) ?_
  refine aw_istore_n hC dX4_findFree_6 (by decide) ?_
  refine aw_sub [0, 1] ?_
  exact L_X4_findFree_7 o ho  hC FU (0 : Int32) h1
set_option maxHeartbeats 4000000 in
set_option maxRecDepth 100000 in
theorem L_X4_comeRound_15 (o : Nat) (ho : o < 2) (r1 : Nat) (hr1 : r1 < 10) (p2 : Int32) (k35 : HD → Option HD) (hC : Cx p l e R s m args meth c D loc cy A cX4_comeRound 4 (none) RX4 5 125 0 0) (hk35 : ∀  (h2 : HD), AW p l e R s m args below meth c D loc cy A 4 (QM below D loc cy A args s) (fun (r : Option HD) => r.map (fun r => (.inr (none), r))) (0, 0) 35 [(0, .ref (loc (2, o, 0)))] [] h2 (k35  h2)) : ∀ (n15 : Nat) (x3 : Int32) (h : HD), AW p l e R s m args below meth c D loc cy A 4 (QM below D loc cy A args s) (fun (r : Option HD) => r.map (fun r => (.inr (none), r))) (0, 0) 15 [(0, .ref (loc (2, o, 0))), (1, .ref (loc (1, r1, 0))), (2, .int p2), (3, .int x3)] [] h (jX4_comeRound_L15 o r1 p2 k35 n15 x3 h) := by
  intro n15
  induction n15 with
  | zero => intro x3 h; exact aw_none rfl
  | succ n15 ih15 =>
    intro x3 h
    rw [jX4_comeRound_L15]
    refine aw_iload_n hC dX4_comeRound_15 rfl ?_
    refine aw_iload_n hC dX4_comeRound_16 rfl ?_
    refine aw_icmp_ge hC dX4_comeRound_17 (tgt := 35) (by decide) ?_ ?_
    · refine aw_sub [0] ?_
      exact hk35 h
    · refine aw_aload_n hC dX4_comeRound_20 rfl ?_
      refine aw_aload_n hC dX4_comeRound_21 rfl ?_
      refine aw_iload_n hC dX4_comeRound_22 rfl ?_
      refine aw_bind rfl (fun q2 hq2 => ?_)
      refine aw_cVi hC dX4_comeRound_23 cv_RX4_53 rfl (rv_1_0 hr1) (am_some (inj := (fun r => (.inr (some (.int r)), h))) hq2 (A_X2_preferenceOf _ (hC.2.2.2.2.2.2.2.2.2.2.2.2.1) _ _ _ r1 hr1 x3 h)) rfl rfl rfl rfl rfl ⟨rfl, rfl⟩ ?_
      refine aw_bind rfl (fun q3 hq3 => ?_)
      refine aw_cVv hC dX4_comeRound_26 cv_RX4_57 rfl (rv_2_0 ho) (am_some (inj := (fun r => (.inr (none), r))) hq3 (A_X4_bring _ (hC.2.2.2.2.2.2.2.2.2.2.2.2.1) _ _ _ o ho q2 h)) rfl rfl rfl rfl rfl ⟨rfl, rfl⟩ ?_
      refine aw_iinc hC dX4_comeRound_29 rfl (v := x3 + 1) (by first | rfl | decide) (by decide) ?_
      refine aw_goto hC dX4_comeRound_32 (tgt := 15) (by decide) ?_
      refine aw_sub [0, 1, 2, 3] ?_
      exact ih15 (x3 + 1) q3
set_option maxHeartbeats 4000000 in
set_option maxRecDepth 100000 in
theorem A_X4_comeRound (l : Launch) (hl0 : l.stackTraces = false) (D : va_G) (loc : Rf → Nat) (cy : Nat → ClassId) (o : Nat) (ho : o < 2) (r1 : Nat) (hr1 : r1 < 10) (p2 : Int32) (h : HD) : AM l D loc cy yX4_comeRound cX4_comeRound 4 (none) 5 125 [.ref (loc (2, o, 0)), .ref (loc (1, r1, 0)), .int p2] h ((jX4_comeRound o r1 p2 h).map (fun r => (.inr (none), r))) := by
  refine am_start (y := yX4_comeRound) (av := [.ref (loc (2, o, 0)), .ref (loc (1, r1, 0)), .int p2]) (nL := 4) (h := h) (RF := fun (r : Option HD) => r.map (fun r => (.inr (none), r))) (x := jX4_comeRound o r1 p2 h) hl0 (by decide +kernel) rfl ?_
  intro p e R s m below meth c A hC
  unfold jX4_comeRound
  refine aw_aload_n hC dX4_comeRound_0 rfl ?_
  refine aw_aload_n hC dX4_comeRound_1 rfl ?_
  refine aw_cVi hC dX4_comeRound_2 cv_RX4_41 rfl (rv_1_0 hr1) (A_X2_spots _ (hC.2.2.2.2.2.2.2.2.2.2.2.2.1) _ _ _ r1 hr1 h) rfl rfl rfl rfl rfl ⟨rfl, rfl⟩ ?_
  refine aw_aload_n hC dX4_comeRound_5 rfl ?_
  refine aw_cVi hC dX4_comeRound_6 cv_RX4_47 rfl (rv_1_0 hr1) (A_X2_back _ (hC.2.2.2.2.2.2.2.2.2.2.2.2.1) _ _ _ r1 hr1 h) rfl rfl rfl rfl rfl ⟨rfl, rfl⟩ ?_
  refine aw_iconst hC dX4_comeRound_9 (v := 1) (by decide) ?_
  refine aw_bind rfl (fun q1 hq1 => ?_)
  refine aw_cVv hC dX4_comeRound_10 cv_RX4_49 rfl (rv_2_0 ho) (am_some (inj := (fun r => (.inr (none), r))) hq1 (A_X4_open _ (hC.2.2.2.2.2.2.2.2.2.2.2.2.1) _ _ _ o ho (jX2_spots r1 h) (jX2_back r1 h) true h)) rfl rfl rfl rfl rfl ⟨rfl, rfl⟩ ?_
  refine aw_iconst hC dX4_comeRound_13 (v := 0) (by decide) ?_
  refine aw_istore_n hC dX4_comeRound_14 (by decide) ?_
  refine aw_sub [0, 1, 2, 3] ?_
  refine L_X4_comeRound_15 o ho r1 hr1 p2 _ hC ?_ FU (0 : Int32) q1
  · intro h4
    refine aw_aload_n hC dX4_comeRound_35 rfl ?_
    refine aw_bind rfl (fun q5 hq5 => ?_)
    refine aw_cVv hC dX4_comeRound_36 cv_RX4_61 rfl (rv_2_0 ho) (am_some (inj := (fun r => (.inr (none), r))) hq5 (A_X4_findFree _ (hC.2.2.2.2.2.2.2.2.2.2.2.2.1) _ _ _ o ho h4)) rfl rfl rfl rfl rfl ⟨rfl, rfl⟩ ?_
    exact aw_vret hC dX4_comeRound_39 rfl rfl
set_option maxHeartbeats 4000000 in
set_option maxRecDepth 100000 in
theorem A_X4_freeSpot (l : Launch) (hl0 : l.stackTraces = false) (D : va_G) (loc : Rf → Nat) (cy : Nat → ClassId) (o : Nat) (ho : o < 2) (h : HD) : AM l D loc cy yX4_freeSpot cX4_freeSpot 1 (some .int) 0 16 [.ref (loc (2, o, 0))] h (some (.inr (some (.int (jX4_freeSpot o h))), h)) := by
  refine am_start (y := yX4_freeSpot) (av := [.ref (loc (2, o, 0))]) (nL := 1) (h := h) (RF := fun (r : Int32) => some (.inr (some (.int r)), h)) (x := jX4_freeSpot o h) hl0 (by decide +kernel) rfl ?_
  intro p e R s m below meth c A hC
  unfold jX4_freeSpot
  refine aw_aload_n hC dX4_freeSpot_0 rfl ?_
  refine aw_gfI hC dX4_freeSpot_1 fg_RX4_38 rfl (rv_2_0 ho) ?_
  exact aw_iret hC dX4_freeSpot_4 rfl rfl
set_option maxHeartbeats 4000000 in
set_option maxRecDepth 100000 in
theorem A_X4_hasCome (l : Launch) (hl0 : l.stackTraces = false) (D : va_G) (loc : Rf → Nat) (cy : Nat → ClassId) (o : Nat) (ho : o < 2) (p1 : Int32) (h : HD) : AM l D loc cy yX4_hasCome cX4_hasCome 2 (some .boolean) 0 16 [.ref (loc (2, o, 0)), .int p1] h (some (.inr (some (.int (b2i (jX4_hasCome o p1 h)))), h)) := by
  refine am_start (y := yX4_hasCome) (av := [.ref (loc (2, o, 0)), .int p1]) (nL := 2) (h := h) (RF := fun (r : Bool) => some (.inr (some (.int (b2i r))), h)) (x := jX4_hasCome o p1 h) hl0 (by decide +kernel) rfl ?_
  intro p e R s m below meth c A hC
  unfold jX4_hasCome
  refine aw_iload_n hC dX4_hasCome_0 rfl ?_
  refine aw_if_lt hC dX4_hasCome_1 (tgt := 22) (by decide) ?_ ?_
  · refine aw_iconst hC dX4_hasCome_22 (v := 0) (by decide) ?_
    exact aw_zret hC dX4_hasCome_23 rfl (show _ = b2i false from rfl) rfl
  · refine aw_iload_n hC dX4_hasCome_4 rfl ?_
    refine aw_aload_n hC dX4_hasCome_5 rfl ?_
    refine aw_gfI hC dX4_hasCome_6 fg_RX4_35 rfl (rv_2_0 ho) ?_
    refine aw_icmp_ge hC dX4_hasCome_9 (tgt := 22) (by decide) ?_ ?_
    · refine aw_iconst hC dX4_hasCome_22 (v := 0) (by decide) ?_
      exact aw_zret hC dX4_hasCome_23 rfl (show _ = b2i false from rfl) rfl
    · refine aw_iload_n hC dX4_hasCome_12 rfl ?_
      refine aw_bipush hC dX4_hasCome_13 (v := 11) (by decide) ?_
      refine aw_icmp_ge hC dX4_hasCome_15 (tgt := 22) (by decide) ?_ ?_
      · refine aw_iconst hC dX4_hasCome_22 (v := 0) (by decide) ?_
        exact aw_zret hC dX4_hasCome_23 rfl (show _ = b2i false from rfl) rfl
      · refine aw_iconst hC dX4_hasCome_18 (v := 1) (by decide) ?_
        refine aw_goto hC dX4_hasCome_19 (tgt := 23) (by decide) ?_
        exact aw_zret hC dX4_hasCome_23 rfl (show _ = b2i true from rfl) rfl
set_option maxHeartbeats 4000000 in
set_option maxRecDepth 100000 in
theorem A_X4_isLucky (l : Launch) (hl0 : l.stackTraces = false) (D : va_G) (loc : Rf → Nat) (cy : Nat → ClassId) (o : Nat) (ho : o < 2) (p1 : Int32) (h : HD) : AM l D loc cy yX4_isLucky cX4_isLucky 2 (some .boolean) 1 37 [.ref (loc (2, o, 0)), .int p1] h ((jX4_isLucky o p1 h).map (fun r => (.inr (some (.int (b2i r))), h))) := by
  refine am_start (y := yX4_isLucky) (av := [.ref (loc (2, o, 0)), .int p1]) (nL := 2) (h := h) (RF := fun (r : Option Bool) => r.map (fun r => (.inr (some (.int (b2i r))), h))) (x := jX4_isLucky o p1 h) hl0 (by decide +kernel) rfl ?_
  intro p e R s m below meth c A hC
  unfold jX4_isLucky
  refine aw_aload_n hC dX4_isLucky_0 rfl ?_
  refine aw_iload_n hC dX4_isLucky_1 rfl ?_
  refine aw_cVb hC dX4_isLucky_2 cv_RX4_90 rfl (rv_2_0 ho) (A_X4_hasCome _ (hC.2.2.2.2.2.2.2.2.2.2.2.2.1) _ _ _ o ho p1 h) rfl rfl rfl rfl rfl ⟨rfl, rfl⟩ ?_
  refine aw_if_eq_b hC dX4_isLucky_5 (tgt := 27) (by decide) ?_ ?_
  · refine aw_iconst hC dX4_isLucky_27 (v := 0) (by decide) ?_
    exact aw_zret hC dX4_isLucky_28 rfl (show _ = b2i false from rfl) rfl
  · refine aw_aload_n hC dX4_isLucky_8 rfl ?_
    refine aw_gfR hC dX4_isLucky_9 fg_RX4_15 rfl rfl (rv_2_0 ho) ?_
    refine aw_iload_n hC dX4_isLucky_12 rfl ?_
    refine aw_guard rfl (fun g1 => ?_)
    refine aw_iald hC dX4_isLucky_13 (rv_2_2 ho) rfl rfl g1 rfl ?_
    refine aw_aload_n hC dX4_isLucky_14 rfl ?_
    refine aw_gfR hC dX4_isLucky_15 fg_RX4_9 rfl rfl (rv_2_0 ho) ?_
    refine aw_iload_n hC dX4_isLucky_18 rfl ?_
    refine aw_guard rfl (fun g2 => ?_)
    refine aw_iald hC dX4_isLucky_19 (rv_2_1 ho) rfl rfl g2 rfl ?_
    refine aw_icmp_ne hC dX4_isLucky_20 (tgt := 27) (by decide) ?_ ?_
    · refine aw_iconst hC dX4_isLucky_27 (v := 0) (by decide) ?_
      exact aw_zret hC dX4_isLucky_28 rfl (show _ = b2i false from rfl) rfl
    · refine aw_iconst hC dX4_isLucky_23 (v := 1) (by decide) ?_
      refine aw_goto hC dX4_isLucky_24 (tgt := 28) (by decide) ?_
      exact aw_zret hC dX4_isLucky_28 rfl (show _ = b2i true from rfl) rfl
set_option maxHeartbeats 4000000 in
set_option maxRecDepth 100000 in
theorem L_X4_luckyCars_4 (o : Nat) (ho : o < 2) (h : HD) (hC : Cx p l e R s m args meth c D loc cy A cX4_luckyCars 3 (some .int) RX4 2 58 0 0)  : ∀ (n4 : Nat) (x1 : Int32) (x2 : Int32), AW p l e R s m args below meth c D loc cy A 3 (QM below D loc cy A args s) (fun (r : Option Int32) => r.map (fun r => (.inr (some (.int r)), h))) (0, 0) 4 [(0, .ref (loc (2, o, 0))), (1, .int x1), (2, .int x2)] [] h (jX4_luckyCars_L4 o h n4 x1 x2) := by
  intro n4
  induction n4 with
  | zero => intro x1 x2; exact aw_none rfl
  | succ n4 ih4 =>
    intro x1 x2
    rw [jX4_luckyCars_L4]
    refine aw_iload_n hC dX4_luckyCars_4 rfl ?_
    refine aw_aload_n hC dX4_luckyCars_5 rfl ?_
    refine aw_gfI hC dX4_luckyCars_6 fg_RX4_35 rfl (rv_2_0 ho) ?_
    refine aw_icmp_ge hC dX4_luckyCars_9 (tgt := 29) (by decide) ?_ ?_
    · refine aw_iload_n hC dX4_luckyCars_29 rfl ?_
      exact aw_iret hC dX4_luckyCars_30 rfl rfl
    · refine aw_aload_n hC dX4_luckyCars_12 rfl ?_
      refine aw_iload_n hC dX4_luckyCars_13 rfl ?_
      refine aw_bind rfl (fun q1 hq1 => ?_)
      refine aw_cVb hC dX4_luckyCars_14 cv_RX4_111 rfl (rv_2_0 ho) (am_some (inj := (fun r => (.inr (some (.int (b2i r))), h))) hq1 (A_X4_isLucky _ (hC.2.2.2.2.2.2.2.2.2.2.2.2.1) _ _ _ o ho x2 h)) rfl rfl rfl rfl rfl ⟨rfl, rfl⟩ ?_
      refine aw_if_eq_b hC dX4_luckyCars_17 (tgt := 23) (by decide) ?_ ?_
      · refine aw_iinc hC dX4_luckyCars_23 rfl (v := x2 + 1) (by first | rfl | decide) (by decide) ?_
        refine aw_goto hC dX4_luckyCars_26 (tgt := 4) (by decide) ?_
        refine aw_sub [0, 1, 2] ?_
        exact ih4 x1 (x2 + 1)
      · refine aw_iinc hC dX4_luckyCars_20 rfl (v := x1 + 1) (by first | rfl | decide) (by decide) ?_
        refine aw_iinc hC dX4_luckyCars_23 rfl (v := x2 + 1) (by first | rfl | decide) (by decide) ?_
        refine aw_goto hC dX4_luckyCars_26 (tgt := 4) (by decide) ?_
        refine aw_sub [0, 1, 2] ?_
        exact ih4 (x1 + 1) (x2 + 1)
set_option maxHeartbeats 4000000 in
set_option maxRecDepth 100000 in
theorem A_X4_luckyCars (l : Launch) (hl0 : l.stackTraces = false) (D : va_G) (loc : Rf → Nat) (cy : Nat → ClassId) (o : Nat) (ho : o < 2) (h : HD) : AM l D loc cy yX4_luckyCars cX4_luckyCars 3 (some .int) 2 58 [.ref (loc (2, o, 0))] h ((jX4_luckyCars o h).map (fun r => (.inr (some (.int r)), h))) := by
  refine am_start (y := yX4_luckyCars) (av := [.ref (loc (2, o, 0))]) (nL := 3) (h := h) (RF := fun (r : Option Int32) => r.map (fun r => (.inr (some (.int r)), h))) (x := jX4_luckyCars o h) hl0 (by decide +kernel) rfl ?_
  intro p e R s m below meth c A hC
  unfold jX4_luckyCars
  refine aw_iconst hC dX4_luckyCars_0 (v := 0) (by decide) ?_
  refine aw_istore_n hC dX4_luckyCars_1 (by decide) ?_
  refine aw_iconst hC dX4_luckyCars_2 (v := 0) (by decide) ?_
  refine aw_istore_n hC dX4_luckyCars_3 (by decide) ?_
  refine aw_sub [0, 1, 2] ?_
  exact L_X4_luckyCars_4 o ho h  hC FU (0 : Int32) (0 : Int32)
set_option maxHeartbeats 4000000 in
set_option maxRecDepth 100000 in
theorem A_X4_movedOf (l : Launch) (hl0 : l.stackTraces = false) (D : va_G) (loc : Rf → Nat) (cy : Nat → ClassId) (o : Nat) (ho : o < 2) (p1 : Int32) (h : HD) : AM l D loc cy yX4_movedOf cX4_movedOf 2 (some .int) 1 37 [.ref (loc (2, o, 0)), .int p1] h ((jX4_movedOf o p1 h).map (fun r => (.inr (some (.int r)), h))) := by
  refine am_start (y := yX4_movedOf) (av := [.ref (loc (2, o, 0)), .int p1]) (nL := 2) (h := h) (RF := fun (r : Option Int32) => r.map (fun r => (.inr (some (.int r)), h))) (x := jX4_movedOf o p1 h) hl0 (by decide +kernel) rfl ?_
  intro p e R s m below meth c A hC
  unfold jX4_movedOf
  refine aw_aload_n hC dX4_movedOf_0 rfl ?_
  refine aw_iload_n hC dX4_movedOf_1 rfl ?_
  refine aw_cVb hC dX4_movedOf_2 cv_RX4_90 rfl (rv_2_0 ho) (A_X4_hasCome _ (hC.2.2.2.2.2.2.2.2.2.2.2.2.1) _ _ _ o ho p1 h) rfl rfl rfl rfl rfl ⟨rfl, rfl⟩ ?_
  refine aw_if_eq_b hC dX4_movedOf_5 (tgt := 17) (by decide) ?_ ?_
  · refine aw_iconst hC dX4_movedOf_17 (v := 0) (by decide) ?_
    exact aw_iret hC dX4_movedOf_18 rfl rfl
  · refine aw_aload_n hC dX4_movedOf_8 rfl ?_
    refine aw_gfR hC dX4_movedOf_9 fg_RX4_18 rfl rfl (rv_2_0 ho) ?_
    refine aw_iload_n hC dX4_movedOf_12 rfl ?_
    refine aw_guard rfl (fun g1 => ?_)
    refine aw_iald hC dX4_movedOf_13 (rv_2_3 ho) rfl rfl g1 rfl ?_
    refine aw_goto hC dX4_movedOf_14 (tgt := 18) (by decide) ?_
    exact aw_iret hC dX4_movedOf_18 rfl rfl
set_option maxHeartbeats 4000000 in
set_option maxRecDepth 100000 in
theorem L_X4_area_4 (o : Nat) (ho : o < 2) (h : HD) (hC : Cx p l e R s m args meth c D loc cy A cX4_area 3 (some .int) RX4 2 58 0 0)  : ∀ (n4 : Nat) (x1 : Int32) (x2 : Int32), AW p l e R s m args below meth c D loc cy A 3 (QM below D loc cy A args s) (fun (r : Option Int32) => r.map (fun r => (.inr (some (.int r)), h))) (0, 0) 4 [(0, .ref (loc (2, o, 0))), (1, .int x1), (2, .int x2)] [] h (jX4_area_L4 o h n4 x1 x2) := by
  intro n4
  induction n4 with
  | zero => intro x1 x2; exact aw_none rfl
  | succ n4 ih4 =>
    intro x1 x2
    rw [jX4_area_L4]
    refine aw_iload_n hC dX4_area_4 rfl ?_
    refine aw_aload_n hC dX4_area_5 rfl ?_
    refine aw_gfI hC dX4_area_6 fg_RX4_35 rfl (rv_2_0 ho) ?_
    refine aw_icmp_ge hC dX4_area_9 (tgt := 26) (by decide) ?_ ?_
    · refine aw_iload_n hC dX4_area_26 rfl ?_
      exact aw_iret hC dX4_area_27 rfl rfl
    · refine aw_iload_n hC dX4_area_12 rfl ?_
      refine aw_aload_n hC dX4_area_13 rfl ?_
      refine aw_iload_n hC dX4_area_14 rfl ?_
      refine aw_bind rfl (fun q1 hq1 => ?_)
      refine aw_cVi hC dX4_area_15 cv_RX4_114 rfl (rv_2_0 ho) (am_some (inj := (fun r => (.inr (some (.int r)), h))) hq1 (A_X4_movedOf _ (hC.2.2.2.2.2.2.2.2.2.2.2.2.1) _ _ _ o ho x2 h)) rfl rfl rfl rfl rfl ⟨rfl, rfl⟩ ?_
      refine aw_iadd hC dX4_area_18 ?_
      refine aw_istore_n hC dX4_area_19 (by decide) ?_
      refine aw_iinc hC dX4_area_20 rfl (v := x2 + 1) (by first | rfl | decide) (by decide) ?_
      refine aw_goto hC dX4_area_23 (tgt := 4) (by decide) ?_
      refine aw_sub [0, 1, 2] ?_
      exact ih4 (x1 + q1) (x2 + 1)
set_option maxHeartbeats 4000000 in
set_option maxRecDepth 100000 in
theorem A_X4_area (l : Launch) (hl0 : l.stackTraces = false) (D : va_G) (loc : Rf → Nat) (cy : Nat → ClassId) (o : Nat) (ho : o < 2) (h : HD) : AM l D loc cy yX4_area cX4_area 3 (some .int) 2 58 [.ref (loc (2, o, 0))] h ((jX4_area o h).map (fun r => (.inr (some (.int r)), h))) := by
  refine am_start (y := yX4_area) (av := [.ref (loc (2, o, 0))]) (nL := 3) (h := h) (RF := fun (r : Option Int32) => r.map (fun r => (.inr (some (.int r)), h))) (x := jX4_area o h) hl0 (by decide +kernel) rfl ?_
  intro p e R s m below meth c A hC
  unfold jX4_area
  refine aw_iconst hC dX4_area_0 (v := 0) (by decide) ?_
  refine aw_istore_n hC dX4_area_1 (by decide) ?_
  refine aw_iconst hC dX4_area_2 (v := 0) (by decide) ?_
  refine aw_istore_n hC dX4_area_3 (by decide) ?_
  refine aw_sub [0, 1, 2] ?_
  exact L_X4_area_4 o ho h  hC FU (0 : Int32) (0 : Int32)
set_option maxHeartbeats 4000000 in
set_option maxRecDepth 100000 in
theorem L_X4_wayOfAll_4 (o : Nat) (ho : o < 2) (h : HD) (hC : Cx p l e R s m args meth c D loc cy A cX4_wayOfAll 3 (some .int) RX4 2 64 0 0)  : ∀ (n4 : Nat) (x1 : Int32) (x2 : Int32), AW p l e R s m args below meth c D loc cy A 3 (QM below D loc cy A args s) (fun (r : Option Int32) => r.map (fun r => (.inr (some (.int r)), h))) (0, 0) 4 [(0, .ref (loc (2, o, 0))), (1, .int x1), (2, .int x2)] [] h (jX4_wayOfAll_L4 o h n4 x1 x2) := by
  intro n4
  induction n4 with
  | zero => intro x1 x2; exact aw_none rfl
  | succ n4 ih4 =>
    intro x1 x2
    rw [jX4_wayOfAll_L4]
    refine aw_iload_n hC dX4_wayOfAll_4 rfl ?_
    refine aw_aload_n hC dX4_wayOfAll_5 rfl ?_
    refine aw_gfI hC dX4_wayOfAll_6 fg_RX4_35 rfl (rv_2_0 ho) ?_
    refine aw_icmp_ge hC dX4_wayOfAll_9 (tgt := 29) (by decide) ?_ ?_
    · refine aw_iload_n hC dX4_wayOfAll_29 rfl ?_
      exact aw_iret hC dX4_wayOfAll_30 rfl rfl
    · refine aw_iload_n hC dX4_wayOfAll_12 rfl ?_
      refine aw_aload_n hC dX4_wayOfAll_13 rfl ?_
      refine aw_iload_n hC dX4_wayOfAll_14 rfl ?_
      refine aw_bind rfl (fun q1 hq1 => ?_)
      refine aw_cVi hC dX4_wayOfAll_15 cv_RX4_114 rfl (rv_2_0 ho) (am_some (inj := (fun r => (.inr (some (.int r)), h))) hq1 (A_X4_movedOf _ (hC.2.2.2.2.2.2.2.2.2.2.2.2.1) _ _ _ o ho x2 h)) rfl rfl rfl rfl rfl ⟨rfl, rfl⟩ ?_
      refine aw_mabs hC dX4_wayOfAll_18 tw3_86 tw3_87 tw1_22 tw3_88 rfl rfl ⟨rfl, rfl⟩ ?_
      refine aw_iadd hC dX4_wayOfAll_21 ?_
      refine aw_istore_n hC dX4_wayOfAll_22 (by decide) ?_
      refine aw_iinc hC dX4_wayOfAll_23 rfl (v := x2 + 1) (by first | rfl | decide) (by decide) ?_
      refine aw_goto hC dX4_wayOfAll_26 (tgt := 4) (by decide) ?_
      refine aw_sub [0, 1, 2] ?_
      exact ih4 (x1 + (if 0 ≤ q1 then q1 else 0 - q1)) (x2 + 1)
set_option maxHeartbeats 4000000 in
set_option maxRecDepth 100000 in
theorem A_X4_wayOfAll (l : Launch) (hl0 : l.stackTraces = false) (D : va_G) (loc : Rf → Nat) (cy : Nat → ClassId) (o : Nat) (ho : o < 2) (h : HD) : AM l D loc cy yX4_wayOfAll cX4_wayOfAll 3 (some .int) 2 64 [.ref (loc (2, o, 0))] h ((jX4_wayOfAll o h).map (fun r => (.inr (some (.int r)), h))) := by
  refine am_start (y := yX4_wayOfAll) (av := [.ref (loc (2, o, 0))]) (nL := 3) (h := h) (RF := fun (r : Option Int32) => r.map (fun r => (.inr (some (.int r)), h))) (x := jX4_wayOfAll o h) hl0 (by decide +kernel) rfl ?_
  intro p e R s m below meth c A hC
  unfold jX4_wayOfAll
  refine aw_iconst hC dX4_wayOfAll_0 (v := 0) (by decide) ?_
  refine aw_istore_n hC dX4_wayOfAll_1 (by decide) ?_
  refine aw_iconst hC dX4_wayOfAll_2 (v := 0) (by decide) ?_
  refine aw_istore_n hC dX4_wayOfAll_3 (by decide) ?_
  refine aw_sub [0, 1, 2] ?_
  exact L_X4_wayOfAll_4 o ho h  hC FU (0 : Int32) (0 : Int32)
set_option maxHeartbeats 4000000 in
set_option maxRecDepth 100000 in
theorem A_X4_turnNumber (l : Launch) (hl0 : l.stackTraces = false) (D : va_G) (loc : Rf → Nat) (cy : Nat → ClassId) (o : Nat) (ho : o < 2) (h : HD) : AM l D loc cy yX4_turnNumber cX4_turnNumber 1 (some .int) 0 16 [.ref (loc (2, o, 0))] h (some (.inr (some (.int (jX4_turnNumber o h))), h)) := by
  refine am_start (y := yX4_turnNumber) (av := [.ref (loc (2, o, 0))]) (nL := 1) (h := h) (RF := fun (r : Int32) => some (.inr (some (.int r)), h)) (x := jX4_turnNumber o h) hl0 (by decide +kernel) rfl ?_
  intro p e R s m below meth c A hC
  unfold jX4_turnNumber
  refine aw_aload_n hC dX4_turnNumber_0 rfl ?_
  refine aw_gfI hC dX4_turnNumber_1 fg_RX4_24 rfl (rv_2_0 ho) ?_
  refine aw_iconst hC dX4_turnNumber_4 (v := 1) (by decide) ?_
  refine aw_isub hC dX4_turnNumber_5 ?_
  refine aw_aload_n hC dX4_turnNumber_6 rfl ?_
  refine aw_gfI hC dX4_turnNumber_7 fg_RX4_38 rfl (rv_2_0 ho) ?_
  refine aw_isub hC dX4_turnNumber_10 ?_
  exact aw_iret hC dX4_turnNumber_11 rfl rfl
end PRF
