section PRF
variable {p : Program} {l : Launch} {e : Env} {R : Room} {s : State} {m : MethodId} {args : Array Value} {below : List Frame} {meth : Method} {c : Code} {D : va_G} {loc : Rf → Nat} {cy : Nat → ClassId} {A : Nat → Prop}
set_option maxHeartbeats 4000000 in
set_option maxRecDepth 100000 in
theorem A_X9_goesBoth (l : Launch) (hl0 : l.stackTraces = false) (D : va_G) (loc : Rf → Nat) (cy : Nat → ClassId) (p1 : Bool) (p2 : Bool) (h : HD) : AM l D loc cy yX9_goesBoth cX9_goesBoth 3 (some .boolean) 0 16 [.ref (loc (7, 0, 0)), .int (b2i p1), .int (b2i p2)] h ((jX9_goesBoth p1 p2 h).map (fun r => (.inr (some (.int (b2i r.1))), r.2))) := by
  refine am_start (y := yX9_goesBoth) (av := [.ref (loc (7, 0, 0)), .int (b2i p1), .int (b2i p2)]) (nL := 3) (h := h) (RF := fun (r : Option (Bool × HD)) => r.map (fun r => (.inr (some (.int (b2i r.1))), r.2))) (x := jX9_goesBoth p1 p2 h) hl0 (by decide +kernel) rfl ?_
  intro p e R s m below meth c A hC
  unfold jX9_goesBoth
  refine aw_aload_n hC dX9_goesBoth_0 rfl ?_
  refine aw_iload_n hC dX9_goesBoth_1 rfl ?_
  refine aw_if_ne_b hC dX9_goesBoth_2 (tgt := 9) (by decide) ?_ ?_
  · refine aw_iload_n hC dX9_goesBoth_9 rfl ?_
    refine aw_if_ne_b hC dX9_goesBoth_10 (tgt := 17) (by decide) ?_ ?_
    · refine aw_iconst hC dX9_goesBoth_17 (v := 0) (by decide) ?_
      refine aw_pfI hC dX9_goesBoth_18 fg_RX9_112 fp_7_0 rfl rm_7_0_0 (fun h1 => ?_)
      refine aw_aload_n hC dX9_goesBoth_21 rfl ?_
      refine aw_gfI hC dX9_goesBoth_22 fg_RX9_112 rfl rm_7_0_0 ?_
      refine aw_if_ne hC dX9_goesBoth_25 (tgt := 32) (by decide) ?_ ?_
      · refine aw_iconst hC dX9_goesBoth_32 (v := 0) (by decide) ?_
        exact aw_zret hC dX9_goesBoth_33 rfl (show _ = b2i false from rfl) rfl
      · refine aw_iconst hC dX9_goesBoth_28 (v := 1) (by decide) ?_
        refine aw_goto hC dX9_goesBoth_29 (tgt := 33) (by decide) ?_
        exact aw_zret hC dX9_goesBoth_33 rfl (show _ = b2i true from rfl) rfl
    · refine aw_iconst hC dX9_goesBoth_13 (v := 2) (by decide) ?_
      refine aw_goto hC dX9_goesBoth_14 (tgt := 18) (by decide) ?_
      refine aw_pfI hC dX9_goesBoth_18 fg_RX9_112 fp_7_0 rfl rm_7_0_0 (fun h2 => ?_)
      refine aw_aload_n hC dX9_goesBoth_21 rfl ?_
      refine aw_gfI hC dX9_goesBoth_22 fg_RX9_112 rfl rm_7_0_0 ?_
      refine aw_if_ne hC dX9_goesBoth_25 (tgt := 32) (by decide) ?_ ?_
      · refine aw_iconst hC dX9_goesBoth_32 (v := 0) (by decide) ?_
        exact aw_zret hC dX9_goesBoth_33 rfl (show _ = b2i false from rfl) rfl
      · refine aw_iconst hC dX9_goesBoth_28 (v := 1) (by decide) ?_
        refine aw_goto hC dX9_goesBoth_29 (tgt := 33) (by decide) ?_
        exact aw_zret hC dX9_goesBoth_33 rfl (show _ = b2i true from rfl) rfl
  · refine aw_iconst hC dX9_goesBoth_5 (v := 1) (by decide) ?_
    refine aw_goto hC dX9_goesBoth_6 (tgt := 18) (by decide) ?_
    refine aw_pfI hC dX9_goesBoth_18 fg_RX9_112 fp_7_0 rfl rm_7_0_0 (fun h3 => ?_)
    refine aw_aload_n hC dX9_goesBoth_21 rfl ?_
    refine aw_gfI hC dX9_goesBoth_22 fg_RX9_112 rfl rm_7_0_0 ?_
    refine aw_if_ne hC dX9_goesBoth_25 (tgt := 32) (by decide) ?_ ?_
    · refine aw_iconst hC dX9_goesBoth_32 (v := 0) (by decide) ?_
      exact aw_zret hC dX9_goesBoth_33 rfl (show _ = b2i false from rfl) rfl
    · refine aw_iconst hC dX9_goesBoth_28 (v := 1) (by decide) ?_
      refine aw_goto hC dX9_goesBoth_29 (tgt := 33) (by decide) ?_
      exact aw_zret hC dX9_goesBoth_33 rfl (show _ = b2i true from rfl) rfl
set_option maxHeartbeats 4000000 in
set_option maxRecDepth 100000 in
theorem L_X9_four_3 (p1 : Int32) (hC : Cx p l e R s m args meth c D loc cy A cX9_four 3 (none) RX9 0 16 0 0)  : ∀ (n3 : Nat) (x2 : Int32) (h : HD), AW p l e R s m args below meth c D loc cy A 3 (QM below D loc cy A args s) (fun (r : Option HD) => r.map (fun r => (.inr (none), r))) (0, 0) 3 [(0, .ref (loc (7, 0, 0))), (1, .int p1), (2, .int x2)] [] h (jX9_four_L3 p1 n3 x2 h) := by
  intro n3
  induction n3 with
  | zero => intro x2 h; exact aw_none rfl
  | succ n3 ih3 =>
    intro x2 h
    rw [jX9_four_L3]
    refine aw_iload_n hC dX9_four_3 rfl ?_
    refine aw_if_lt hC dX9_four_4 (tgt := 39) (by decide) ?_ ?_
    · exact aw_vret hC dX9_four_39 rfl rfl
    · refine aw_aload_n hC dX9_four_7 rfl ?_
      refine aw_gfR hC dX9_four_8 fg_RX9_7 rfl rfl rm_7_0_0 ?_
      refine aw_aload_n hC dX9_four_11 rfl ?_
      refine aw_gfI hC dX9_four_12 fg_RX9_119 rfl rm_7_0_0 ?_
      refine aw_iload_n hC dX9_four_15 rfl ?_
      refine aw_iload_n hC dX9_four_16 rfl ?_
      refine aw_ishr hC dX9_four_17 ?_
      refine aw_sipush hC dX9_four_18 (v := 255) (by decide) ?_
      refine aw_iand hC dX9_four_21 ?_
      refine aw_guard rfl (fun g2 => ?_)
      refine aw_iast hC dX9_four_22 rm_7_0_1 rfl rfl g2 rfl (fun h1 => ?_)
      refine aw_aload_n hC dX9_four_23 rfl ?_
      refine aw_dup hC dX9_four_24 rfl ?_
      refine aw_gfI hC dX9_four_25 fg_RX9_119 rfl rm_7_0_0 ?_
      refine aw_iconst hC dX9_four_28 (v := 1) (by decide) ?_
      refine aw_iadd hC dX9_four_29 ?_
      refine aw_pfI hC dX9_four_30 fg_RX9_119 fp_7_2 rfl rm_7_0_0 (fun h3 => ?_)
      refine aw_iinc hC dX9_four_33 rfl (v := x2 + (-8)) (by first | rfl | decide) (by decide) ?_
      refine aw_goto hC dX9_four_36 (tgt := 3) (by decide) ?_
      refine aw_sub [0, 1, 2] ?_
      exact ih3 (x2 + (-8)) h3
set_option maxHeartbeats 4000000 in
set_option maxRecDepth 100000 in
theorem A_X9_four (l : Launch) (hl0 : l.stackTraces = false) (D : va_G) (loc : Rf → Nat) (cy : Nat → ClassId) (p1 : Int32) (h : HD) : AM l D loc cy yX9_four cX9_four 3 (none) 0 16 [.ref (loc (7, 0, 0)), .int p1] h ((jX9_four p1 h).map (fun r => (.inr (none), r))) := by
  refine am_start (y := yX9_four) (av := [.ref (loc (7, 0, 0)), .int p1]) (nL := 3) (h := h) (RF := fun (r : Option HD) => r.map (fun r => (.inr (none), r))) (x := jX9_four p1 h) hl0 (by decide +kernel) rfl ?_
  intro p e R s m below meth c A hC
  unfold jX9_four
  refine aw_bipush hC dX9_four_0 (v := 24) (by decide) ?_
  refine aw_istore_n hC dX9_four_2 (by decide) ?_
  refine aw_sub [0, 1, 2] ?_
  exact L_X9_four_3 p1  hC FU (24 : Int32) h
set_option maxHeartbeats 4000000 in
set_option maxRecDepth 100000 in
theorem A_X9_feed (l : Launch) (hl0 : l.stackTraces = false) (D : va_G) (loc : Rf → Nat) (cy : Nat → ClassId) (p1 : Int32) (p2 : Int32) (p3 : Int32) (p4 : Int32) (p5 : Int32) (h : HD) : AM l D loc cy yX9_feed cX9_feed 6 (some .int) 2 57 [.ref (loc (7, 0, 0)), .int p1, .int p2, .int p3, .int p4, .int p5] h ((jX9_feed p1 p2 p3 p4 p5 h).map (fun r => (.inr (some (.int r.1)), r.2))) := by
  refine am_start (y := yX9_feed) (av := [.ref (loc (7, 0, 0)), .int p1, .int p2, .int p3, .int p4, .int p5]) (nL := 6) (h := h) (RF := fun (r : Option (Int32 × HD)) => r.map (fun r => (.inr (some (.int r.1)), r.2))) (x := jX9_feed p1 p2 p3 p4 p5 h) hl0 (by decide +kernel) rfl ?_
  intro p e R s m below meth c A hC
  unfold jX9_feed
  refine aw_aload_n hC dX9_feed_0 rfl ?_
  refine aw_aload_n hC dX9_feed_1 rfl ?_
  refine aw_gfI hC dX9_feed_2 fg_RX9_119 rfl rm_7_0_0 ?_
  refine aw_bipush hC dX9_feed_5 (v := 20) (by decide) ?_
  refine aw_iadd hC dX9_feed_7 ?_
  refine aw_sipush hC dX9_feed_8 (v := 400) (by decide) ?_
  refine aw_icmp_gt hC dX9_feed_11 (tgt := 18) (by decide) ?_ ?_
  · refine aw_iconst hC dX9_feed_18 (v := 0) (by decide) ?_
    refine aw_bind rfl (fun q1 hq1 => ?_)
    refine aw_cVb hC dX9_feed_19 cv_RX9_122 rfl rm_7_0_0 (am_some (inj := (fun r => (.inr (some (.int (b2i r.1))), r.2))) hq1 (A_X9_goes _ (hC.2.2.2.2.2.2.2.2.2.2.2.2.1) _ _ _ false h)) rfl rfl rfl rfl rfl ⟨rfl, rfl⟩ ?_
    refine aw_if_ne_b hC dX9_feed_22 (tgt := 27) (by decide) ?_ ?_
    · refine aw_aload_n hC dX9_feed_27 rfl ?_
      refine aw_iload_n hC dX9_feed_28 rfl ?_
      refine aw_bind rfl (fun q2 hq2 => ?_)
      refine aw_cVv hC dX9_feed_29 cv_RX9_126 rfl rm_7_0_0 (am_some (inj := (fun r => (.inr (none), r))) hq2 (A_X9_four _ (hC.2.2.2.2.2.2.2.2.2.2.2.2.1) _ _ _ p1 q1.2)) rfl rfl rfl rfl rfl ⟨rfl, rfl⟩ ?_
      refine aw_aload_n hC dX9_feed_32 rfl ?_
      refine aw_iload_n hC dX9_feed_33 rfl ?_
      refine aw_bind rfl (fun q3 hq3 => ?_)
      refine aw_cVv hC dX9_feed_34 cv_RX9_126 rfl rm_7_0_0 (am_some (inj := (fun r => (.inr (none), r))) hq3 (A_X9_four _ (hC.2.2.2.2.2.2.2.2.2.2.2.2.1) _ _ _ p2 q2)) rfl rfl rfl rfl rfl ⟨rfl, rfl⟩ ?_
      refine aw_aload_n hC dX9_feed_37 rfl ?_
      refine aw_iload_n hC dX9_feed_38 rfl ?_
      refine aw_bind rfl (fun q4 hq4 => ?_)
      refine aw_cVv hC dX9_feed_39 cv_RX9_126 rfl rm_7_0_0 (am_some (inj := (fun r => (.inr (none), r))) hq4 (A_X9_four _ (hC.2.2.2.2.2.2.2.2.2.2.2.2.1) _ _ _ p3 q3)) rfl rfl rfl rfl rfl ⟨rfl, rfl⟩ ?_
      refine aw_aload_n hC dX9_feed_42 rfl ?_
      refine aw_iload hC dX9_feed_43 rfl ?_
      refine aw_bind rfl (fun q5 hq5 => ?_)
      refine aw_cVv hC dX9_feed_45 cv_RX9_126 rfl rm_7_0_0 (am_some (inj := (fun r => (.inr (none), r))) hq5 (A_X9_four _ (hC.2.2.2.2.2.2.2.2.2.2.2.2.1) _ _ _ p4 q4)) rfl rfl rfl rfl rfl ⟨rfl, rfl⟩ ?_
      refine aw_aload_n hC dX9_feed_48 rfl ?_
      refine aw_iload hC dX9_feed_49 rfl ?_
      refine aw_bind rfl (fun q6 hq6 => ?_)
      refine aw_cVv hC dX9_feed_51 cv_RX9_126 rfl rm_7_0_0 (am_some (inj := (fun r => (.inr (none), r))) hq6 (A_X9_four _ (hC.2.2.2.2.2.2.2.2.2.2.2.2.1) _ _ _ p5 q5)) rfl rfl rfl rfl rfl ⟨rfl, rfl⟩ ?_
      refine aw_aload_n hC dX9_feed_54 rfl ?_
      refine aw_gfI hC dX9_feed_55 fg_RX9_119 rfl rm_7_0_0 ?_
      exact aw_iret hC dX9_feed_58 rfl rfl
    · refine aw_iconst hC dX9_feed_25 (v := 0) (by decide) ?_
      exact aw_iret hC dX9_feed_26 rfl rfl
  · refine aw_iconst hC dX9_feed_14 (v := 1) (by decide) ?_
    refine aw_goto hC dX9_feed_15 (tgt := 19) (by decide) ?_
    refine aw_bind rfl (fun q7 hq7 => ?_)
    refine aw_cVb hC dX9_feed_19 cv_RX9_122 rfl rm_7_0_0 (am_some (inj := (fun r => (.inr (some (.int (b2i r.1))), r.2))) hq7 (A_X9_goes _ (hC.2.2.2.2.2.2.2.2.2.2.2.2.1) _ _ _ true h)) rfl rfl rfl rfl rfl ⟨rfl, rfl⟩ ?_
    refine aw_if_ne_b hC dX9_feed_22 (tgt := 27) (by decide) ?_ ?_
    · refine aw_aload_n hC dX9_feed_27 rfl ?_
      refine aw_iload_n hC dX9_feed_28 rfl ?_
      refine aw_bind rfl (fun q8 hq8 => ?_)
      refine aw_cVv hC dX9_feed_29 cv_RX9_126 rfl rm_7_0_0 (am_some (inj := (fun r => (.inr (none), r))) hq8 (A_X9_four _ (hC.2.2.2.2.2.2.2.2.2.2.2.2.1) _ _ _ p1 q7.2)) rfl rfl rfl rfl rfl ⟨rfl, rfl⟩ ?_
      refine aw_aload_n hC dX9_feed_32 rfl ?_
      refine aw_iload_n hC dX9_feed_33 rfl ?_
      refine aw_bind rfl (fun q9 hq9 => ?_)
      refine aw_cVv hC dX9_feed_34 cv_RX9_126 rfl rm_7_0_0 (am_some (inj := (fun r => (.inr (none), r))) hq9 (A_X9_four _ (hC.2.2.2.2.2.2.2.2.2.2.2.2.1) _ _ _ p2 q8)) rfl rfl rfl rfl rfl ⟨rfl, rfl⟩ ?_
      refine aw_aload_n hC dX9_feed_37 rfl ?_
      refine aw_iload_n hC dX9_feed_38 rfl ?_
      refine aw_bind rfl (fun q10 hq10 => ?_)
      refine aw_cVv hC dX9_feed_39 cv_RX9_126 rfl rm_7_0_0 (am_some (inj := (fun r => (.inr (none), r))) hq10 (A_X9_four _ (hC.2.2.2.2.2.2.2.2.2.2.2.2.1) _ _ _ p3 q9)) rfl rfl rfl rfl rfl ⟨rfl, rfl⟩ ?_
      refine aw_aload_n hC dX9_feed_42 rfl ?_
      refine aw_iload hC dX9_feed_43 rfl ?_
      refine aw_bind rfl (fun q11 hq11 => ?_)
      refine aw_cVv hC dX9_feed_45 cv_RX9_126 rfl rm_7_0_0 (am_some (inj := (fun r => (.inr (none), r))) hq11 (A_X9_four _ (hC.2.2.2.2.2.2.2.2.2.2.2.2.1) _ _ _ p4 q10)) rfl rfl rfl rfl rfl ⟨rfl, rfl⟩ ?_
      refine aw_aload_n hC dX9_feed_48 rfl ?_
      refine aw_iload hC dX9_feed_49 rfl ?_
      refine aw_bind rfl (fun q12 hq12 => ?_)
      refine aw_cVv hC dX9_feed_51 cv_RX9_126 rfl rm_7_0_0 (am_some (inj := (fun r => (.inr (none), r))) hq12 (A_X9_four _ (hC.2.2.2.2.2.2.2.2.2.2.2.2.1) _ _ _ p5 q11)) rfl rfl rfl rfl rfl ⟨rfl, rfl⟩ ?_
      refine aw_aload_n hC dX9_feed_54 rfl ?_
      refine aw_gfI hC dX9_feed_55 fg_RX9_119 rfl rm_7_0_0 ?_
      exact aw_iret hC dX9_feed_58 rfl rfl
    · refine aw_iconst hC dX9_feed_25 (v := 0) (by decide) ?_
      exact aw_iret hC dX9_feed_26 rfl rfl
set_option maxHeartbeats 4000000 in
set_option maxRecDepth 100000 in
theorem A_X9_truncate (l : Launch) (hl0 : l.stackTraces = false) (D : va_G) (loc : Rf → Nat) (cy : Nat → ClassId) (p1 : Int32) (h : HD) : AM l D loc cy yX9_truncate cX9_truncate 2 (some .int) 2 57 [.ref (loc (7, 0, 0)), .int p1] h ((jX9_truncate p1 h).map (fun r => (.inr (some (.int r.1)), r.2))) := by
  refine am_start (y := yX9_truncate) (av := [.ref (loc (7, 0, 0)), .int p1]) (nL := 2) (h := h) (RF := fun (r : Option (Int32 × HD)) => r.map (fun r => (.inr (some (.int r.1)), r.2))) (x := jX9_truncate p1 h) hl0 (by decide +kernel) rfl ?_
  intro p e R s m below meth c A hC
  unfold jX9_truncate
  refine aw_aload_n hC dX9_truncate_0 rfl ?_
  refine aw_iload_n hC dX9_truncate_1 rfl ?_
  refine aw_i2l hC dX9_truncate_2 ?_
  refine aw_lconst hC dX9_truncate_3 (v := 0) (by decide) ?_
  refine aw_aload_n hC dX9_truncate_4 rfl ?_
  refine aw_gfI hC dX9_truncate_5 fg_RX9_119 rfl rm_7_0_0 ?_
  refine aw_i2l hC dX9_truncate_8 ?_
  refine aw_cSb hC dX9_truncate_9 cv_RX9_130 (A_X9_isIn _ (hC.2.2.2.2.2.2.2.2.2.2.2.2.1) _ _ _ p1.toInt64 (0 : Int64) ((gI h (7, 0, 0) 2).toInt64) h) rfl rfl rfl rfl rfl ⟨rfl, rfl⟩ ?_
  refine aw_bind rfl (fun q1 hq1 => ?_)
  refine aw_cVb hC dX9_truncate_12 cv_RX9_122 rfl rm_7_0_0 (am_some (inj := (fun r => (.inr (some (.int (b2i r.1))), r.2))) hq1 (A_X9_goes _ (hC.2.2.2.2.2.2.2.2.2.2.2.2.1) _ _ _ (jX9_isIn p1.toInt64 (0 : Int64) ((gI h (7, 0, 0) 2).toInt64) h) h)) rfl rfl rfl rfl rfl ⟨rfl, rfl⟩ ?_
  refine aw_if_ne_b hC dX9_truncate_15 (tgt := 20) (by decide) ?_ ?_
  · refine aw_aload_n hC dX9_truncate_20 rfl ?_
    refine aw_iload_n hC dX9_truncate_21 rfl ?_
    refine aw_pfI hC dX9_truncate_22 fg_RX9_119 fp_7_2 rfl rm_7_0_0 (fun h2 => ?_)
    refine aw_iload_n hC dX9_truncate_25 rfl ?_
    exact aw_iret hC dX9_truncate_26 rfl rfl
  · refine aw_iconst hC dX9_truncate_18 (v := 0) (by decide) ?_
    exact aw_iret hC dX9_truncate_19 rfl rfl
set_option maxHeartbeats 4000000 in
set_option maxRecDepth 100000 in
theorem A_X9_here (l : Launch) (hl0 : l.stackTraces = false) (D : va_G) (loc : Rf → Nat) (cy : Nat → ClassId) (p1 : Int32) (h : HD) : AM l D loc cy yX9_here cX9_here 2 (some .int) 0 16 [.ref (loc (7, 0, 0)), .int p1] h ((jX9_here p1 h).map (fun r => (.inr (some (.int r)), h))) := by
  refine am_start (y := yX9_here) (av := [.ref (loc (7, 0, 0)), .int p1]) (nL := 2) (h := h) (RF := fun (r : Option Int32) => r.map (fun r => (.inr (some (.int r)), h))) (x := jX9_here p1 h) hl0 (by decide +kernel) rfl ?_
  intro p e R s m below meth c A hC
  unfold jX9_here
  refine aw_aload_n hC dX9_here_0 rfl ?_
  refine aw_gfI hC dX9_here_1 fg_RX9_134 rfl rm_7_0_0 ?_
  refine aw_iload_n hC dX9_here_4 rfl ?_
  refine aw_iadd hC dX9_here_5 ?_
  refine aw_aload_n hC dX9_here_6 rfl ?_
  refine aw_gfI hC dX9_here_7 fg_RX9_137 rfl rm_7_0_0 ?_
  refine aw_icmp_ge hC dX9_here_10 (tgt := 27) (by decide) ?_ ?_
  · refine aw_iconst hC dX9_here_27 (v := -1) (by decide) ?_
    exact aw_iret hC dX9_here_28 rfl rfl
  · refine aw_aload_n hC dX9_here_13 rfl ?_
    refine aw_gfR hC dX9_here_14 fg_RX9_7 rfl rfl rm_7_0_0 ?_
    refine aw_aload_n hC dX9_here_17 rfl ?_
    refine aw_gfI hC dX9_here_18 fg_RX9_134 rfl rm_7_0_0 ?_
    refine aw_iload_n hC dX9_here_21 rfl ?_
    refine aw_iadd hC dX9_here_22 ?_
    refine aw_guard rfl (fun g1 => ?_)
    refine aw_iald hC dX9_here_23 rm_7_0_1 rfl rfl g1 rfl ?_
    refine aw_goto hC dX9_here_24 (tgt := 28) (by decide) ?_
    exact aw_iret hC dX9_here_28 rfl rfl
set_option maxHeartbeats 4000000 in
set_option maxRecDepth 100000 in
theorem A_X9_isLetter (l : Launch) (hl0 : l.stackTraces = false) (D : va_G) (loc : Rf → Nat) (cy : Nat → ClassId) (p1 : Int32) (h : HD) : AM l D loc cy yX9_isLetter cX9_isLetter 1 (some .boolean) 0 16 [.int p1] h (some (.inr (some (.int (b2i (jX9_isLetter p1 h)))), h)) := by
  refine am_start (y := yX9_isLetter) (av := [.int p1]) (nL := 1) (h := h) (RF := fun (r : Bool) => some (.inr (some (.int (b2i r))), h)) (x := jX9_isLetter p1 h) hl0 (by decide +kernel) rfl ?_
  intro p e R s m below meth c A hC
  unfold jX9_isLetter
  refine aw_iload_n hC dX9_isLetter_0 rfl ?_
  refine aw_bipush hC dX9_isLetter_1 (v := 97) (by decide) ?_
  refine aw_icmp_lt hC dX9_isLetter_3 (tgt := 16) (by decide) ?_ ?_
  · refine aw_iconst hC dX9_isLetter_16 (v := 0) (by decide) ?_
    exact aw_zret hC dX9_isLetter_17 rfl (show _ = b2i false from rfl) rfl
  · refine aw_iload_n hC dX9_isLetter_6 rfl ?_
    refine aw_bipush hC dX9_isLetter_7 (v := 122) (by decide) ?_
    refine aw_icmp_gt hC dX9_isLetter_9 (tgt := 16) (by decide) ?_ ?_
    · refine aw_iconst hC dX9_isLetter_16 (v := 0) (by decide) ?_
      exact aw_zret hC dX9_isLetter_17 rfl (show _ = b2i false from rfl) rfl
    · refine aw_iconst hC dX9_isLetter_12 (v := 1) (by decide) ?_
      refine aw_goto hC dX9_isLetter_13 (tgt := 17) (by decide) ?_
      exact aw_zret hC dX9_isLetter_17 rfl (show _ = b2i true from rfl) rfl
set_option maxHeartbeats 4000000 in
set_option maxRecDepth 100000 in
theorem A_X9_isDigit (l : Launch) (hl0 : l.stackTraces = false) (D : va_G) (loc : Rf → Nat) (cy : Nat → ClassId) (p1 : Int32) (h : HD) : AM l D loc cy yX9_isDigit cX9_isDigit 1 (some .boolean) 0 16 [.int p1] h (some (.inr (some (.int (b2i (jX9_isDigit p1 h)))), h)) := by
  refine am_start (y := yX9_isDigit) (av := [.int p1]) (nL := 1) (h := h) (RF := fun (r : Bool) => some (.inr (some (.int (b2i r))), h)) (x := jX9_isDigit p1 h) hl0 (by decide +kernel) rfl ?_
  intro p e R s m below meth c A hC
  unfold jX9_isDigit
  refine aw_iload_n hC dX9_isDigit_0 rfl ?_
  refine aw_bipush hC dX9_isDigit_1 (v := 48) (by decide) ?_
  refine aw_icmp_lt hC dX9_isDigit_3 (tgt := 16) (by decide) ?_ ?_
  · refine aw_iconst hC dX9_isDigit_16 (v := 0) (by decide) ?_
    exact aw_zret hC dX9_isDigit_17 rfl (show _ = b2i false from rfl) rfl
  · refine aw_iload_n hC dX9_isDigit_6 rfl ?_
    refine aw_bipush hC dX9_isDigit_7 (v := 57) (by decide) ?_
    refine aw_icmp_gt hC dX9_isDigit_9 (tgt := 16) (by decide) ?_ ?_
    · refine aw_iconst hC dX9_isDigit_16 (v := 0) (by decide) ?_
      exact aw_zret hC dX9_isDigit_17 rfl (show _ = b2i false from rfl) rfl
    · refine aw_iconst hC dX9_isDigit_12 (v := 1) (by decide) ?_
      refine aw_goto hC dX9_isDigit_13 (tgt := 17) (by decide) ?_
      exact aw_zret hC dX9_isDigit_17 rfl (show _ = b2i true from rfl) rfl
set_option maxHeartbeats 4000000 in
set_option maxRecDepth 100000 in
theorem L_X9_goOnRead_0 (k33 : HD → Option HD) (hC : Cx p l e R s m args meth c D loc cy A cX9_goOnRead 3 (none) RX9 1 37 0 0) (hk33 : ∀  (h2 : HD), AW p l e R s m args below meth c D loc cy A 3 (QM below D loc cy A args s) (fun (r : Option HD) => r.map (fun r => (.inr (none), r))) (0, 0) 33 [(0, .ref (loc (7, 0, 0)))] [] h2 (k33  h2)) : ∀ (n0 : Nat)  (h : HD), AW p l e R s m args below meth c D loc cy A 3 (QM below D loc cy A args s) (fun (r : Option HD) => r.map (fun r => (.inr (none), r))) (0, 0) 0 [(0, .ref (loc (7, 0, 0)))] [] h (jX9_goOnRead_L0 k33 n0 h) := by
  intro n0
  induction n0 with
  | zero => intro h; exact aw_none rfl
  | succ n0 ih0 =>
    intro h
    rw [jX9_goOnRead_L0]
    refine aw_aload_n hC dX9_goOnRead_0 rfl ?_
    refine aw_iconst hC dX9_goOnRead_1 (v := 0) (by decide) ?_
    refine aw_bind rfl (fun q1 hq1 => ?_)
    refine aw_cVi hC dX9_goOnRead_2 cv_RX9_140 rfl rm_7_0_0 (am_some (inj := (fun r => (.inr (some (.int r)), h))) hq1 (A_X9_here _ (hC.2.2.2.2.2.2.2.2.2.2.2.2.1) _ _ _ (0 : Int32) h)) rfl rfl rfl rfl rfl ⟨rfl, rfl⟩ ?_
    refine aw_bipush hC dX9_goOnRead_5 (v := 32) (by decide) ?_
    refine aw_icmp_eq hC dX9_goOnRead_7 (tgt := 20) (by decide) ?_ ?_
    · refine aw_aload_n hC dX9_goOnRead_20 rfl ?_
      refine aw_dup hC dX9_goOnRead_21 rfl ?_
      refine aw_gfI hC dX9_goOnRead_22 fg_RX9_134 rfl rm_7_0_0 ?_
      refine aw_iconst hC dX9_goOnRead_25 (v := 1) (by decide) ?_
      refine aw_iadd hC dX9_goOnRead_26 ?_
      refine aw_pfI hC dX9_goOnRead_27 fg_RX9_134 fp_7_4 rfl rm_7_0_0 (fun h2 => ?_)
      refine aw_goto hC dX9_goOnRead_30 (tgt := 0) (by decide) ?_
      refine aw_sub [0] ?_
      exact ih0 h2
    · refine aw_aload_n hC dX9_goOnRead_10 rfl ?_
      refine aw_iconst hC dX9_goOnRead_11 (v := 0) (by decide) ?_
      refine aw_bind rfl (fun q3 hq3 => ?_)
      refine aw_cVi hC dX9_goOnRead_12 cv_RX9_140 rfl rm_7_0_0 (am_some (inj := (fun r => (.inr (some (.int r)), h))) hq3 (A_X9_here _ (hC.2.2.2.2.2.2.2.2.2.2.2.2.1) _ _ _ (0 : Int32) h)) rfl rfl rfl rfl rfl ⟨rfl, rfl⟩ ?_
      refine aw_bipush hC dX9_goOnRead_15 (v := 10) (by decide) ?_
      refine aw_icmp_ne hC dX9_goOnRead_17 (tgt := 33) (by decide) ?_ ?_
      · refine aw_sub [0] ?_
        exact hk33 h
      · refine aw_aload_n hC dX9_goOnRead_20 rfl ?_
        refine aw_dup hC dX9_goOnRead_21 rfl ?_
        refine aw_gfI hC dX9_goOnRead_22 fg_RX9_134 rfl rm_7_0_0 ?_
        refine aw_iconst hC dX9_goOnRead_25 (v := 1) (by decide) ?_
        refine aw_iadd hC dX9_goOnRead_26 ?_
        refine aw_pfI hC dX9_goOnRead_27 fg_RX9_134 fp_7_4 rfl rm_7_0_0 (fun h4 => ?_)
        refine aw_goto hC dX9_goOnRead_30 (tgt := 0) (by decide) ?_
        refine aw_sub [0] ?_
        exact ih0 h4
set_option maxHeartbeats 4000000 in
set_option maxRecDepth 100000 in
theorem L_X9_goOnRead_146 (k188 : Int32 → HD → Option HD) (hC : Cx p l e R s m args meth c D loc cy A cX9_goOnRead 3 (none) RX9 1 37 0 0) (hk188 : ∀ (x2 : Int32) (h2 : HD), AW p l e R s m args below meth c D loc cy A 3 (QM below D loc cy A args s) (fun (r : Option HD) => r.map (fun r => (.inr (none), r))) (0, 0) 188 [(0, .ref (loc (7, 0, 0))), (2, .int x2)] [] h2 (k188 x2 h2)) : ∀ (n146 : Nat) (x2 : Int32) (h : HD), AW p l e R s m args below meth c D loc cy A 3 (QM below D loc cy A args s) (fun (r : Option HD) => r.map (fun r => (.inr (none), r))) (0, 0) 146 [(0, .ref (loc (7, 0, 0))), (2, .int x2)] [] h (jX9_goOnRead_L146 k188 n146 x2 h) := by
  intro n146
  induction n146 with
  | zero => intro x2 h; exact aw_none rfl
  | succ n146 ih146 =>
    intro x2 h
    rw [jX9_goOnRead_L146]
    refine aw_aload_n hC dX9_goOnRead_146 rfl ?_
    refine aw_iload_n hC dX9_goOnRead_147 rfl ?_
    refine aw_bind rfl (fun q22 hq22 => ?_)
    refine aw_cVi hC dX9_goOnRead_148 cv_RX9_140 rfl rm_7_0_0 (am_some (inj := (fun r => (.inr (some (.int r)), h))) hq22 (A_X9_here _ (hC.2.2.2.2.2.2.2.2.2.2.2.2.1) _ _ _ x2 h)) rfl rfl rfl rfl rfl ⟨rfl, rfl⟩ ?_
    refine aw_cSb hC dX9_goOnRead_151 cv_RX9_161 (A_X9_isDigit _ (hC.2.2.2.2.2.2.2.2.2.2.2.2.1) _ _ _ q22 h) rfl rfl rfl rfl rfl ⟨rfl, rfl⟩ ?_
    refine aw_if_eq_b hC dX9_goOnRead_154 (tgt := 188) (by decide) ?_ ?_
    · refine aw_sub [0, 2] ?_
      exact hk188 x2 h
    · refine aw_iload_n hC dX9_goOnRead_157 rfl ?_
      refine aw_iconst hC dX9_goOnRead_158 (v := 3) (by decide) ?_
      refine aw_icmp_ge hC dX9_goOnRead_159 (tgt := 182) (by decide) ?_ ?_
      · refine aw_iinc hC dX9_goOnRead_182 rfl (v := x2 + 1) (by first | rfl | decide) (by decide) ?_
        refine aw_goto hC dX9_goOnRead_185 (tgt := 146) (by decide) ?_
        refine aw_sub [0, 2] ?_
        exact ih146 (x2 + 1) h
      · refine aw_aload_n hC dX9_goOnRead_162 rfl ?_
        refine aw_bipush hC dX9_goOnRead_163 (v := 10) (by decide) ?_
        refine aw_aload_n hC dX9_goOnRead_165 rfl ?_
        refine aw_gfI hC dX9_goOnRead_166 fg_RX9_151 rfl rm_7_0_0 ?_
        refine aw_imul hC dX9_goOnRead_169 ?_
        refine aw_aload_n hC dX9_goOnRead_170 rfl ?_
        refine aw_iload_n hC dX9_goOnRead_171 rfl ?_
        refine aw_bind rfl (fun q23 hq23 => ?_)
        refine aw_cVi hC dX9_goOnRead_172 cv_RX9_140 rfl rm_7_0_0 (am_some (inj := (fun r => (.inr (some (.int r)), h))) hq23 (A_X9_here _ (hC.2.2.2.2.2.2.2.2.2.2.2.2.1) _ _ _ x2 h)) rfl rfl rfl rfl rfl ⟨rfl, rfl⟩ ?_
        refine aw_iadd hC dX9_goOnRead_175 ?_
        refine aw_bipush hC dX9_goOnRead_176 (v := 48) (by decide) ?_
        refine aw_isub hC dX9_goOnRead_178 ?_
        refine aw_pfI hC dX9_goOnRead_179 fg_RX9_151 fp_7_7 rfl rm_7_0_0 (fun h24 => ?_)
        refine aw_iinc hC dX9_goOnRead_182 rfl (v := x2 + 1) (by first | rfl | decide) (by decide) ?_
        refine aw_goto hC dX9_goOnRead_185 (tgt := 146) (by decide) ?_
        refine aw_sub [0, 2] ?_
        exact ih146 (x2 + 1) h24
set_option maxHeartbeats 4000000 in
set_option maxRecDepth 100000 in
theorem L_X9_goOnRead_76 (k121 : Int32 → HD → Option HD) (hC : Cx p l e R s m args meth c D loc cy A cX9_goOnRead 3 (none) RX9 1 37 0 0) (hk121 : ∀ (x2 : Int32) (h2 : HD), AW p l e R s m args below meth c D loc cy A 3 (QM below D loc cy A args s) (fun (r : Option HD) => r.map (fun r => (.inr (none), r))) (0, 0) 121 [(0, .ref (loc (7, 0, 0))), (2, .int x2)] [] h2 (k121 x2 h2)) : ∀ (n76 : Nat) (x2 : Int32) (h : HD), AW p l e R s m args below meth c D loc cy A 3 (QM below D loc cy A args s) (fun (r : Option HD) => r.map (fun r => (.inr (none), r))) (0, 0) 76 [(0, .ref (loc (7, 0, 0))), (2, .int x2)] [] h (jX9_goOnRead_L76 k121 n76 x2 h) := by
  intro n76
  induction n76 with
  | zero => intro x2 h; exact aw_none rfl
  | succ n76 ih76 =>
    intro x2 h
    rw [jX9_goOnRead_L76]
    refine aw_aload_n hC dX9_goOnRead_76 rfl ?_
    refine aw_iload_n hC dX9_goOnRead_77 rfl ?_
    refine aw_bind rfl (fun q30 hq30 => ?_)
    refine aw_cVi hC dX9_goOnRead_78 cv_RX9_140 rfl rm_7_0_0 (am_some (inj := (fun r => (.inr (some (.int r)), h))) hq30 (A_X9_here _ (hC.2.2.2.2.2.2.2.2.2.2.2.2.1) _ _ _ x2 h)) rfl rfl rfl rfl rfl ⟨rfl, rfl⟩ ?_
    refine aw_cSb hC dX9_goOnRead_81 cv_RX9_157 (A_X9_isLetter _ (hC.2.2.2.2.2.2.2.2.2.2.2.2.1) _ _ _ q30 h) rfl rfl rfl rfl rfl ⟨rfl, rfl⟩ ?_
    refine aw_if_eq_b hC dX9_goOnRead_84 (tgt := 121) (by decide) ?_ ?_
    · refine aw_sub [0, 2] ?_
      exact hk121 x2 h
    · refine aw_iload_n hC dX9_goOnRead_87 rfl ?_
      refine aw_bipush hC dX9_goOnRead_88 (v := 8) (by decide) ?_
      refine aw_icmp_ge hC dX9_goOnRead_90 (tgt := 115) (by decide) ?_ ?_
      · refine aw_iinc hC dX9_goOnRead_115 rfl (v := x2 + 1) (by first | rfl | decide) (by decide) ?_
        refine aw_goto hC dX9_goOnRead_118 (tgt := 76) (by decide) ?_
        refine aw_sub [0, 2] ?_
        exact ih76 (x2 + 1) h
      · refine aw_aload_n hC dX9_goOnRead_93 rfl ?_
        refine aw_aload_n hC dX9_goOnRead_94 rfl ?_
        refine aw_gfJ hC dX9_goOnRead_95 fg_RX9_147 rfl rm_7_0_0 ?_
        refine aw_iconst hC dX9_goOnRead_98 (v := 5) (by decide) ?_
        refine aw_lshl hC dX9_goOnRead_99 ?_
        refine aw_aload_n hC dX9_goOnRead_100 rfl ?_
        refine aw_iload_n hC dX9_goOnRead_101 rfl ?_
        refine aw_bind rfl (fun q31 hq31 => ?_)
        refine aw_cVi hC dX9_goOnRead_102 cv_RX9_140 rfl rm_7_0_0 (am_some (inj := (fun r => (.inr (some (.int r)), h))) hq31 (A_X9_here _ (hC.2.2.2.2.2.2.2.2.2.2.2.2.1) _ _ _ x2 h)) rfl rfl rfl rfl rfl ⟨rfl, rfl⟩ ?_
        refine aw_bipush hC dX9_goOnRead_105 (v := 97) (by decide) ?_
        refine aw_isub hC dX9_goOnRead_107 ?_
        refine aw_iconst hC dX9_goOnRead_108 (v := 1) (by decide) ?_
        refine aw_iadd hC dX9_goOnRead_109 ?_
        refine aw_i2l hC dX9_goOnRead_110 ?_
        refine aw_lor hC dX9_goOnRead_111 ?_
        refine aw_pfJ hC dX9_goOnRead_112 fg_RX9_147 fp_7_12 rfl rm_7_0_0 (fun h32 => ?_)
        refine aw_iinc hC dX9_goOnRead_115 rfl (v := x2 + 1) (by first | rfl | decide) (by decide) ?_
        refine aw_goto hC dX9_goOnRead_118 (tgt := 76) (by decide) ?_
        refine aw_sub [0, 2] ?_
        exact ih76 (x2 + 1) h32
set_option maxHeartbeats 4000000 in
set_option maxRecDepth 100000 in
theorem A_X9_goOnRead (l : Launch) (hl0 : l.stackTraces = false) (D : va_G) (loc : Rf → Nat) (cy : Nat → ClassId)  (h : HD) : AM l D loc cy yX9_goOnRead cX9_goOnRead 3 (none) 1 37 [.ref (loc (7, 0, 0))] h ((jX9_goOnRead h).map (fun r => (.inr (none), r))) := by
  refine am_start (y := yX9_goOnRead) (av := [.ref (loc (7, 0, 0))]) (nL := 3) (h := h) (RF := fun (r : Option HD) => r.map (fun r => (.inr (none), r))) (x := jX9_goOnRead h) hl0 (by decide +kernel) rfl ?_
  intro p e R s m below meth c A hC
  unfold jX9_goOnRead
  refine aw_sub [0] ?_
  refine L_X9_goOnRead_0  _ hC ?_ FU h
  · intro h5
    refine aw_aload_n hC dX9_goOnRead_33 rfl ?_
    refine aw_aload_n hC dX9_goOnRead_34 rfl ?_
    refine aw_gfI hC dX9_goOnRead_35 fg_RX9_134 rfl rm_7_0_0 ?_
    refine aw_pfI hC dX9_goOnRead_38 fg_RX9_144 fp_7_5 rfl rm_7_0_0 (fun h6 => ?_)
    refine aw_aload_n hC dX9_goOnRead_41 rfl ?_
    refine aw_lconst hC dX9_goOnRead_42 (v := 0) (by decide) ?_
    refine aw_pfJ hC dX9_goOnRead_43 fg_RX9_147 fp_7_12 rfl rm_7_0_0 (fun h7 => ?_)
    refine aw_aload_n hC dX9_goOnRead_46 rfl ?_
    refine aw_iconst hC dX9_goOnRead_47 (v := 0) (by decide) ?_
    refine aw_pfI hC dX9_goOnRead_48 fg_RX9_151 fp_7_7 rfl rm_7_0_0 (fun h8 => ?_)
    refine aw_aload_n hC dX9_goOnRead_51 rfl ?_
    refine aw_iconst hC dX9_goOnRead_52 (v := 0) (by decide) ?_
    refine aw_bind rfl (fun q9 hq9 => ?_)
    refine aw_cVi hC dX9_goOnRead_53 cv_RX9_140 rfl rm_7_0_0 (am_some (inj := (fun r => (.inr (some (.int r)), h8))) hq9 (A_X9_here _ (hC.2.2.2.2.2.2.2.2.2.2.2.2.1) _ _ _ (0 : Int32) h8)) rfl rfl rfl rfl rfl ⟨rfl, rfl⟩ ?_
    refine aw_istore_n hC dX9_goOnRead_56 (by decide) ?_
    refine aw_iconst hC dX9_goOnRead_57 (v := 0) (by decide) ?_
    refine aw_istore_n hC dX9_goOnRead_58 (by decide) ?_
    refine aw_iload_n hC dX9_goOnRead_59 rfl ?_
    refine aw_if_ge hC dX9_goOnRead_60 (tgt := 69) (by decide) ?_ ?_
    · refine aw_iload_n hC dX9_goOnRead_69 rfl ?_
      refine aw_cSb hC dX9_goOnRead_70 cv_RX9_157 (A_X9_isLetter _ (hC.2.2.2.2.2.2.2.2.2.2.2.2.1) _ _ _ q9 h8) rfl rfl rfl rfl rfl ⟨rfl, rfl⟩ ?_
      refine aw_if_eq_b hC dX9_goOnRead_73 (tgt := 139) (by decide) ?_ ?_
      · refine aw_iload_n hC dX9_goOnRead_139 rfl ?_
        refine aw_cSb hC dX9_goOnRead_140 cv_RX9_161 (A_X9_isDigit _ (hC.2.2.2.2.2.2.2.2.2.2.2.2.1) _ _ _ q9 h8) rfl rfl rfl rfl rfl ⟨rfl, rfl⟩ ?_
        refine aw_if_eq_b hC dX9_goOnRead_143 (tgt := 205) (by decide) ?_ ?_
        · refine aw_aload_n hC dX9_goOnRead_205 rfl ?_
          refine aw_iload_n hC dX9_goOnRead_206 rfl ?_
          refine aw_bipush hC dX9_goOnRead_207 (v := 59) (by decide) ?_
          refine aw_icmp_eq hC dX9_goOnRead_209 (tgt := 224) (by decide) ?_ ?_
          · refine aw_iconst hC dX9_goOnRead_224 (v := 3) (by decide) ?_
            refine aw_goto hC dX9_goOnRead_225 (tgt := 229) (by decide) ?_
            refine aw_pfI hC dX9_goOnRead_229 fg_RX9_154 fp_7_6 rfl rm_7_0_0 (fun h10 => ?_)
            refine aw_aload_n hC dX9_goOnRead_232 rfl ?_
            refine aw_iload_n hC dX9_goOnRead_233 rfl ?_
            refine aw_pfI hC dX9_goOnRead_234 fg_RX9_151 fp_7_7 rfl rm_7_0_0 (fun h11 => ?_)
            refine aw_iconst hC dX9_goOnRead_237 (v := 1) (by decide) ?_
            refine aw_istore_n hC dX9_goOnRead_238 (by decide) ?_
            refine aw_aload_n hC dX9_goOnRead_239 rfl ?_
            refine aw_dup hC dX9_goOnRead_240 rfl ?_
            refine aw_gfI hC dX9_goOnRead_241 fg_RX9_134 rfl rm_7_0_0 ?_
            refine aw_iload_n hC dX9_goOnRead_244 rfl ?_
            refine aw_iadd hC dX9_goOnRead_245 ?_
            refine aw_pfI hC dX9_goOnRead_246 fg_RX9_134 fp_7_4 rfl rm_7_0_0 (fun h12 => ?_)
            exact aw_vret hC dX9_goOnRead_249 rfl rfl
          · refine aw_iload_n hC dX9_goOnRead_212 rfl ?_
            refine aw_bipush hC dX9_goOnRead_213 (v := 40) (by decide) ?_
            refine aw_icmp_eq hC dX9_goOnRead_215 (tgt := 224) (by decide) ?_ ?_
            · refine aw_iconst hC dX9_goOnRead_224 (v := 3) (by decide) ?_
              refine aw_goto hC dX9_goOnRead_225 (tgt := 229) (by decide) ?_
              refine aw_pfI hC dX9_goOnRead_229 fg_RX9_154 fp_7_6 rfl rm_7_0_0 (fun h13 => ?_)
              refine aw_aload_n hC dX9_goOnRead_232 rfl ?_
              refine aw_iload_n hC dX9_goOnRead_233 rfl ?_
              refine aw_pfI hC dX9_goOnRead_234 fg_RX9_151 fp_7_7 rfl rm_7_0_0 (fun h14 => ?_)
              refine aw_iconst hC dX9_goOnRead_237 (v := 1) (by decide) ?_
              refine aw_istore_n hC dX9_goOnRead_238 (by decide) ?_
              refine aw_aload_n hC dX9_goOnRead_239 rfl ?_
              refine aw_dup hC dX9_goOnRead_240 rfl ?_
              refine aw_gfI hC dX9_goOnRead_241 fg_RX9_134 rfl rm_7_0_0 ?_
              refine aw_iload_n hC dX9_goOnRead_244 rfl ?_
              refine aw_iadd hC dX9_goOnRead_245 ?_
              refine aw_pfI hC dX9_goOnRead_246 fg_RX9_134 fp_7_4 rfl rm_7_0_0 (fun h15 => ?_)
              exact aw_vret hC dX9_goOnRead_249 rfl rfl
            · refine aw_iload_n hC dX9_goOnRead_218 rfl ?_
              refine aw_bipush hC dX9_goOnRead_219 (v := 41) (by decide) ?_
              refine aw_icmp_ne hC dX9_goOnRead_221 (tgt := 228) (by decide) ?_ ?_
              · refine aw_iconst hC dX9_goOnRead_228 (v := 4) (by decide) ?_
                refine aw_pfI hC dX9_goOnRead_229 fg_RX9_154 fp_7_6 rfl rm_7_0_0 (fun h16 => ?_)
                refine aw_aload_n hC dX9_goOnRead_232 rfl ?_
                refine aw_iload_n hC dX9_goOnRead_233 rfl ?_
                refine aw_pfI hC dX9_goOnRead_234 fg_RX9_151 fp_7_7 rfl rm_7_0_0 (fun h17 => ?_)
                refine aw_iconst hC dX9_goOnRead_237 (v := 1) (by decide) ?_
                refine aw_istore_n hC dX9_goOnRead_238 (by decide) ?_
                refine aw_aload_n hC dX9_goOnRead_239 rfl ?_
                refine aw_dup hC dX9_goOnRead_240 rfl ?_
                refine aw_gfI hC dX9_goOnRead_241 fg_RX9_134 rfl rm_7_0_0 ?_
                refine aw_iload_n hC dX9_goOnRead_244 rfl ?_
                refine aw_iadd hC dX9_goOnRead_245 ?_
                refine aw_pfI hC dX9_goOnRead_246 fg_RX9_134 fp_7_4 rfl rm_7_0_0 (fun h18 => ?_)
                exact aw_vret hC dX9_goOnRead_249 rfl rfl
              · refine aw_iconst hC dX9_goOnRead_224 (v := 3) (by decide) ?_
                refine aw_goto hC dX9_goOnRead_225 (tgt := 229) (by decide) ?_
                refine aw_pfI hC dX9_goOnRead_229 fg_RX9_154 fp_7_6 rfl rm_7_0_0 (fun h19 => ?_)
                refine aw_aload_n hC dX9_goOnRead_232 rfl ?_
                refine aw_iload_n hC dX9_goOnRead_233 rfl ?_
                refine aw_pfI hC dX9_goOnRead_234 fg_RX9_151 fp_7_7 rfl rm_7_0_0 (fun h20 => ?_)
                refine aw_iconst hC dX9_goOnRead_237 (v := 1) (by decide) ?_
                refine aw_istore_n hC dX9_goOnRead_238 (by decide) ?_
                refine aw_aload_n hC dX9_goOnRead_239 rfl ?_
                refine aw_dup hC dX9_goOnRead_240 rfl ?_
                refine aw_gfI hC dX9_goOnRead_241 fg_RX9_134 rfl rm_7_0_0 ?_
                refine aw_iload_n hC dX9_goOnRead_244 rfl ?_
                refine aw_iadd hC dX9_goOnRead_245 ?_
                refine aw_pfI hC dX9_goOnRead_246 fg_RX9_134 fp_7_4 rfl rm_7_0_0 (fun h21 => ?_)
                exact aw_vret hC dX9_goOnRead_249 rfl rfl
        · refine aw_sub [0, 2] ?_
          refine L_X9_goOnRead_146  _ hC ?_ FU (0 : Int32) h8
          · intro y146_2 h25
            refine aw_aload_n hC dX9_goOnRead_188 rfl ?_
            refine aw_iload_n hC dX9_goOnRead_189 rfl ?_
            refine aw_iconst hC dX9_goOnRead_190 (v := 3) (by decide) ?_
            refine aw_icmp_le hC dX9_goOnRead_191 (tgt := 198) (by decide) ?_ ?_
            · refine aw_iconst hC dX9_goOnRead_198 (v := 2) (by decide) ?_
              refine aw_pfI hC dX9_goOnRead_199 fg_RX9_154 fp_7_6 rfl rm_7_0_0 (fun h26 => ?_)
              refine aw_goto hC dX9_goOnRead_202 (tgt := 239) (by decide) ?_
              refine aw_aload_n hC dX9_goOnRead_239 rfl ?_
              refine aw_dup hC dX9_goOnRead_240 rfl ?_
              refine aw_gfI hC dX9_goOnRead_241 fg_RX9_134 rfl rm_7_0_0 ?_
              refine aw_iload_n hC dX9_goOnRead_244 rfl ?_
              refine aw_iadd hC dX9_goOnRead_245 ?_
              refine aw_pfI hC dX9_goOnRead_246 fg_RX9_134 fp_7_4 rfl rm_7_0_0 (fun h27 => ?_)
              exact aw_vret hC dX9_goOnRead_249 rfl rfl
            · refine aw_iconst hC dX9_goOnRead_194 (v := 4) (by decide) ?_
              refine aw_goto hC dX9_goOnRead_195 (tgt := 199) (by decide) ?_
              refine aw_pfI hC dX9_goOnRead_199 fg_RX9_154 fp_7_6 rfl rm_7_0_0 (fun h28 => ?_)
              refine aw_goto hC dX9_goOnRead_202 (tgt := 239) (by decide) ?_
              refine aw_aload_n hC dX9_goOnRead_239 rfl ?_
              refine aw_dup hC dX9_goOnRead_240 rfl ?_
              refine aw_gfI hC dX9_goOnRead_241 fg_RX9_134 rfl rm_7_0_0 ?_
              refine aw_iload_n hC dX9_goOnRead_244 rfl ?_
              refine aw_iadd hC dX9_goOnRead_245 ?_
              refine aw_pfI hC dX9_goOnRead_246 fg_RX9_134 fp_7_4 rfl rm_7_0_0 (fun h29 => ?_)
              exact aw_vret hC dX9_goOnRead_249 rfl rfl
      · refine aw_sub [0, 2] ?_
        refine L_X9_goOnRead_76  _ hC ?_ FU (0 : Int32) h8
        · intro y76_2 h33
          refine aw_aload_n hC dX9_goOnRead_121 rfl ?_
          refine aw_iload_n hC dX9_goOnRead_122 rfl ?_
          refine aw_bipush hC dX9_goOnRead_123 (v := 8) (by decide) ?_
          refine aw_icmp_le hC dX9_goOnRead_125 (tgt := 132) (by decide) ?_ ?_
          · refine aw_iconst hC dX9_goOnRead_132 (v := 1) (by decide) ?_
            refine aw_pfI hC dX9_goOnRead_133 fg_RX9_154 fp_7_6 rfl rm_7_0_0 (fun h34 => ?_)
            refine aw_goto hC dX9_goOnRead_136 (tgt := 239) (by decide) ?_
            refine aw_aload_n hC dX9_goOnRead_239 rfl ?_
            refine aw_dup hC dX9_goOnRead_240 rfl ?_
            refine aw_gfI hC dX9_goOnRead_241 fg_RX9_134 rfl rm_7_0_0 ?_
            refine aw_iload_n hC dX9_goOnRead_244 rfl ?_
            refine aw_iadd hC dX9_goOnRead_245 ?_
            refine aw_pfI hC dX9_goOnRead_246 fg_RX9_134 fp_7_4 rfl rm_7_0_0 (fun h35 => ?_)
            exact aw_vret hC dX9_goOnRead_249 rfl rfl
          · refine aw_iconst hC dX9_goOnRead_128 (v := 4) (by decide) ?_
            refine aw_goto hC dX9_goOnRead_129 (tgt := 133) (by decide) ?_
            refine aw_pfI hC dX9_goOnRead_133 fg_RX9_154 fp_7_6 rfl rm_7_0_0 (fun h36 => ?_)
            refine aw_goto hC dX9_goOnRead_136 (tgt := 239) (by decide) ?_
            refine aw_aload_n hC dX9_goOnRead_239 rfl ?_
            refine aw_dup hC dX9_goOnRead_240 rfl ?_
            refine aw_gfI hC dX9_goOnRead_241 fg_RX9_134 rfl rm_7_0_0 ?_
            refine aw_iload_n hC dX9_goOnRead_244 rfl ?_
            refine aw_iadd hC dX9_goOnRead_245 ?_
            refine aw_pfI hC dX9_goOnRead_246 fg_RX9_134 fp_7_4 rfl rm_7_0_0 (fun h37 => ?_)
            exact aw_vret hC dX9_goOnRead_249 rfl rfl
    · refine aw_aload_n hC dX9_goOnRead_63 rfl ?_
      refine aw_iconst hC dX9_goOnRead_64 (v := 0) (by decide) ?_
      refine aw_pfI hC dX9_goOnRead_65 fg_RX9_154 fp_7_6 rfl rm_7_0_0 (fun h38 => ?_)
      exact aw_vret hC dX9_goOnRead_68 rfl rfl
set_option maxHeartbeats 4000000 in
set_option maxRecDepth 100000 in
theorem A_X9_wrong (l : Launch) (hl0 : l.stackTraces = false) (D : va_G) (loc : Rf → Nat) (cy : Nat → ClassId) (p1 : Int32) (h : HD) : AM l D loc cy yX9_wrong cX9_wrong 2 (none) 0 16 [.ref (loc (7, 0, 0)), .int p1] h ((jX9_wrong p1 h).map (fun r => (.inr (none), r))) := by
  refine am_start (y := yX9_wrong) (av := [.ref (loc (7, 0, 0)), .int p1]) (nL := 2) (h := h) (RF := fun (r : Option HD) => r.map (fun r => (.inr (none), r))) (x := jX9_wrong p1 h) hl0 (by decide +kernel) rfl ?_
  intro p e R s m below meth c A hC
  unfold jX9_wrong
  refine aw_aload_n hC dX9_wrong_0 rfl ?_
  refine aw_gfI hC dX9_wrong_1 fg_RX9_164 rfl rm_7_0_0 ?_
  refine aw_if_le hC dX9_wrong_4 (tgt := 8) (by decide) ?_ ?_
  · refine aw_aload_n hC dX9_wrong_8 rfl ?_
    refine aw_aload_n hC dX9_wrong_9 rfl ?_
    refine aw_gfI hC dX9_wrong_10 fg_RX9_154 rfl rm_7_0_0 ?_
    refine aw_iconst hC dX9_wrong_13 (v := 4) (by decide) ?_
    refine aw_icmp_ne hC dX9_wrong_14 (tgt := 21) (by decide) ?_ ?_
    · refine aw_iload_n hC dX9_wrong_21 rfl ?_
      refine aw_pfI hC dX9_wrong_22 fg_RX9_164 fp_7_8 rfl rm_7_0_0 (fun h1 => ?_)
      refine aw_aload_n hC dX9_wrong_25 rfl ?_
      refine aw_aload_n hC dX9_wrong_26 rfl ?_
      refine aw_gfI hC dX9_wrong_27 fg_RX9_144 rfl rm_7_0_0 ?_
      refine aw_pfI hC dX9_wrong_30 fg_RX9_13 fp_7_9 rfl rm_7_0_0 (fun h2 => ?_)
      exact aw_vret hC dX9_wrong_33 rfl rfl
    · refine aw_iconst hC dX9_wrong_17 (v := 1) (by decide) ?_
      refine aw_goto hC dX9_wrong_18 (tgt := 22) (by decide) ?_
      refine aw_pfI hC dX9_wrong_22 fg_RX9_164 fp_7_8 rfl rm_7_0_0 (fun h3 => ?_)
      refine aw_aload_n hC dX9_wrong_25 rfl ?_
      refine aw_aload_n hC dX9_wrong_26 rfl ?_
      refine aw_gfI hC dX9_wrong_27 fg_RX9_144 rfl rm_7_0_0 ?_
      refine aw_pfI hC dX9_wrong_30 fg_RX9_13 fp_7_9 rfl rm_7_0_0 (fun h4 => ?_)
      exact aw_vret hC dX9_wrong_33 rfl rfl
  · exact aw_vret hC dX9_wrong_7 rfl rfl
set_option maxHeartbeats 4000000 in
set_option maxRecDepth 100000 in
theorem A_X9_isGood (l : Launch) (hl0 : l.stackTraces = false) (D : va_G) (loc : Rf → Nat) (cy : Nat → ClassId)  (h : HD) : AM l D loc cy yX9_isGood cX9_isGood 1 (some .boolean) 0 16 [.ref (loc (7, 0, 0))] h (some (.inr (some (.int (b2i (jX9_isGood h)))), h)) := by
  refine am_start (y := yX9_isGood) (av := [.ref (loc (7, 0, 0))]) (nL := 1) (h := h) (RF := fun (r : Bool) => some (.inr (some (.int (b2i r))), h)) (x := jX9_isGood h) hl0 (by decide +kernel) rfl ?_
  intro p e R s m below meth c A hC
  unfold jX9_isGood
  refine aw_aload_n hC dX9_isGood_0 rfl ?_
  refine aw_gfI hC dX9_isGood_1 fg_RX9_164 rfl rm_7_0_0 ?_
  refine aw_if_ne hC dX9_isGood_4 (tgt := 11) (by decide) ?_ ?_
  · refine aw_iconst hC dX9_isGood_11 (v := 0) (by decide) ?_
    exact aw_zret hC dX9_isGood_12 rfl (show _ = b2i false from rfl) rfl
  · refine aw_iconst hC dX9_isGood_7 (v := 1) (by decide) ?_
    refine aw_goto hC dX9_isGood_8 (tgt := 12) (by decide) ?_
    exact aw_zret hC dX9_isGood_12 rfl (show _ = b2i true from rfl) rfl
set_option maxHeartbeats 4000000 in
set_option maxRecDepth 100000 in
theorem A_X9_isWord (l : Launch) (hl0 : l.stackTraces = false) (D : va_G) (loc : Rf → Nat) (cy : Nat → ClassId) (p1 : Int64) (h : HD) : AM l D loc cy yX9_isWord cX9_isWord 3 (some .boolean) 0 16 [.ref (loc (7, 0, 0)), .long p1] h (some (.inr (some (.int (b2i (jX9_isWord p1 h)))), h)) := by
  refine am_start (y := yX9_isWord) (av := [.ref (loc (7, 0, 0)), .long p1]) (nL := 3) (h := h) (RF := fun (r : Bool) => some (.inr (some (.int (b2i r))), h)) (x := jX9_isWord p1 h) hl0 (by decide +kernel) rfl ?_
  intro p e R s m below meth c A hC
  unfold jX9_isWord
  refine aw_aload_n hC dX9_isWord_0 rfl ?_
  refine aw_gfI hC dX9_isWord_1 fg_RX9_164 rfl rm_7_0_0 ?_
  refine aw_if_ne hC dX9_isWord_4 (tgt := 28) (by decide) ?_ ?_
  · refine aw_iconst hC dX9_isWord_28 (v := 0) (by decide) ?_
    exact aw_zret hC dX9_isWord_29 rfl (show _ = b2i false from rfl) rfl
  · refine aw_aload_n hC dX9_isWord_7 rfl ?_
    refine aw_gfI hC dX9_isWord_8 fg_RX9_154 rfl rm_7_0_0 ?_
    refine aw_iconst hC dX9_isWord_11 (v := 1) (by decide) ?_
    refine aw_icmp_ne hC dX9_isWord_12 (tgt := 28) (by decide) ?_ ?_
    · refine aw_iconst hC dX9_isWord_28 (v := 0) (by decide) ?_
      exact aw_zret hC dX9_isWord_29 rfl (show _ = b2i false from rfl) rfl
    · refine aw_aload_n hC dX9_isWord_15 rfl ?_
      refine aw_gfJ hC dX9_isWord_16 fg_RX9_147 rfl rm_7_0_0 ?_
      refine aw_lload_n hC dX9_isWord_19 rfl ?_
      refine aw_lcmp hC dX9_isWord_20 ?_
      refine aw_if_ne hC dX9_isWord_21 (tgt := 28) (by decide) ?_ ?_
      · refine aw_iconst hC dX9_isWord_28 (v := 0) (by decide) ?_
        exact aw_zret hC dX9_isWord_29 rfl (show _ = b2i false from rfl) rfl
      · refine aw_iconst hC dX9_isWord_24 (v := 1) (by decide) ?_
        refine aw_goto hC dX9_isWord_25 (tgt := 29) (by decide) ?_
        exact aw_zret hC dX9_isWord_29 rfl (show _ = b2i true from rfl) rfl
set_option maxHeartbeats 4000000 in
set_option maxRecDepth 100000 in
theorem A_X9_isSign (l : Launch) (hl0 : l.stackTraces = false) (D : va_G) (loc : Rf → Nat) (cy : Nat → ClassId) (p1 : Int32) (h : HD) : AM l D loc cy yX9_isSign cX9_isSign 2 (some .boolean) 0 16 [.ref (loc (7, 0, 0)), .int p1] h (some (.inr (some (.int (b2i (jX9_isSign p1 h)))), h)) := by
  refine am_start (y := yX9_isSign) (av := [.ref (loc (7, 0, 0)), .int p1]) (nL := 2) (h := h) (RF := fun (r : Bool) => some (.inr (some (.int (b2i r))), h)) (x := jX9_isSign p1 h) hl0 (by decide +kernel) rfl ?_
  intro p e R s m below meth c A hC
  unfold jX9_isSign
  refine aw_aload_n hC dX9_isSign_0 rfl ?_
  refine aw_gfI hC dX9_isSign_1 fg_RX9_164 rfl rm_7_0_0 ?_
  refine aw_if_ne hC dX9_isSign_4 (tgt := 27) (by decide) ?_ ?_
  · refine aw_iconst hC dX9_isSign_27 (v := 0) (by decide) ?_
    exact aw_zret hC dX9_isSign_28 rfl (show _ = b2i false from rfl) rfl
  · refine aw_aload_n hC dX9_isSign_7 rfl ?_
    refine aw_gfI hC dX9_isSign_8 fg_RX9_154 rfl rm_7_0_0 ?_
    refine aw_iconst hC dX9_isSign_11 (v := 3) (by decide) ?_
    refine aw_icmp_ne hC dX9_isSign_12 (tgt := 27) (by decide) ?_ ?_
    · refine aw_iconst hC dX9_isSign_27 (v := 0) (by decide) ?_
      exact aw_zret hC dX9_isSign_28 rfl (show _ = b2i false from rfl) rfl
    · refine aw_aload_n hC dX9_isSign_15 rfl ?_
      refine aw_gfI hC dX9_isSign_16 fg_RX9_151 rfl rm_7_0_0 ?_
      refine aw_iload_n hC dX9_isSign_19 rfl ?_
      refine aw_icmp_ne hC dX9_isSign_20 (tgt := 27) (by decide) ?_ ?_
      · refine aw_iconst hC dX9_isSign_27 (v := 0) (by decide) ?_
        exact aw_zret hC dX9_isSign_28 rfl (show _ = b2i false from rfl) rfl
      · refine aw_iconst hC dX9_isSign_23 (v := 1) (by decide) ?_
        refine aw_goto hC dX9_isSign_24 (tgt := 28) (by decide) ?_
        exact aw_zret hC dX9_isSign_28 rfl (show _ = b2i true from rfl) rfl
set_option maxHeartbeats 4000000 in
set_option maxRecDepth 100000 in
theorem A_X9_mustSign (l : Launch) (hl0 : l.stackTraces = false) (D : va_G) (loc : Rf → Nat) (cy : Nat → ClassId) (p1 : Int32) (h : HD) : AM l D loc cy yX9_mustSign cX9_mustSign 2 (none) 2 59 [.ref (loc (7, 0, 0)), .int p1] h ((jX9_mustSign p1 h).map (fun r => (.inr (none), r))) := by
  refine am_start (y := yX9_mustSign) (av := [.ref (loc (7, 0, 0)), .int p1]) (nL := 2) (h := h) (RF := fun (r : Option HD) => r.map (fun r => (.inr (none), r))) (x := jX9_mustSign p1 h) hl0 (by decide +kernel) rfl ?_
  intro p e R s m below meth c A hC
  unfold jX9_mustSign
  refine aw_aload_n hC dX9_mustSign_0 rfl ?_
  refine aw_cVb hC dX9_mustSign_1 cv_RX9_167 rfl rm_7_0_0 (A_X9_isGood _ (hC.2.2.2.2.2.2.2.2.2.2.2.2.1) _ _ _ h) rfl rfl rfl rfl rfl ⟨rfl, rfl⟩ ?_
  refine aw_if_eq_b hC dX9_mustSign_4 (tgt := 20) (by decide) ?_ ?_
  · refine aw_aload_n hC dX9_mustSign_20 rfl ?_
    refine aw_cVb hC dX9_mustSign_21 cv_RX9_167 rfl rm_7_0_0 (A_X9_isGood _ (hC.2.2.2.2.2.2.2.2.2.2.2.2.1) _ _ _ h) rfl rfl rfl rfl rfl ⟨rfl, rfl⟩ ?_
    refine aw_if_eq_b hC dX9_mustSign_24 (tgt := 31) (by decide) ?_ ?_
    · exact aw_vret hC dX9_mustSign_31 rfl rfl
    · refine aw_aload_n hC dX9_mustSign_27 rfl ?_
      refine aw_bind rfl (fun q1 hq1 => ?_)
      refine aw_cVv hC dX9_mustSign_28 cv_RX9_177 rfl rm_7_0_0 (am_some (inj := (fun r => (.inr (none), r))) hq1 (A_X9_goOnRead _ (hC.2.2.2.2.2.2.2.2.2.2.2.2.1) _ _ _ h)) rfl rfl rfl rfl rfl ⟨rfl, rfl⟩ ?_
      exact aw_vret hC dX9_mustSign_31 rfl rfl
  · refine aw_aload_n hC dX9_mustSign_7 rfl ?_
    refine aw_iload_n hC dX9_mustSign_8 rfl ?_
    refine aw_cVb hC dX9_mustSign_9 cv_RX9_171 rfl rm_7_0_0 (A_X9_isSign _ (hC.2.2.2.2.2.2.2.2.2.2.2.2.1) _ _ _ p1 h) rfl rfl rfl rfl rfl ⟨rfl, rfl⟩ ?_
    refine aw_if_ne_b hC dX9_mustSign_12 (tgt := 20) (by decide) ?_ ?_
    · refine aw_aload_n hC dX9_mustSign_20 rfl ?_
      refine aw_cVb hC dX9_mustSign_21 cv_RX9_167 rfl rm_7_0_0 (A_X9_isGood _ (hC.2.2.2.2.2.2.2.2.2.2.2.2.1) _ _ _ h) rfl rfl rfl rfl rfl ⟨rfl, rfl⟩ ?_
      refine aw_if_eq_b hC dX9_mustSign_24 (tgt := 31) (by decide) ?_ ?_
      · exact aw_vret hC dX9_mustSign_31 rfl rfl
      · refine aw_aload_n hC dX9_mustSign_27 rfl ?_
        refine aw_bind rfl (fun q2 hq2 => ?_)
        refine aw_cVv hC dX9_mustSign_28 cv_RX9_177 rfl rm_7_0_0 (am_some (inj := (fun r => (.inr (none), r))) hq2 (A_X9_goOnRead _ (hC.2.2.2.2.2.2.2.2.2.2.2.2.1) _ _ _ h)) rfl rfl rfl rfl rfl ⟨rfl, rfl⟩ ?_
        exact aw_vret hC dX9_mustSign_31 rfl rfl
    · refine aw_aload_n hC dX9_mustSign_15 rfl ?_
      refine aw_iconst hC dX9_mustSign_16 (v := 1) (by decide) ?_
      refine aw_bind rfl (fun q3 hq3 => ?_)
      refine aw_cVv hC dX9_mustSign_17 cv_RX9_174 rfl rm_7_0_0 (am_some (inj := (fun r => (.inr (none), r))) hq3 (A_X9_wrong _ (hC.2.2.2.2.2.2.2.2.2.2.2.2.1) _ _ _ (1 : Int32) h)) rfl rfl rfl rfl rfl ⟨rfl, rfl⟩ ?_
      refine aw_aload_n hC dX9_mustSign_20 rfl ?_
      refine aw_cVb hC dX9_mustSign_21 cv_RX9_167 rfl rm_7_0_0 (A_X9_isGood _ (hC.2.2.2.2.2.2.2.2.2.2.2.2.1) _ _ _ q3) rfl rfl rfl rfl rfl ⟨rfl, rfl⟩ ?_
      refine aw_if_eq_b hC dX9_mustSign_24 (tgt := 31) (by decide) ?_ ?_
      · exact aw_vret hC dX9_mustSign_31 rfl rfl
      · refine aw_aload_n hC dX9_mustSign_27 rfl ?_
        refine aw_bind rfl (fun q4 hq4 => ?_)
        refine aw_cVv hC dX9_mustSign_28 cv_RX9_177 rfl rm_7_0_0 (am_some (inj := (fun r => (.inr (none), r))) hq4 (A_X9_goOnRead _ (hC.2.2.2.2.2.2.2.2.2.2.2.2.1) _ _ _ q3)) rfl rfl rfl rfl rfl ⟨rfl, rfl⟩ ?_
        exact aw_vret hC dX9_mustSign_31 rfl rfl
set_option maxHeartbeats 4000000 in
set_option maxRecDepth 100000 in
theorem A_X9_mustWord (l : Launch) (hl0 : l.stackTraces = false) (D : va_G) (loc : Rf → Nat) (cy : Nat → ClassId) (p1 : Int64) (h : HD) : AM l D loc cy yX9_mustWord cX9_mustWord 3 (none) 2 59 [.ref (loc (7, 0, 0)), .long p1] h ((jX9_mustWord p1 h).map (fun r => (.inr (none), r))) := by
  refine am_start (y := yX9_mustWord) (av := [.ref (loc (7, 0, 0)), .long p1]) (nL := 3) (h := h) (RF := fun (r : Option HD) => r.map (fun r => (.inr (none), r))) (x := jX9_mustWord p1 h) hl0 (by decide +kernel) rfl ?_
  intro p e R s m below meth c A hC
  unfold jX9_mustWord
  refine aw_aload_n hC dX9_mustWord_0 rfl ?_
  refine aw_cVb hC dX9_mustWord_1 cv_RX9_167 rfl rm_7_0_0 (A_X9_isGood _ (hC.2.2.2.2.2.2.2.2.2.2.2.2.1) _ _ _ h) rfl rfl rfl rfl rfl ⟨rfl, rfl⟩ ?_
  refine aw_if_eq_b hC dX9_mustWord_4 (tgt := 20) (by decide) ?_ ?_
  · refine aw_aload_n hC dX9_mustWord_20 rfl ?_
    refine aw_cVb hC dX9_mustWord_21 cv_RX9_167 rfl rm_7_0_0 (A_X9_isGood _ (hC.2.2.2.2.2.2.2.2.2.2.2.2.1) _ _ _ h) rfl rfl rfl rfl rfl ⟨rfl, rfl⟩ ?_
    refine aw_if_eq_b hC dX9_mustWord_24 (tgt := 31) (by decide) ?_ ?_
    · exact aw_vret hC dX9_mustWord_31 rfl rfl
    · refine aw_aload_n hC dX9_mustWord_27 rfl ?_
      refine aw_bind rfl (fun q1 hq1 => ?_)
      refine aw_cVv hC dX9_mustWord_28 cv_RX9_177 rfl rm_7_0_0 (am_some (inj := (fun r => (.inr (none), r))) hq1 (A_X9_goOnRead _ (hC.2.2.2.2.2.2.2.2.2.2.2.2.1) _ _ _ h)) rfl rfl rfl rfl rfl ⟨rfl, rfl⟩ ?_
      exact aw_vret hC dX9_mustWord_31 rfl rfl
  · refine aw_aload_n hC dX9_mustWord_7 rfl ?_
    refine aw_lload_n hC dX9_mustWord_8 rfl ?_
    refine aw_cVb hC dX9_mustWord_9 cv_RX9_180 rfl rm_7_0_0 (A_X9_isWord _ (hC.2.2.2.2.2.2.2.2.2.2.2.2.1) _ _ _ p1 h) rfl rfl rfl rfl rfl ⟨rfl, rfl⟩ ?_
    refine aw_if_ne_b hC dX9_mustWord_12 (tgt := 20) (by decide) ?_ ?_
    · refine aw_aload_n hC dX9_mustWord_20 rfl ?_
      refine aw_cVb hC dX9_mustWord_21 cv_RX9_167 rfl rm_7_0_0 (A_X9_isGood _ (hC.2.2.2.2.2.2.2.2.2.2.2.2.1) _ _ _ h) rfl rfl rfl rfl rfl ⟨rfl, rfl⟩ ?_
      refine aw_if_eq_b hC dX9_mustWord_24 (tgt := 31) (by decide) ?_ ?_
      · exact aw_vret hC dX9_mustWord_31 rfl rfl
      · refine aw_aload_n hC dX9_mustWord_27 rfl ?_
        refine aw_bind rfl (fun q2 hq2 => ?_)
        refine aw_cVv hC dX9_mustWord_28 cv_RX9_177 rfl rm_7_0_0 (am_some (inj := (fun r => (.inr (none), r))) hq2 (A_X9_goOnRead _ (hC.2.2.2.2.2.2.2.2.2.2.2.2.1) _ _ _ h)) rfl rfl rfl rfl rfl ⟨rfl, rfl⟩ ?_
        exact aw_vret hC dX9_mustWord_31 rfl rfl
    · refine aw_aload_n hC dX9_mustWord_15 rfl ?_
      refine aw_iconst hC dX9_mustWord_16 (v := 1) (by decide) ?_
      refine aw_bind rfl (fun q3 hq3 => ?_)
      refine aw_cVv hC dX9_mustWord_17 cv_RX9_174 rfl rm_7_0_0 (am_some (inj := (fun r => (.inr (none), r))) hq3 (A_X9_wrong _ (hC.2.2.2.2.2.2.2.2.2.2.2.2.1) _ _ _ (1 : Int32) h)) rfl rfl rfl rfl rfl ⟨rfl, rfl⟩ ?_
      refine aw_aload_n hC dX9_mustWord_20 rfl ?_
      refine aw_cVb hC dX9_mustWord_21 cv_RX9_167 rfl rm_7_0_0 (A_X9_isGood _ (hC.2.2.2.2.2.2.2.2.2.2.2.2.1) _ _ _ q3) rfl rfl rfl rfl rfl ⟨rfl, rfl⟩ ?_
      refine aw_if_eq_b hC dX9_mustWord_24 (tgt := 31) (by decide) ?_ ?_
      · exact aw_vret hC dX9_mustWord_31 rfl rfl
      · refine aw_aload_n hC dX9_mustWord_27 rfl ?_
        refine aw_bind rfl (fun q4 hq4 => ?_)
        refine aw_cVv hC dX9_mustWord_28 cv_RX9_177 rfl rm_7_0_0 (am_some (inj := (fun r => (.inr (none), r))) hq4 (A_X9_goOnRead _ (hC.2.2.2.2.2.2.2.2.2.2.2.2.1) _ _ _ q3)) rfl rfl rfl rfl rfl ⟨rfl, rfl⟩ ?_
        exact aw_vret hC dX9_mustWord_31 rfl rfl
set_option maxHeartbeats 4000000 in
set_option maxRecDepth 100000 in
theorem A_X9_looks (l : Launch) (hl0 : l.stackTraces = false) (D : va_G) (loc : Rf → Nat) (cy : Nat → ClassId) (p1 : Int32) (p2 : Int32) (h : HD) : AM l D loc cy yX9_looks cX9_looks 3 (some .int) 1 41 [.ref (loc (7, 0, 0)), .int p1, .int p2] h ((jX9_looks p1 p2 h).map (fun r => (.inr (some (.int r.1)), r.2))) := by
  refine am_start (y := yX9_looks) (av := [.ref (loc (7, 0, 0)), .int p1, .int p2]) (nL := 3) (h := h) (RF := fun (r : Option (Int32 × HD)) => r.map (fun r => (.inr (some (.int r.1)), r.2))) (x := jX9_looks p1 p2 h) hl0 (by decide +kernel) rfl ?_
  intro p e R s m below meth c A hC
  unfold jX9_looks
  refine aw_aload_n hC dX9_looks_0 rfl ?_
  refine aw_cVb hC dX9_looks_1 cv_RX9_167 rfl rm_7_0_0 (A_X9_isGood _ (hC.2.2.2.2.2.2.2.2.2.2.2.2.1) _ _ _ h) rfl rfl rfl rfl rfl ⟨rfl, rfl⟩ ?_
  refine aw_if_eq_b hC dX9_looks_4 (tgt := 20) (by decide) ?_ ?_
  · refine aw_aload_n hC dX9_looks_20 rfl ?_
    refine aw_cVb hC dX9_looks_21 cv_RX9_167 rfl rm_7_0_0 (A_X9_isGood _ (hC.2.2.2.2.2.2.2.2.2.2.2.2.1) _ _ _ h) rfl rfl rfl rfl rfl ⟨rfl, rfl⟩ ?_
    refine aw_if_eq_b hC dX9_looks_24 (tgt := 47) (by decide) ?_ ?_
    · refine aw_aload_n hC dX9_looks_47 rfl ?_
      refine aw_gfI hC dX9_looks_48 fg_RX9_151 rfl rm_7_0_0 ?_
      exact aw_iret hC dX9_looks_51 rfl rfl
    · refine aw_aload_n hC dX9_looks_27 rfl ?_
      refine aw_gfI hC dX9_looks_28 fg_RX9_151 rfl rm_7_0_0 ?_
      refine aw_i2l hC dX9_looks_31 ?_
      refine aw_iload_n hC dX9_looks_32 rfl ?_
      refine aw_i2l hC dX9_looks_33 ?_
      refine aw_iload_n hC dX9_looks_34 rfl ?_
      refine aw_i2l hC dX9_looks_35 ?_
      refine aw_cSb hC dX9_looks_36 cv_RX9_130 (A_X9_isIn _ (hC.2.2.2.2.2.2.2.2.2.2.2.2.1) _ _ _ ((gI h (7, 0, 0) 7).toInt64) p1.toInt64 p2.toInt64 h) rfl rfl rfl rfl rfl ⟨rfl, rfl⟩ ?_
      refine aw_if_ne_b hC dX9_looks_39 (tgt := 47) (by decide) ?_ ?_
      · refine aw_aload_n hC dX9_looks_47 rfl ?_
        refine aw_gfI hC dX9_looks_48 fg_RX9_151 rfl rm_7_0_0 ?_
        exact aw_iret hC dX9_looks_51 rfl rfl
      · refine aw_aload_n hC dX9_looks_42 rfl ?_
        refine aw_iconst hC dX9_looks_43 (v := 2) (by decide) ?_
        refine aw_bind rfl (fun q1 hq1 => ?_)
        refine aw_cVv hC dX9_looks_44 cv_RX9_174 rfl rm_7_0_0 (am_some (inj := (fun r => (.inr (none), r))) hq1 (A_X9_wrong _ (hC.2.2.2.2.2.2.2.2.2.2.2.2.1) _ _ _ (2 : Int32) h)) rfl rfl rfl rfl rfl ⟨rfl, rfl⟩ ?_
        refine aw_aload_n hC dX9_looks_47 rfl ?_
        refine aw_gfI hC dX9_looks_48 fg_RX9_151 rfl rm_7_0_0 ?_
        exact aw_iret hC dX9_looks_51 rfl rfl
  · refine aw_aload_n hC dX9_looks_7 rfl ?_
    refine aw_gfI hC dX9_looks_8 fg_RX9_154 rfl rm_7_0_0 ?_
    refine aw_iconst hC dX9_looks_11 (v := 2) (by decide) ?_
    refine aw_icmp_eq hC dX9_looks_12 (tgt := 20) (by decide) ?_ ?_
    · refine aw_aload_n hC dX9_looks_20 rfl ?_
      refine aw_cVb hC dX9_looks_21 cv_RX9_167 rfl rm_7_0_0 (A_X9_isGood _ (hC.2.2.2.2.2.2.2.2.2.2.2.2.1) _ _ _ h) rfl rfl rfl rfl rfl ⟨rfl, rfl⟩ ?_
      refine aw_if_eq_b hC dX9_looks_24 (tgt := 47) (by decide) ?_ ?_
      · refine aw_aload_n hC dX9_looks_47 rfl ?_
        refine aw_gfI hC dX9_looks_48 fg_RX9_151 rfl rm_7_0_0 ?_
        exact aw_iret hC dX9_looks_51 rfl rfl
      · refine aw_aload_n hC dX9_looks_27 rfl ?_
        refine aw_gfI hC dX9_looks_28 fg_RX9_151 rfl rm_7_0_0 ?_
        refine aw_i2l hC dX9_looks_31 ?_
        refine aw_iload_n hC dX9_looks_32 rfl ?_
        refine aw_i2l hC dX9_looks_33 ?_
        refine aw_iload_n hC dX9_looks_34 rfl ?_
        refine aw_i2l hC dX9_looks_35 ?_
        refine aw_cSb hC dX9_looks_36 cv_RX9_130 (A_X9_isIn _ (hC.2.2.2.2.2.2.2.2.2.2.2.2.1) _ _ _ ((gI h (7, 0, 0) 7).toInt64) p1.toInt64 p2.toInt64 h) rfl rfl rfl rfl rfl ⟨rfl, rfl⟩ ?_
        refine aw_if_ne_b hC dX9_looks_39 (tgt := 47) (by decide) ?_ ?_
        · refine aw_aload_n hC dX9_looks_47 rfl ?_
          refine aw_gfI hC dX9_looks_48 fg_RX9_151 rfl rm_7_0_0 ?_
          exact aw_iret hC dX9_looks_51 rfl rfl
        · refine aw_aload_n hC dX9_looks_42 rfl ?_
          refine aw_iconst hC dX9_looks_43 (v := 2) (by decide) ?_
          refine aw_bind rfl (fun q2 hq2 => ?_)
          refine aw_cVv hC dX9_looks_44 cv_RX9_174 rfl rm_7_0_0 (am_some (inj := (fun r => (.inr (none), r))) hq2 (A_X9_wrong _ (hC.2.2.2.2.2.2.2.2.2.2.2.2.1) _ _ _ (2 : Int32) h)) rfl rfl rfl rfl rfl ⟨rfl, rfl⟩ ?_
          refine aw_aload_n hC dX9_looks_47 rfl ?_
          refine aw_gfI hC dX9_looks_48 fg_RX9_151 rfl rm_7_0_0 ?_
          exact aw_iret hC dX9_looks_51 rfl rfl
    · refine aw_aload_n hC dX9_looks_15 rfl ?_
      refine aw_iconst hC dX9_looks_16 (v := 1) (by decide) ?_
      refine aw_bind rfl (fun q3 hq3 => ?_)
      refine aw_cVv hC dX9_looks_17 cv_RX9_174 rfl rm_7_0_0 (am_some (inj := (fun r => (.inr (none), r))) hq3 (A_X9_wrong _ (hC.2.2.2.2.2.2.2.2.2.2.2.2.1) _ _ _ (1 : Int32) h)) rfl rfl rfl rfl rfl ⟨rfl, rfl⟩ ?_
      refine aw_aload_n hC dX9_looks_20 rfl ?_
      refine aw_cVb hC dX9_looks_21 cv_RX9_167 rfl rm_7_0_0 (A_X9_isGood _ (hC.2.2.2.2.2.2.2.2.2.2.2.2.1) _ _ _ q3) rfl rfl rfl rfl rfl ⟨rfl, rfl⟩ ?_
      refine aw_if_eq_b hC dX9_looks_24 (tgt := 47) (by decide) ?_ ?_
      · refine aw_aload_n hC dX9_looks_47 rfl ?_
        refine aw_gfI hC dX9_looks_48 fg_RX9_151 rfl rm_7_0_0 ?_
        exact aw_iret hC dX9_looks_51 rfl rfl
      · refine aw_aload_n hC dX9_looks_27 rfl ?_
        refine aw_gfI hC dX9_looks_28 fg_RX9_151 rfl rm_7_0_0 ?_
        refine aw_i2l hC dX9_looks_31 ?_
        refine aw_iload_n hC dX9_looks_32 rfl ?_
        refine aw_i2l hC dX9_looks_33 ?_
        refine aw_iload_n hC dX9_looks_34 rfl ?_
        refine aw_i2l hC dX9_looks_35 ?_
        refine aw_cSb hC dX9_looks_36 cv_RX9_130 (A_X9_isIn _ (hC.2.2.2.2.2.2.2.2.2.2.2.2.1) _ _ _ ((gI q3 (7, 0, 0) 7).toInt64) p1.toInt64 p2.toInt64 q3) rfl rfl rfl rfl rfl ⟨rfl, rfl⟩ ?_
        refine aw_if_ne_b hC dX9_looks_39 (tgt := 47) (by decide) ?_ ?_
        · refine aw_aload_n hC dX9_looks_47 rfl ?_
          refine aw_gfI hC dX9_looks_48 fg_RX9_151 rfl rm_7_0_0 ?_
          exact aw_iret hC dX9_looks_51 rfl rfl
        · refine aw_aload_n hC dX9_looks_42 rfl ?_
          refine aw_iconst hC dX9_looks_43 (v := 2) (by decide) ?_
          refine aw_bind rfl (fun q4 hq4 => ?_)
          refine aw_cVv hC dX9_looks_44 cv_RX9_174 rfl rm_7_0_0 (am_some (inj := (fun r => (.inr (none), r))) hq4 (A_X9_wrong _ (hC.2.2.2.2.2.2.2.2.2.2.2.2.1) _ _ _ (2 : Int32) q3)) rfl rfl rfl rfl rfl ⟨rfl, rfl⟩ ?_
          refine aw_aload_n hC dX9_looks_47 rfl ?_
          refine aw_gfI hC dX9_looks_48 fg_RX9_151 rfl rm_7_0_0 ?_
          exact aw_iret hC dX9_looks_51 rfl rfl
set_option maxHeartbeats 4000000 in
set_option maxRecDepth 100000 in
theorem A_X9_number (l : Launch) (hl0 : l.stackTraces = false) (D : va_G) (loc : Rf → Nat) (cy : Nat → ClassId) (p1 : Int32) (p2 : Int32) (h : HD) : AM l D loc cy yX9_number cX9_number 4 (some .int) 2 63 [.ref (loc (7, 0, 0)), .int p1, .int p2] h ((jX9_number p1 p2 h).map (fun r => (.inr (some (.int r.1)), r.2))) := by
  refine am_start (y := yX9_number) (av := [.ref (loc (7, 0, 0)), .int p1, .int p2]) (nL := 4) (h := h) (RF := fun (r : Option (Int32 × HD)) => r.map (fun r => (.inr (some (.int r.1)), r.2))) (x := jX9_number p1 p2 h) hl0 (by decide +kernel) rfl ?_
  intro p e R s m below meth c A hC
  unfold jX9_number
  refine aw_aload_n hC dX9_number_0 rfl ?_
  refine aw_iload_n hC dX9_number_1 rfl ?_
  refine aw_iload_n hC dX9_number_2 rfl ?_
  refine aw_bind rfl (fun q1 hq1 => ?_)
  refine aw_cVi hC dX9_number_3 cv_RX9_184 rfl rm_7_0_0 (am_some (inj := (fun r => (.inr (some (.int r.1)), r.2))) hq1 (A_X9_looks _ (hC.2.2.2.2.2.2.2.2.2.2.2.2.1) _ _ _ p1 p2 h)) rfl rfl rfl rfl rfl ⟨rfl, rfl⟩ ?_
  refine aw_istore_n hC dX9_number_6 (by decide) ?_
  refine aw_aload_n hC dX9_number_7 rfl ?_
  refine aw_cVb hC dX9_number_8 cv_RX9_167 rfl rm_7_0_0 (A_X9_isGood _ (hC.2.2.2.2.2.2.2.2.2.2.2.2.1) _ _ _ q1.2) rfl rfl rfl rfl rfl ⟨rfl, rfl⟩ ?_
  refine aw_if_eq_b hC dX9_number_11 (tgt := 18) (by decide) ?_ ?_
  · refine aw_iload_n hC dX9_number_18 rfl ?_
    exact aw_iret hC dX9_number_19 rfl rfl
  · refine aw_aload_n hC dX9_number_14 rfl ?_
    refine aw_bind rfl (fun q2 hq2 => ?_)
    refine aw_cVv hC dX9_number_15 cv_RX9_177 rfl rm_7_0_0 (am_some (inj := (fun r => (.inr (none), r))) hq2 (A_X9_goOnRead _ (hC.2.2.2.2.2.2.2.2.2.2.2.2.1) _ _ _ q1.2)) rfl rfl rfl rfl rfl ⟨rfl, rfl⟩ ?_
    refine aw_iload_n hC dX9_number_18 rfl ?_
    exact aw_iret hC dX9_number_19 rfl rfl
set_option maxHeartbeats 4000000 in
set_option maxRecDepth 100000 in
theorem A_X9_beginsText (l : Launch) (hl0 : l.stackTraces = false) (D : va_G) (loc : Rf → Nat) (cy : Nat → ClassId)  (h : HD) : AM l D loc cy yX9_beginsText cX9_beginsText 1 (none) 2 59 [.ref (loc (7, 0, 0))] h ((jX9_beginsText h).map (fun r => (.inr (none), r))) := by
  refine am_start (y := yX9_beginsText) (av := [.ref (loc (7, 0, 0))]) (nL := 1) (h := h) (RF := fun (r : Option HD) => r.map (fun r => (.inr (none), r))) (x := jX9_beginsText h) hl0 (by decide +kernel) rfl ?_
  intro p e R s m below meth c A hC
  unfold jX9_beginsText
  refine aw_aload_n hC dX9_beginsText_0 rfl ?_
  refine aw_aload_n hC dX9_beginsText_1 rfl ?_
  refine aw_gfI hC dX9_beginsText_2 fg_RX9_119 rfl rm_7_0_0 ?_
  refine aw_pfI hC dX9_beginsText_5 fg_RX9_137 fp_7_3 rfl rm_7_0_0 (fun h1 => ?_)
  refine aw_aload_n hC dX9_beginsText_8 rfl ?_
  refine aw_iconst hC dX9_beginsText_9 (v := 0) (by decide) ?_
  refine aw_pfI hC dX9_beginsText_10 fg_RX9_119 fp_7_2 rfl rm_7_0_0 (fun h2 => ?_)
  refine aw_aload_n hC dX9_beginsText_13 rfl ?_
  refine aw_iconst hC dX9_beginsText_14 (v := 0) (by decide) ?_
  refine aw_pfI hC dX9_beginsText_15 fg_RX9_134 fp_7_4 rfl rm_7_0_0 (fun h3 => ?_)
  refine aw_aload_n hC dX9_beginsText_18 rfl ?_
  refine aw_iconst hC dX9_beginsText_19 (v := 0) (by decide) ?_
  refine aw_pfI hC dX9_beginsText_20 fg_RX9_164 fp_7_8 rfl rm_7_0_0 (fun h4 => ?_)
  refine aw_aload_n hC dX9_beginsText_23 rfl ?_
  refine aw_iconst hC dX9_beginsText_24 (v := -1) (by decide) ?_
  refine aw_pfI hC dX9_beginsText_25 fg_RX9_13 fp_7_9 rfl rm_7_0_0 (fun h5 => ?_)
  refine aw_aload_n hC dX9_beginsText_28 rfl ?_
  refine aw_bind rfl (fun q6 hq6 => ?_)
  refine aw_cVv hC dX9_beginsText_29 cv_RX9_177 rfl rm_7_0_0 (am_some (inj := (fun r => (.inr (none), r))) hq6 (A_X9_goOnRead _ (hC.2.2.2.2.2.2.2.2.2.2.2.2.1) _ _ _ h5)) rfl rfl rfl rfl rfl ⟨rfl, rfl⟩ ?_
  exact aw_vret hC dX9_beginsText_32 rfl rfl
set_option maxHeartbeats 4000000 in
set_option maxRecDepth 100000 in
theorem A_X9_endsText (l : Launch) (hl0 : l.stackTraces = false) (D : va_G) (loc : Rf → Nat) (cy : Nat → ClassId)  (h : HD) : AM l D loc cy yX9_endsText cX9_endsText 1 (some .boolean) 2 57 [.ref (loc (7, 0, 0))] h ((jX9_endsText h).map (fun r => (.inr (some (.int (b2i r.1))), r.2))) := by
  refine am_start (y := yX9_endsText) (av := [.ref (loc (7, 0, 0))]) (nL := 1) (h := h) (RF := fun (r : Option (Bool × HD)) => r.map (fun r => (.inr (some (.int (b2i r.1))), r.2))) (x := jX9_endsText h) hl0 (by decide +kernel) rfl ?_
  intro p e R s m below meth c A hC
  unfold jX9_endsText
  refine aw_aload_n hC dX9_endsText_0 rfl ?_
  refine aw_aload_n hC dX9_endsText_1 rfl ?_
  refine aw_gfI hC dX9_endsText_2 fg_RX9_164 rfl rm_7_0_0 ?_
  refine aw_pfI hC dX9_endsText_5 fg_RX9_188 fp_7_10 rfl rm_7_0_0 (fun h1 => ?_)
  refine aw_aload_n hC dX9_endsText_8 rfl ?_
  refine aw_aload_n hC dX9_endsText_9 rfl ?_
  refine aw_gfI hC dX9_endsText_10 fg_RX9_13 rfl rm_7_0_0 ?_
  refine aw_pfI hC dX9_endsText_13 fg_RX9_17 fp_7_11 rfl rm_7_0_0 (fun h2 => ?_)
  refine aw_aload_n hC dX9_endsText_16 rfl ?_
  refine aw_aload_n hC dX9_endsText_17 rfl ?_
  refine aw_gfI hC dX9_endsText_18 fg_RX9_164 rfl rm_7_0_0 ?_
  refine aw_if_ne hC dX9_endsText_21 (tgt := 28) (by decide) ?_ ?_
  · refine aw_iconst hC dX9_endsText_28 (v := 0) (by decide) ?_
    refine aw_bind rfl (fun q3 hq3 => ?_)
    refine aw_cVb hC dX9_endsText_29 cv_RX9_122 rfl rm_7_0_0 (am_some (inj := (fun r => (.inr (some (.int (b2i r.1))), r.2))) hq3 (A_X9_goes _ (hC.2.2.2.2.2.2.2.2.2.2.2.2.1) _ _ _ false h2)) rfl rfl rfl rfl rfl ⟨rfl, rfl⟩ ?_
    exact aw_zret hC dX9_endsText_32 rfl (show _ = b2i q3.1 from rfl) rfl
  · refine aw_iconst hC dX9_endsText_24 (v := 1) (by decide) ?_
    refine aw_goto hC dX9_endsText_25 (tgt := 29) (by decide) ?_
    refine aw_bind rfl (fun q4 hq4 => ?_)
    refine aw_cVb hC dX9_endsText_29 cv_RX9_122 rfl rm_7_0_0 (am_some (inj := (fun r => (.inr (some (.int (b2i r.1))), r.2))) hq4 (A_X9_goes _ (hC.2.2.2.2.2.2.2.2.2.2.2.2.1) _ _ _ true h2)) rfl rfl rfl rfl rfl ⟨rfl, rfl⟩ ?_
    exact aw_zret hC dX9_endsText_32 rfl (show _ = b2i q4.1 from rfl) rfl
set_option maxHeartbeats 4000000 in
set_option maxRecDepth 100000 in
theorem A_X9_errorCode (l : Launch) (hl0 : l.stackTraces = false) (D : va_G) (loc : Rf → Nat) (cy : Nat → ClassId)  (h : HD) : AM l D loc cy yX9_errorCode cX9_errorCode 1 (some .int) 0 16 [.ref (loc (7, 0, 0))] h ((jX9_errorCode h).map (fun r => (.inr (some (.int r.1)), r.2))) := by
  refine am_start (y := yX9_errorCode) (av := [.ref (loc (7, 0, 0))]) (nL := 1) (h := h) (RF := fun (r : Option (Int32 × HD)) => r.map (fun r => (.inr (some (.int r.1)), r.2))) (x := jX9_errorCode h) hl0 (by decide +kernel) rfl ?_
  intro p e R s m below meth c A hC
  unfold jX9_errorCode
  refine aw_aload_n hC dX9_errorCode_0 rfl ?_
  refine aw_iconst hC dX9_errorCode_1 (v := 0) (by decide) ?_
  refine aw_pfI hC dX9_errorCode_2 fg_RX9_112 fp_7_0 rfl rm_7_0_0 (fun h1 => ?_)
  refine aw_aload_n hC dX9_errorCode_5 rfl ?_
  refine aw_gfI hC dX9_errorCode_6 fg_RX9_188 rfl rm_7_0_0 ?_
  exact aw_iret hC dX9_errorCode_9 rfl rfl
set_option maxHeartbeats 4000000 in
set_option maxRecDepth 100000 in
theorem A_X9_errorPosition (l : Launch) (hl0 : l.stackTraces = false) (D : va_G) (loc : Rf → Nat) (cy : Nat → ClassId)  (h : HD) : AM l D loc cy yX9_errorPosition cX9_errorPosition 1 (some .int) 0 16 [.ref (loc (7, 0, 0))] h ((jX9_errorPosition h).map (fun r => (.inr (some (.int r.1)), r.2))) := by
  refine am_start (y := yX9_errorPosition) (av := [.ref (loc (7, 0, 0))]) (nL := 1) (h := h) (RF := fun (r : Option (Int32 × HD)) => r.map (fun r => (.inr (some (.int r.1)), r.2))) (x := jX9_errorPosition h) hl0 (by decide +kernel) rfl ?_
  intro p e R s m below meth c A hC
  unfold jX9_errorPosition
  refine aw_aload_n hC dX9_errorPosition_0 rfl ?_
  refine aw_iconst hC dX9_errorPosition_1 (v := 0) (by decide) ?_
  refine aw_pfI hC dX9_errorPosition_2 fg_RX9_112 fp_7_0 rfl rm_7_0_0 (fun h1 => ?_)
  refine aw_aload_n hC dX9_errorPosition_5 rfl ?_
  refine aw_gfI hC dX9_errorPosition_6 fg_RX9_17 rfl rm_7_0_0 ?_
  exact aw_iret hC dX9_errorPosition_9 rfl rfl
set_option maxHeartbeats 4000000 in
set_option maxRecDepth 100000 in
theorem L_X9_copiesRow_3 (r1 : Rf) (hr1 : r1 ∈ refs) (hpr1 : Nat.beq r1.2.2 0 = false) (hqr1 : (arrT r1).1 = 1) (p2 : Int32) (r3 : Rf) (hr3 : r3 ∈ refs) (hpr3 : Nat.beq r3.2.2 0 = false) (hqr3 : (arrT r3).1 = 1) (p4 : Int32) (hC : Cx p l e R s m args meth c D loc cy A cX9_copiesRow 5 (none) RX9 0 16 0 0)  : ∀ (n3 : Nat) (x4 : Int32) (h : HD), AW p l e R s m args below meth c D loc cy A 5 (QM below D loc cy A args s) (fun (r : Option HD) => r.map (fun r => (.inr (none), r))) (0, 0) 3 [(0, .ref (loc r1)), (1, .int p2), (2, .ref (loc r3)), (3, .int p4), (4, .int x4)] [] h (jX9_copiesRow_L3 r1 p2 r3 p4 n3 x4 h) := by
  intro n3
  induction n3 with
  | zero => intro x4 h; exact aw_none rfl
  | succ n3 ih3 =>
    intro x4 h
    rw [jX9_copiesRow_L3]
    refine aw_iload hC dX9_copiesRow_3 rfl ?_
    refine aw_bipush hC dX9_copiesRow_5 (v := 13) (by decide) ?_
    refine aw_icmp_ge hC dX9_copiesRow_7 (tgt := 28) (by decide) ?_ ?_
    · exact aw_vret hC dX9_copiesRow_28 rfl rfl
    · refine aw_aload_n hC dX9_copiesRow_10 rfl ?_
      refine aw_iload_n hC dX9_copiesRow_11 rfl ?_
      refine aw_iload hC dX9_copiesRow_12 rfl ?_
      refine aw_iadd hC dX9_copiesRow_14 ?_
      refine aw_aload_n hC dX9_copiesRow_15 rfl ?_
      refine aw_iload_n hC dX9_copiesRow_16 rfl ?_
      refine aw_iload hC dX9_copiesRow_17 rfl ?_
      refine aw_iadd hC dX9_copiesRow_19 ?_
      refine aw_guard rfl (fun g1 => ?_)
      refine aw_iald hC dX9_copiesRow_20 hr1 hpr1 (at_of hqr1) g1 rfl ?_
      refine aw_guard rfl (fun g3 => ?_)
      refine aw_iast hC dX9_copiesRow_21 hr3 hpr3 (at_of hqr3) g3 rfl (fun h2 => ?_)
      refine aw_iinc hC dX9_copiesRow_22 rfl (v := x4 + 1) (by first | rfl | decide) (by decide) ?_
      refine aw_goto hC dX9_copiesRow_25 (tgt := 3) (by decide) ?_
      refine aw_sub [0, 1, 2, 3, 4] ?_
      exact ih3 (x4 + 1) h2
set_option maxHeartbeats 4000000 in
set_option maxRecDepth 100000 in
theorem A_X9_copiesRow (l : Launch) (hl0 : l.stackTraces = false) (D : va_G) (loc : Rf → Nat) (cy : Nat → ClassId) (r1 : Rf) (hr1 : r1 ∈ refs) (hpr1 : Nat.beq r1.2.2 0 = false) (hqr1 : (arrT r1).1 = 1) (p2 : Int32) (r3 : Rf) (hr3 : r3 ∈ refs) (hpr3 : Nat.beq r3.2.2 0 = false) (hqr3 : (arrT r3).1 = 1) (p4 : Int32) (h : HD) : AM l D loc cy yX9_copiesRow cX9_copiesRow 5 (none) 0 16 [.ref (loc r1), .int p2, .ref (loc r3), .int p4] h ((jX9_copiesRow r1 p2 r3 p4 h).map (fun r => (.inr (none), r))) := by
  refine am_start (y := yX9_copiesRow) (av := [.ref (loc r1), .int p2, .ref (loc r3), .int p4]) (nL := 5) (h := h) (RF := fun (r : Option HD) => r.map (fun r => (.inr (none), r))) (x := jX9_copiesRow r1 p2 r3 p4 h) hl0 (by decide +kernel) rfl ?_
  intro p e R s m below meth c A hC
  unfold jX9_copiesRow
  refine aw_iconst hC dX9_copiesRow_0 (v := 0) (by decide) ?_
  refine aw_istore hC dX9_copiesRow_1 (by decide) ?_
  refine aw_sub [0, 1, 2, 3, 4] ?_
  exact L_X9_copiesRow_3 r1 hr1 hpr1 hqr1 p2 r3 hr3 hpr3 hqr3 p4  hC FU (0 : Int32) h
set_option maxHeartbeats 4000000 in
set_option maxRecDepth 100000 in
theorem L_X9_copiesNames_3 (r1 : Rf) (hr1 : r1 ∈ refs) (hpr1 : Nat.beq r1.2.2 0 = false) (hqr1 : (arrT r1).1 = 2) (p2 : Int32) (r3 : Rf) (hr3 : r3 ∈ refs) (hpr3 : Nat.beq r3.2.2 0 = false) (hqr3 : (arrT r3).1 = 2) (p4 : Int32) (hC : Cx p l e R s m args meth c D loc cy A cX9_copiesNames 5 (none) RX9 0 16 0 0)  : ∀ (n3 : Nat) (x4 : Int32) (h : HD), AW p l e R s m args below meth c D loc cy A 5 (QM below D loc cy A args s) (fun (r : Option HD) => r.map (fun r => (.inr (none), r))) (0, 0) 3 [(0, .ref (loc r1)), (1, .int p2), (2, .ref (loc r3)), (3, .int p4), (4, .int x4)] [] h (jX9_copiesNames_L3 r1 p2 r3 p4 n3 x4 h) := by
  intro n3
  induction n3 with
  | zero => intro x4 h; exact aw_none rfl
  | succ n3 ih3 =>
    intro x4 h
    rw [jX9_copiesNames_L3]
    refine aw_iload hC dX9_copiesNames_3 rfl ?_
    refine aw_bipush hC dX9_copiesNames_5 (v := 11) (by decide) ?_
    refine aw_icmp_ge hC dX9_copiesNames_7 (tgt := 28) (by decide) ?_ ?_
    · exact aw_vret hC dX9_copiesNames_28 rfl rfl
    · refine aw_aload_n hC dX9_copiesNames_10 rfl ?_
      refine aw_iload_n hC dX9_copiesNames_11 rfl ?_
      refine aw_iload hC dX9_copiesNames_12 rfl ?_
      refine aw_iadd hC dX9_copiesNames_14 ?_
      refine aw_aload_n hC dX9_copiesNames_15 rfl ?_
      refine aw_iload_n hC dX9_copiesNames_16 rfl ?_
      refine aw_iload hC dX9_copiesNames_17 rfl ?_
      refine aw_iadd hC dX9_copiesNames_19 ?_
      refine aw_guard rfl (fun g1 => ?_)
      refine aw_lald hC dX9_copiesNames_20 hr1 hpr1 (at_of hqr1) g1 rfl ?_
      refine aw_guard rfl (fun g3 => ?_)
      refine aw_last hC dX9_copiesNames_21 hr3 hpr3 (at_of hqr3) g3 rfl (fun h2 => ?_)
      refine aw_iinc hC dX9_copiesNames_22 rfl (v := x4 + 1) (by first | rfl | decide) (by decide) ?_
      refine aw_goto hC dX9_copiesNames_25 (tgt := 3) (by decide) ?_
      refine aw_sub [0, 1, 2, 3, 4] ?_
      exact ih3 (x4 + 1) h2
set_option maxHeartbeats 4000000 in
set_option maxRecDepth 100000 in
theorem A_X9_copiesNames (l : Launch) (hl0 : l.stackTraces = false) (D : va_G) (loc : Rf → Nat) (cy : Nat → ClassId) (r1 : Rf) (hr1 : r1 ∈ refs) (hpr1 : Nat.beq r1.2.2 0 = false) (hqr1 : (arrT r1).1 = 2) (p2 : Int32) (r3 : Rf) (hr3 : r3 ∈ refs) (hpr3 : Nat.beq r3.2.2 0 = false) (hqr3 : (arrT r3).1 = 2) (p4 : Int32) (h : HD) : AM l D loc cy yX9_copiesNames cX9_copiesNames 5 (none) 0 16 [.ref (loc r1), .int p2, .ref (loc r3), .int p4] h ((jX9_copiesNames r1 p2 r3 p4 h).map (fun r => (.inr (none), r))) := by
  refine am_start (y := yX9_copiesNames) (av := [.ref (loc r1), .int p2, .ref (loc r3), .int p4]) (nL := 5) (h := h) (RF := fun (r : Option HD) => r.map (fun r => (.inr (none), r))) (x := jX9_copiesNames r1 p2 r3 p4 h) hl0 (by decide +kernel) rfl ?_
  intro p e R s m below meth c A hC
  unfold jX9_copiesNames
  refine aw_iconst hC dX9_copiesNames_0 (v := 0) (by decide) ?_
  refine aw_istore hC dX9_copiesNames_1 (by decide) ?_
  refine aw_sub [0, 1, 2, 3, 4] ?_
  exact L_X9_copiesNames_3 r1 hr1 hpr1 hqr1 p2 r3 hr3 hpr3 hqr3 p4  hC FU (0 : Int32) h
set_option maxHeartbeats 4000000 in
set_option maxRecDepth 100000 in
theorem L_X9_clears_2  (hC : Cx p l e R s m args meth c D loc cy A cX9_clears 2 (none) RX9 0 16 0 0)  : ∀ (n2 : Nat) (x1 : Int32) (h : HD), AW p l e R s m args below meth c D loc cy A 2 (QM below D loc cy A args s) (fun (r : Option HD) => r.map (fun r => (.inr (none), r))) (0, 0) 2 [(0, .ref (loc (7, 0, 0))), (1, .int x1)] [] h (jX9_clears_L2 n2 x1 h) := by
  intro n2
  induction n2 with
  | zero => intro x1 h; exact aw_none rfl
  | succ n2 ih2 =>
    intro x1 h
    rw [jX9_clears_L2]
    refine aw_iload_n hC dX9_clears_2 rfl ?_
    refine aw_bipush hC dX9_clears_3 (v := 13) (by decide) ?_
    refine aw_icmp_ge hC dX9_clears_5 (tgt := 21) (by decide) ?_ ?_
    · exact aw_vret hC dX9_clears_21 rfl rfl
    · refine aw_aload_n hC dX9_clears_8 rfl ?_
      refine aw_gfR hC dX9_clears_9 fg_RX9_20 rfl rfl rm_7_0_0 ?_
      refine aw_iload_n hC dX9_clears_12 rfl ?_
      refine aw_iconst hC dX9_clears_13 (v := 0) (by decide) ?_
      refine aw_guard rfl (fun g2 => ?_)
      refine aw_iast hC dX9_clears_14 rm_7_0_2 rfl rfl g2 rfl (fun h1 => ?_)
      refine aw_iinc hC dX9_clears_15 rfl (v := x1 + 1) (by first | rfl | decide) (by decide) ?_
      refine aw_goto hC dX9_clears_18 (tgt := 2) (by decide) ?_
      refine aw_sub [0, 1] ?_
      exact ih2 (x1 + 1) h1
set_option maxHeartbeats 4000000 in
set_option maxRecDepth 100000 in
theorem A_X9_clears (l : Launch) (hl0 : l.stackTraces = false) (D : va_G) (loc : Rf → Nat) (cy : Nat → ClassId)  (h : HD) : AM l D loc cy yX9_clears cX9_clears 2 (none) 0 16 [.ref (loc (7, 0, 0))] h ((jX9_clears h).map (fun r => (.inr (none), r))) := by
  refine am_start (y := yX9_clears) (av := [.ref (loc (7, 0, 0))]) (nL := 2) (h := h) (RF := fun (r : Option HD) => r.map (fun r => (.inr (none), r))) (x := jX9_clears h) hl0 (by decide +kernel) rfl ?_
  intro p e R s m below meth c A hC
  unfold jX9_clears
  refine aw_iconst hC dX9_clears_0 (v := 0) (by decide) ?_
  refine aw_istore_n hC dX9_clears_1 (by decide) ?_
  refine aw_sub [0, 1] ?_
  exact L_X9_clears_2   hC FU (0 : Int32) h
set_option maxHeartbeats 4000000 in
set_option maxRecDepth 100000 in
theorem A_X9_laysAside (l : Launch) (hl0 : l.stackTraces = false) (D : va_G) (loc : Rf → Nat) (cy : Nat → ClassId)  (h : HD) : AM l D loc cy yX9_laysAside cX9_laysAside 1 (none) 1 40 [.ref (loc (7, 0, 0))] h ((jX9_laysAside h).map (fun r => (.inr (none), r))) := by
  refine am_start (y := yX9_laysAside) (av := [.ref (loc (7, 0, 0))]) (nL := 1) (h := h) (RF := fun (r : Option HD) => r.map (fun r => (.inr (none), r))) (x := jX9_laysAside h) hl0 (by decide +kernel) rfl ?_
  intro p e R s m below meth c A hC
  unfold jX9_laysAside
  refine aw_aload_n hC dX9_laysAside_0 rfl ?_
  refine aw_gfR hC dX9_laysAside_1 fg_RX9_20 rfl rfl rm_7_0_0 ?_
  refine aw_iconst hC dX9_laysAside_4 (v := 0) (by decide) ?_
  refine aw_aload_n hC dX9_laysAside_5 rfl ?_
  refine aw_gfR hC dX9_laysAside_6 fg_RX9_26 rfl rfl rm_7_0_0 ?_
  refine aw_iconst hC dX9_laysAside_9 (v := 0) (by decide) ?_
  refine aw_bind rfl (fun q1 hq1 => ?_)
  refine aw_cSv hC dX9_laysAside_10 cv_RX9_191 (am_some (inj := (fun r => (.inr (none), r))) hq1 (A_X9_copiesRow _ (hC.2.2.2.2.2.2.2.2.2.2.2.2.1) _ _ _ (7, 0, 2) rm_7_0_2 rfl rfl (0 : Int32) (7, 0, 4) rm_7_0_4 rfl rfl (0 : Int32) h)) rfl rfl rfl rfl rfl ⟨rfl, rfl⟩ ?_
  refine aw_aload_n hC dX9_laysAside_13 rfl ?_
  refine aw_gfR hC dX9_laysAside_14 fg_RX9_35 rfl rfl rm_7_0_0 ?_
  refine aw_iconst hC dX9_laysAside_17 (v := 0) (by decide) ?_
  refine aw_aload_n hC dX9_laysAside_18 rfl ?_
  refine aw_gfR hC dX9_laysAside_19 fg_RX9_42 rfl rfl rm_7_0_0 ?_
  refine aw_iconst hC dX9_laysAside_22 (v := 0) (by decide) ?_
  refine aw_bind rfl (fun q2 hq2 => ?_)
  refine aw_cSv hC dX9_laysAside_23 cv_RX9_195 (am_some (inj := (fun r => (.inr (none), r))) hq2 (A_X9_copiesNames _ (hC.2.2.2.2.2.2.2.2.2.2.2.2.1) _ _ _ (7, 0, 7) rm_7_0_7 rfl rfl (0 : Int32) (7, 0, 9) rm_7_0_9 rfl rfl (0 : Int32) q1)) rfl rfl rfl rfl rfl ⟨rfl, rfl⟩ ?_
  exact aw_vret hC dX9_laysAside_26 rfl rfl
set_option maxHeartbeats 4000000 in
set_option maxRecDepth 100000 in
theorem A_X9_goesBack (l : Launch) (hl0 : l.stackTraces = false) (D : va_G) (loc : Rf → Nat) (cy : Nat → ClassId)  (h : HD) : AM l D loc cy yX9_goesBack cX9_goesBack 1 (none) 1 40 [.ref (loc (7, 0, 0))] h ((jX9_goesBack h).map (fun r => (.inr (none), r))) := by
  refine am_start (y := yX9_goesBack) (av := [.ref (loc (7, 0, 0))]) (nL := 1) (h := h) (RF := fun (r : Option HD) => r.map (fun r => (.inr (none), r))) (x := jX9_goesBack h) hl0 (by decide +kernel) rfl ?_
  intro p e R s m below meth c A hC
  unfold jX9_goesBack
  refine aw_aload_n hC dX9_goesBack_0 rfl ?_
  refine aw_gfR hC dX9_goesBack_1 fg_RX9_26 rfl rfl rm_7_0_0 ?_
  refine aw_iconst hC dX9_goesBack_4 (v := 0) (by decide) ?_
  refine aw_aload_n hC dX9_goesBack_5 rfl ?_
  refine aw_gfR hC dX9_goesBack_6 fg_RX9_20 rfl rfl rm_7_0_0 ?_
  refine aw_iconst hC dX9_goesBack_9 (v := 0) (by decide) ?_
  refine aw_bind rfl (fun q1 hq1 => ?_)
  refine aw_cSv hC dX9_goesBack_10 cv_RX9_191 (am_some (inj := (fun r => (.inr (none), r))) hq1 (A_X9_copiesRow _ (hC.2.2.2.2.2.2.2.2.2.2.2.2.1) _ _ _ (7, 0, 4) rm_7_0_4 rfl rfl (0 : Int32) (7, 0, 2) rm_7_0_2 rfl rfl (0 : Int32) h)) rfl rfl rfl rfl rfl ⟨rfl, rfl⟩ ?_
  refine aw_aload_n hC dX9_goesBack_13 rfl ?_
  refine aw_gfR hC dX9_goesBack_14 fg_RX9_42 rfl rfl rm_7_0_0 ?_
  refine aw_iconst hC dX9_goesBack_17 (v := 0) (by decide) ?_
  refine aw_aload_n hC dX9_goesBack_18 rfl ?_
  refine aw_gfR hC dX9_goesBack_19 fg_RX9_35 rfl rfl rm_7_0_0 ?_
  refine aw_iconst hC dX9_goesBack_22 (v := 0) (by decide) ?_
  refine aw_bind rfl (fun q2 hq2 => ?_)
  refine aw_cSv hC dX9_goesBack_23 cv_RX9_195 (am_some (inj := (fun r => (.inr (none), r))) hq2 (A_X9_copiesNames _ (hC.2.2.2.2.2.2.2.2.2.2.2.2.1) _ _ _ (7, 0, 9) rm_7_0_9 rfl rfl (0 : Int32) (7, 0, 7) rm_7_0_7 rfl rfl (0 : Int32) q1)) rfl rfl rfl rfl rfl ⟨rfl, rfl⟩ ?_
  exact aw_vret hC dX9_goesBack_26 rfl rfl
set_option maxHeartbeats 4000000 in
set_option maxRecDepth 100000 in
theorem L_X9_keeps_21 (k53 : HD → Option HD) (hC : Cx p l e R s m args meth c D loc cy A cX9_keeps 2 (none) RX9 1 40 0 0) (hk53 : ∀  (h2 : HD), AW p l e R s m args below meth c D loc cy A 2 (QM below D loc cy A args s) (fun (r : Option HD) => r.map (fun r => (.inr (none), r))) (0, 0) 53 [(0, .ref (loc (7, 0, 0)))] [] h2 (k53  h2)) : ∀ (n21 : Nat) (x1 : Int32) (h : HD), AW p l e R s m args below meth c D loc cy A 2 (QM below D loc cy A args s) (fun (r : Option HD) => r.map (fun r => (.inr (none), r))) (0, 0) 21 [(0, .ref (loc (7, 0, 0))), (1, .int x1)] [] h (jX9_keeps_L21 k53 n21 x1 h) := by
  intro n21
  induction n21 with
  | zero => intro x1 h; exact aw_none rfl
  | succ n21 ih21 =>
    intro x1 h
    rw [jX9_keeps_L21]
    refine aw_iload_n hC dX9_keeps_21 rfl ?_
    refine aw_bipush hC dX9_keeps_22 (v := 13) (by decide) ?_
    refine aw_aload_n hC dX9_keeps_24 rfl ?_
    refine aw_gfI hC dX9_keeps_25 fg_RX9_199 rfl rm_7_0_0 ?_
    refine aw_imul hC dX9_keeps_28 ?_
    refine aw_icmp_ge hC dX9_keeps_29 (tgt := 53) (by decide) ?_ ?_
    · refine aw_sub [0] ?_
      exact hk53 h
    · refine aw_aload_n hC dX9_keeps_32 rfl ?_
      refine aw_gfR hC dX9_keeps_33 fg_RX9_32 rfl rfl rm_7_0_0 ?_
      refine aw_iload_n hC dX9_keeps_36 rfl ?_
      refine aw_aload_n hC dX9_keeps_37 rfl ?_
      refine aw_gfR hC dX9_keeps_38 fg_RX9_32 rfl rfl rm_7_0_0 ?_
      refine aw_iload_n hC dX9_keeps_41 rfl ?_
      refine aw_bipush hC dX9_keeps_42 (v := 13) (by decide) ?_
      refine aw_iadd hC dX9_keeps_44 ?_
      refine aw_guard rfl (fun g5 => ?_)
      refine aw_iald hC dX9_keeps_45 rm_7_0_6 rfl rfl g5 rfl ?_
      refine aw_guard rfl (fun g7 => ?_)
      refine aw_iast hC dX9_keeps_46 rm_7_0_6 rfl rfl g7 rfl (fun h6 => ?_)
      refine aw_iinc hC dX9_keeps_47 rfl (v := x1 + 1) (by first | rfl | decide) (by decide) ?_
      refine aw_goto hC dX9_keeps_50 (tgt := 21) (by decide) ?_
      refine aw_sub [0, 1] ?_
      exact ih21 (x1 + 1) h6
set_option maxHeartbeats 4000000 in
set_option maxRecDepth 100000 in
theorem L_X9_keeps_55 (k87 : HD → Option HD) (hC : Cx p l e R s m args meth c D loc cy A cX9_keeps 2 (none) RX9 1 40 0 0) (hk87 : ∀  (h2 : HD), AW p l e R s m args below meth c D loc cy A 2 (QM below D loc cy A args s) (fun (r : Option HD) => r.map (fun r => (.inr (none), r))) (0, 0) 87 [(0, .ref (loc (7, 0, 0)))] [] h2 (k87  h2)) : ∀ (n55 : Nat) (x1 : Int32) (h : HD), AW p l e R s m args below meth c D loc cy A 2 (QM below D loc cy A args s) (fun (r : Option HD) => r.map (fun r => (.inr (none), r))) (0, 0) 55 [(0, .ref (loc (7, 0, 0))), (1, .int x1)] [] h (jX9_keeps_L55 k87 n55 x1 h) := by
  intro n55
  induction n55 with
  | zero => intro x1 h; exact aw_none rfl
  | succ n55 ih55 =>
    intro x1 h
    rw [jX9_keeps_L55]
    refine aw_iload_n hC dX9_keeps_55 rfl ?_
    refine aw_bipush hC dX9_keeps_56 (v := 11) (by decide) ?_
    refine aw_aload_n hC dX9_keeps_58 rfl ?_
    refine aw_gfI hC dX9_keeps_59 fg_RX9_199 rfl rm_7_0_0 ?_
    refine aw_imul hC dX9_keeps_62 ?_
    refine aw_icmp_ge hC dX9_keeps_63 (tgt := 87) (by decide) ?_ ?_
    · refine aw_sub [0] ?_
      exact hk87 h
    · refine aw_aload_n hC dX9_keeps_66 rfl ?_
      refine aw_gfR hC dX9_keeps_67 fg_RX9_48 rfl rfl rm_7_0_0 ?_
      refine aw_iload_n hC dX9_keeps_70 rfl ?_
      refine aw_aload_n hC dX9_keeps_71 rfl ?_
      refine aw_gfR hC dX9_keeps_72 fg_RX9_48 rfl rfl rm_7_0_0 ?_
      refine aw_iload_n hC dX9_keeps_75 rfl ?_
      refine aw_bipush hC dX9_keeps_76 (v := 11) (by decide) ?_
      refine aw_iadd hC dX9_keeps_78 ?_
      refine aw_guard rfl (fun g9 => ?_)
      refine aw_lald hC dX9_keeps_79 rm_7_0_11 rfl rfl g9 rfl ?_
      refine aw_guard rfl (fun g11 => ?_)
      refine aw_last hC dX9_keeps_80 rm_7_0_11 rfl rfl g11 rfl (fun h10 => ?_)
      refine aw_iinc hC dX9_keeps_81 rfl (v := x1 + 1) (by first | rfl | decide) (by decide) ?_
      refine aw_goto hC dX9_keeps_84 (tgt := 55) (by decide) ?_
      refine aw_sub [0, 1] ?_
      exact ih55 (x1 + 1) h10
set_option maxHeartbeats 4000000 in
set_option maxRecDepth 100000 in
theorem A_X9_keeps (l : Launch) (hl0 : l.stackTraces = false) (D : va_G) (loc : Rf → Nat) (cy : Nat → ClassId)  (h : HD) : AM l D loc cy yX9_keeps cX9_keeps 2 (none) 1 40 [.ref (loc (7, 0, 0))] h ((jX9_keeps h).map (fun r => (.inr (none), r))) := by
  refine am_start (y := yX9_keeps) (av := [.ref (loc (7, 0, 0))]) (nL := 2) (h := h) (RF := fun (r : Option HD) => r.map (fun r => (.inr (none), r))) (x := jX9_keeps h) hl0 (by decide +kernel) rfl ?_
  intro p e R s m below meth c A hC
  unfold jX9_keeps
  refine aw_aload_n hC dX9_keeps_0 rfl ?_
  refine aw_gfI hC dX9_keeps_1 fg_RX9_199 rfl rm_7_0_0 ?_
  refine aw_bipush hC dX9_keeps_4 (v := 6) (by decide) ?_
  refine aw_icmp_ne hC dX9_keeps_6 (tgt := 87) (by decide) ?_ ?_
  · refine aw_aload_n hC dX9_keeps_87 rfl ?_
    refine aw_gfR hC dX9_keeps_88 fg_RX9_26 rfl rfl rm_7_0_0 ?_
    refine aw_iconst hC dX9_keeps_91 (v := 0) (by decide) ?_
    refine aw_aload_n hC dX9_keeps_92 rfl ?_
    refine aw_gfR hC dX9_keeps_93 fg_RX9_32 rfl rfl rm_7_0_0 ?_
    refine aw_bipush hC dX9_keeps_96 (v := 13) (by decide) ?_
    refine aw_aload_n hC dX9_keeps_98 rfl ?_
    refine aw_gfI hC dX9_keeps_99 fg_RX9_199 rfl rm_7_0_0 ?_
    refine aw_imul hC dX9_keeps_102 ?_
    refine aw_bind rfl (fun q1 hq1 => ?_)
    refine aw_cSv hC dX9_keeps_103 cv_RX9_191 (am_some (inj := (fun r => (.inr (none), r))) hq1 (A_X9_copiesRow _ (hC.2.2.2.2.2.2.2.2.2.2.2.2.1) _ _ _ (7, 0, 4) rm_7_0_4 rfl rfl (0 : Int32) (7, 0, 6) rm_7_0_6 rfl rfl ((13 : Int32) * (gI h (7, 0, 0) 23)) h)) rfl rfl rfl rfl rfl ⟨rfl, rfl⟩ ?_
    refine aw_aload_n hC dX9_keeps_106 rfl ?_
    refine aw_gfR hC dX9_keeps_107 fg_RX9_42 rfl rfl rm_7_0_0 ?_
    refine aw_iconst hC dX9_keeps_110 (v := 0) (by decide) ?_
    refine aw_aload_n hC dX9_keeps_111 rfl ?_
    refine aw_gfR hC dX9_keeps_112 fg_RX9_48 rfl rfl rm_7_0_0 ?_
    refine aw_bipush hC dX9_keeps_115 (v := 11) (by decide) ?_
    refine aw_aload_n hC dX9_keeps_117 rfl ?_
    refine aw_gfI hC dX9_keeps_118 fg_RX9_199 rfl rm_7_0_0 ?_
    refine aw_imul hC dX9_keeps_121 ?_
    refine aw_bind rfl (fun q2 hq2 => ?_)
    refine aw_cSv hC dX9_keeps_122 cv_RX9_195 (am_some (inj := (fun r => (.inr (none), r))) hq2 (A_X9_copiesNames _ (hC.2.2.2.2.2.2.2.2.2.2.2.2.1) _ _ _ (7, 0, 9) rm_7_0_9 rfl rfl (0 : Int32) (7, 0, 11) rm_7_0_11 rfl rfl ((11 : Int32) * (gI q1 (7, 0, 0) 23)) q1)) rfl rfl rfl rfl rfl ⟨rfl, rfl⟩ ?_
    refine aw_aload_n hC dX9_keeps_125 rfl ?_
    refine aw_dup hC dX9_keeps_126 rfl ?_
    refine aw_gfI hC dX9_keeps_127 fg_RX9_199 rfl rm_7_0_0 ?_
    refine aw_iconst hC dX9_keeps_130 (v := 1) (by decide) ?_
    refine aw_iadd hC dX9_keeps_131 ?_
    refine aw_pfI hC dX9_keeps_132 fg_RX9_199 fp_7_23 rfl rm_7_0_0 (fun h3 => ?_)
    exact aw_vret hC dX9_keeps_135 rfl rfl
  · refine aw_aload_n hC dX9_keeps_9 rfl ?_
    refine aw_dup hC dX9_keeps_10 rfl ?_
    refine aw_gfI hC dX9_keeps_11 fg_RX9_199 rfl rm_7_0_0 ?_
    refine aw_iconst hC dX9_keeps_14 (v := 1) (by decide) ?_
    refine aw_isub hC dX9_keeps_15 ?_
    refine aw_pfI hC dX9_keeps_16 fg_RX9_199 fp_7_23 rfl rm_7_0_0 (fun h4 => ?_)
    refine aw_iconst hC dX9_keeps_19 (v := 0) (by decide) ?_
    refine aw_istore_n hC dX9_keeps_20 (by decide) ?_
    refine aw_sub [0, 1] ?_
    refine L_X9_keeps_21  _ hC ?_ FU (0 : Int32) h4
    · intro h8
      refine aw_iconst hC dX9_keeps_53 (v := 0) (by decide) ?_
      refine aw_istore_n hC dX9_keeps_54 (by decide) ?_
      refine aw_sub [0, 1] ?_
      refine L_X9_keeps_55  _ hC ?_ FU (0 : Int32) h8
      · intro h12
        refine aw_aload_n hC dX9_keeps_87 rfl ?_
        refine aw_gfR hC dX9_keeps_88 fg_RX9_26 rfl rfl rm_7_0_0 ?_
        refine aw_iconst hC dX9_keeps_91 (v := 0) (by decide) ?_
        refine aw_aload_n hC dX9_keeps_92 rfl ?_
        refine aw_gfR hC dX9_keeps_93 fg_RX9_32 rfl rfl rm_7_0_0 ?_
        refine aw_bipush hC dX9_keeps_96 (v := 13) (by decide) ?_
        refine aw_aload_n hC dX9_keeps_98 rfl ?_
        refine aw_gfI hC dX9_keeps_99 fg_RX9_199 rfl rm_7_0_0 ?_
        refine aw_imul hC dX9_keeps_102 ?_
        refine aw_bind rfl (fun q13 hq13 => ?_)
        refine aw_cSv hC dX9_keeps_103 cv_RX9_191 (am_some (inj := (fun r => (.inr (none), r))) hq13 (A_X9_copiesRow _ (hC.2.2.2.2.2.2.2.2.2.2.2.2.1) _ _ _ (7, 0, 4) rm_7_0_4 rfl rfl (0 : Int32) (7, 0, 6) rm_7_0_6 rfl rfl ((13 : Int32) * (gI h12 (7, 0, 0) 23)) h12)) rfl rfl rfl rfl rfl ⟨rfl, rfl⟩ ?_
        refine aw_aload_n hC dX9_keeps_106 rfl ?_
        refine aw_gfR hC dX9_keeps_107 fg_RX9_42 rfl rfl rm_7_0_0 ?_
        refine aw_iconst hC dX9_keeps_110 (v := 0) (by decide) ?_
        refine aw_aload_n hC dX9_keeps_111 rfl ?_
        refine aw_gfR hC dX9_keeps_112 fg_RX9_48 rfl rfl rm_7_0_0 ?_
        refine aw_bipush hC dX9_keeps_115 (v := 11) (by decide) ?_
        refine aw_aload_n hC dX9_keeps_117 rfl ?_
        refine aw_gfI hC dX9_keeps_118 fg_RX9_199 rfl rm_7_0_0 ?_
        refine aw_imul hC dX9_keeps_121 ?_
        refine aw_bind rfl (fun q14 hq14 => ?_)
        refine aw_cSv hC dX9_keeps_122 cv_RX9_195 (am_some (inj := (fun r => (.inr (none), r))) hq14 (A_X9_copiesNames _ (hC.2.2.2.2.2.2.2.2.2.2.2.2.1) _ _ _ (7, 0, 9) rm_7_0_9 rfl rfl (0 : Int32) (7, 0, 11) rm_7_0_11 rfl rfl ((11 : Int32) * (gI q13 (7, 0, 0) 23)) q13)) rfl rfl rfl rfl rfl ⟨rfl, rfl⟩ ?_
        refine aw_aload_n hC dX9_keeps_125 rfl ?_
        refine aw_dup hC dX9_keeps_126 rfl ?_
        refine aw_gfI hC dX9_keeps_127 fg_RX9_199 rfl rm_7_0_0 ?_
        refine aw_iconst hC dX9_keeps_130 (v := 1) (by decide) ?_
        refine aw_iadd hC dX9_keeps_131 ?_
        refine aw_pfI hC dX9_keeps_132 fg_RX9_199 fp_7_23 rfl rm_7_0_0 (fun h15 => ?_)
        exact aw_vret hC dX9_keeps_135 rfl rfl
set_option maxHeartbeats 4000000 in
set_option maxRecDepth 100000 in
theorem A_X9_kept (l : Launch) (hl0 : l.stackTraces = false) (D : va_G) (loc : Rf → Nat) (cy : Nat → ClassId) (p1 : Int32) (h : HD) : AM l D loc cy yX9_kept cX9_kept 2 (some .int) 2 61 [.ref (loc (7, 0, 0)), .int p1] h ((jX9_kept p1 h).map (fun r => (.inr (some (.int r.1)), r.2))) := by
  refine am_start (y := yX9_kept) (av := [.ref (loc (7, 0, 0)), .int p1]) (nL := 2) (h := h) (RF := fun (r : Option (Int32 × HD)) => r.map (fun r => (.inr (some (.int r.1)), r.2))) (x := jX9_kept p1 h) hl0 (by decide +kernel) rfl ?_
  intro p e R s m below meth c A hC
  unfold jX9_kept
  refine aw_aload_n hC dX9_kept_0 rfl ?_
  refine aw_bind rfl (fun q1 hq1 => ?_)
  refine aw_cVv hC dX9_kept_1 cv_RX9_202 rfl rm_7_0_0 (am_some (inj := (fun r => (.inr (none), r))) hq1 (A_X9_keeps _ (hC.2.2.2.2.2.2.2.2.2.2.2.2.1) _ _ _ h)) rfl rfl rfl rfl rfl ⟨rfl, rfl⟩ ?_
  refine aw_iload_n hC dX9_kept_4 rfl ?_
  exact aw_iret hC dX9_kept_5 rfl rfl
set_option maxHeartbeats 4000000 in
set_option maxRecDepth 100000 in
theorem A_X9_undo (l : Launch) (hl0 : l.stackTraces = false) (D : va_G) (loc : Rf → Nat) (cy : Nat → ClassId)  (h : HD) : AM l D loc cy yX9_undo cX9_undo 1 (some .int) 1 40 [.ref (loc (7, 0, 0))] h ((jX9_undo h).map (fun r => (.inr (some (.int r.1)), r.2))) := by
  refine am_start (y := yX9_undo) (av := [.ref (loc (7, 0, 0))]) (nL := 1) (h := h) (RF := fun (r : Option (Int32 × HD)) => r.map (fun r => (.inr (some (.int r.1)), r.2))) (x := jX9_undo h) hl0 (by decide +kernel) rfl ?_
  intro p e R s m below meth c A hC
  unfold jX9_undo
  refine aw_aload_n hC dX9_undo_0 rfl ?_
  refine aw_iconst hC dX9_undo_1 (v := 0) (by decide) ?_
  refine aw_pfI hC dX9_undo_2 fg_RX9_112 fp_7_0 rfl rm_7_0_0 (fun h1 => ?_)
  refine aw_aload_n hC dX9_undo_5 rfl ?_
  refine aw_gfI hC dX9_undo_6 fg_RX9_199 rfl rm_7_0_0 ?_
  refine aw_if_ne hC dX9_undo_9 (tgt := 14) (by decide) ?_ ?_
  · refine aw_aload_n hC dX9_undo_14 rfl ?_
    refine aw_dup hC dX9_undo_15 rfl ?_
    refine aw_gfI hC dX9_undo_16 fg_RX9_199 rfl rm_7_0_0 ?_
    refine aw_iconst hC dX9_undo_19 (v := 1) (by decide) ?_
    refine aw_isub hC dX9_undo_20 ?_
    refine aw_pfI hC dX9_undo_21 fg_RX9_199 fp_7_23 rfl rm_7_0_0 (fun h2 => ?_)
    refine aw_aload_n hC dX9_undo_24 rfl ?_
    refine aw_gfR hC dX9_undo_25 fg_RX9_32 rfl rfl rm_7_0_0 ?_
    refine aw_bipush hC dX9_undo_28 (v := 13) (by decide) ?_
    refine aw_aload_n hC dX9_undo_30 rfl ?_
    refine aw_gfI hC dX9_undo_31 fg_RX9_199 rfl rm_7_0_0 ?_
    refine aw_imul hC dX9_undo_34 ?_
    refine aw_aload_n hC dX9_undo_35 rfl ?_
    refine aw_gfR hC dX9_undo_36 fg_RX9_20 rfl rfl rm_7_0_0 ?_
    refine aw_iconst hC dX9_undo_39 (v := 0) (by decide) ?_
    refine aw_bind rfl (fun q3 hq3 => ?_)
    refine aw_cSv hC dX9_undo_40 cv_RX9_191 (am_some (inj := (fun r => (.inr (none), r))) hq3 (A_X9_copiesRow _ (hC.2.2.2.2.2.2.2.2.2.2.2.2.1) _ _ _ (7, 0, 6) rm_7_0_6 rfl rfl ((13 : Int32) * (gI h2 (7, 0, 0) 23)) (7, 0, 2) rm_7_0_2 rfl rfl (0 : Int32) h2)) rfl rfl rfl rfl rfl ⟨rfl, rfl⟩ ?_
    refine aw_aload_n hC dX9_undo_43 rfl ?_
    refine aw_gfR hC dX9_undo_44 fg_RX9_48 rfl rfl rm_7_0_0 ?_
    refine aw_bipush hC dX9_undo_47 (v := 11) (by decide) ?_
    refine aw_aload_n hC dX9_undo_49 rfl ?_
    refine aw_gfI hC dX9_undo_50 fg_RX9_199 rfl rm_7_0_0 ?_
    refine aw_imul hC dX9_undo_53 ?_
    refine aw_aload_n hC dX9_undo_54 rfl ?_
    refine aw_gfR hC dX9_undo_55 fg_RX9_35 rfl rfl rm_7_0_0 ?_
    refine aw_iconst hC dX9_undo_58 (v := 0) (by decide) ?_
    refine aw_bind rfl (fun q4 hq4 => ?_)
    refine aw_cSv hC dX9_undo_59 cv_RX9_195 (am_some (inj := (fun r => (.inr (none), r))) hq4 (A_X9_copiesNames _ (hC.2.2.2.2.2.2.2.2.2.2.2.2.1) _ _ _ (7, 0, 11) rm_7_0_11 rfl rfl ((11 : Int32) * (gI q3 (7, 0, 0) 23)) (7, 0, 7) rm_7_0_7 rfl rfl (0 : Int32) q3)) rfl rfl rfl rfl rfl ⟨rfl, rfl⟩ ?_
    refine aw_aload_n hC dX9_undo_62 rfl ?_
    refine aw_gfR hC dX9_undo_63 fg_RX9_51 rfl rfl rm_7_0_0 ?_
    refine aw_iconst hC dX9_undo_66 (v := 4) (by decide) ?_
    refine aw_dup2 hC dX9_undo_67 rfl rfl ?_
    refine aw_iald hC dX9_undo_68 rm_7_0_12 rfl rfl (by decide) (k := 4) (by decide) ?_
    refine aw_iconst hC dX9_undo_69 (v := 1) (by decide) ?_
    refine aw_iadd hC dX9_undo_70 ?_
    refine aw_iast hC dX9_undo_71 rm_7_0_12 rfl rfl (by decide) (k := 4) (by decide) (fun h5 => ?_)
    refine aw_aload_n hC dX9_undo_72 rfl ?_
    refine aw_gfI hC dX9_undo_73 fg_RX9_199 rfl rm_7_0_0 ?_
    exact aw_iret hC dX9_undo_76 rfl rfl
  · refine aw_iconst hC dX9_undo_12 (v := -1) (by decide) ?_
    exact aw_iret hC dX9_undo_13 rfl rfl
set_option maxHeartbeats 4000000 in
set_option maxRecDepth 100000 in
theorem A_X9_save (l : Launch) (hl0 : l.stackTraces = false) (D : va_G) (loc : Rf → Nat) (cy : Nat → ClassId)  (h : HD) : AM l D loc cy yX9_save cX9_save 1 (some .int) 1 40 [.ref (loc (7, 0, 0))] h ((jX9_save h).map (fun r => (.inr (some (.int r.1)), r.2))) := by
  refine am_start (y := yX9_save) (av := [.ref (loc (7, 0, 0))]) (nL := 1) (h := h) (RF := fun (r : Option (Int32 × HD)) => r.map (fun r => (.inr (some (.int r.1)), r.2))) (x := jX9_save h) hl0 (by decide +kernel) rfl ?_
  intro p e R s m below meth c A hC
  unfold jX9_save
  refine aw_aload_n hC dX9_save_0 rfl ?_
  refine aw_iconst hC dX9_save_1 (v := 0) (by decide) ?_
  refine aw_pfI hC dX9_save_2 fg_RX9_112 fp_7_0 rfl rm_7_0_0 (fun h1 => ?_)
  refine aw_aload_n hC dX9_save_5 rfl ?_
  refine aw_gfR hC dX9_save_6 fg_RX9_20 rfl rfl rm_7_0_0 ?_
  refine aw_iconst hC dX9_save_9 (v := 0) (by decide) ?_
  refine aw_aload_n hC dX9_save_10 rfl ?_
  refine aw_gfR hC dX9_save_11 fg_RX9_23 rfl rfl rm_7_0_0 ?_
  refine aw_iconst hC dX9_save_14 (v := 0) (by decide) ?_
  refine aw_bind rfl (fun q2 hq2 => ?_)
  refine aw_cSv hC dX9_save_15 cv_RX9_191 (am_some (inj := (fun r => (.inr (none), r))) hq2 (A_X9_copiesRow _ (hC.2.2.2.2.2.2.2.2.2.2.2.2.1) _ _ _ (7, 0, 2) rm_7_0_2 rfl rfl (0 : Int32) (7, 0, 3) rm_7_0_3 rfl rfl (0 : Int32) h1)) rfl rfl rfl rfl rfl ⟨rfl, rfl⟩ ?_
  refine aw_aload_n hC dX9_save_18 rfl ?_
  refine aw_gfR hC dX9_save_19 fg_RX9_35 rfl rfl rm_7_0_0 ?_
  refine aw_iconst hC dX9_save_22 (v := 0) (by decide) ?_
  refine aw_aload_n hC dX9_save_23 rfl ?_
  refine aw_gfR hC dX9_save_24 fg_RX9_39 rfl rfl rm_7_0_0 ?_
  refine aw_iconst hC dX9_save_27 (v := 0) (by decide) ?_
  refine aw_bind rfl (fun q3 hq3 => ?_)
  refine aw_cSv hC dX9_save_28 cv_RX9_195 (am_some (inj := (fun r => (.inr (none), r))) hq3 (A_X9_copiesNames _ (hC.2.2.2.2.2.2.2.2.2.2.2.2.1) _ _ _ (7, 0, 7) rm_7_0_7 rfl rfl (0 : Int32) (7, 0, 8) rm_7_0_8 rfl rfl (0 : Int32) q2)) rfl rfl rfl rfl rfl ⟨rfl, rfl⟩ ?_
  refine aw_aload_n hC dX9_save_31 rfl ?_
  refine aw_iconst hC dX9_save_32 (v := 1) (by decide) ?_
  refine aw_pfZ hC dX9_save_33 fg_RX9_205 fp_7_24 rfl rm_7_0_0 (show _ = b2i true from rfl) (fun h4 => ?_)
  refine aw_aload_n hC dX9_save_36 rfl ?_
  refine aw_gfR hC dX9_save_37 fg_RX9_20 rfl rfl rm_7_0_0 ?_
  refine aw_iconst hC dX9_save_40 (v := 0) (by decide) ?_
  refine aw_iald hC dX9_save_41 rm_7_0_2 rfl rfl (by decide) (k := 0) (by decide) ?_
  exact aw_iret hC dX9_save_42 rfl rfl
set_option maxHeartbeats 4000000 in
set_option maxRecDepth 100000 in
theorem A_X9_restore (l : Launch) (hl0 : l.stackTraces = false) (D : va_G) (loc : Rf → Nat) (cy : Nat → ClassId)  (h : HD) : AM l D loc cy yX9_restore cX9_restore 1 (some .int) 2 57 [.ref (loc (7, 0, 0))] h ((jX9_restore h).map (fun r => (.inr (some (.int r.1)), r.2))) := by
  refine am_start (y := yX9_restore) (av := [.ref (loc (7, 0, 0))]) (nL := 1) (h := h) (RF := fun (r : Option (Int32 × HD)) => r.map (fun r => (.inr (some (.int r.1)), r.2))) (x := jX9_restore h) hl0 (by decide +kernel) rfl ?_
  intro p e R s m below meth c A hC
  unfold jX9_restore
  refine aw_aload_n hC dX9_restore_0 rfl ?_
  refine aw_aload_n hC dX9_restore_1 rfl ?_
  refine aw_gfI hC dX9_restore_2 fg_RX9_205 rfl rm_7_0_0 ?_
  refine aw_ite (fun z9 => ?_) (fun _ => aw_ite (fun z9 => ?_) (fun _ => aw_none rfl))
  · rw [z9]
    refine aw_bind rfl (fun q1 hq1 => ?_)
    refine aw_cVb hC dX9_restore_5 cv_RX9_122 rfl rm_7_0_0 (am_some (inj := (fun r => (.inr (some (.int (b2i r.1))), r.2))) hq1 (A_X9_goes _ (hC.2.2.2.2.2.2.2.2.2.2.2.2.1) _ _ _ false h)) rfl rfl rfl rfl rfl ⟨rfl, rfl⟩ ?_
    refine aw_if_ne_b hC dX9_restore_8 (tgt := 13) (by decide) ?_ ?_
    · refine aw_aload_n hC dX9_restore_13 rfl ?_
      refine aw_gfR hC dX9_restore_14 fg_RX9_23 rfl rfl rm_7_0_0 ?_
      refine aw_iconst hC dX9_restore_17 (v := 0) (by decide) ?_
      refine aw_aload_n hC dX9_restore_18 rfl ?_
      refine aw_gfR hC dX9_restore_19 fg_RX9_20 rfl rfl rm_7_0_0 ?_
      refine aw_iconst hC dX9_restore_22 (v := 0) (by decide) ?_
      refine aw_bind rfl (fun q2 hq2 => ?_)
      refine aw_cSv hC dX9_restore_23 cv_RX9_191 (am_some (inj := (fun r => (.inr (none), r))) hq2 (A_X9_copiesRow _ (hC.2.2.2.2.2.2.2.2.2.2.2.2.1) _ _ _ (7, 0, 3) rm_7_0_3 rfl rfl (0 : Int32) (7, 0, 2) rm_7_0_2 rfl rfl (0 : Int32) q1.2)) rfl rfl rfl rfl rfl ⟨rfl, rfl⟩ ?_
      refine aw_aload_n hC dX9_restore_26 rfl ?_
      refine aw_gfR hC dX9_restore_27 fg_RX9_39 rfl rfl rm_7_0_0 ?_
      refine aw_iconst hC dX9_restore_30 (v := 0) (by decide) ?_
      refine aw_aload_n hC dX9_restore_31 rfl ?_
      refine aw_gfR hC dX9_restore_32 fg_RX9_35 rfl rfl rm_7_0_0 ?_
      refine aw_iconst hC dX9_restore_35 (v := 0) (by decide) ?_
      refine aw_bind rfl (fun q3 hq3 => ?_)
      refine aw_cSv hC dX9_restore_36 cv_RX9_195 (am_some (inj := (fun r => (.inr (none), r))) hq3 (A_X9_copiesNames _ (hC.2.2.2.2.2.2.2.2.2.2.2.2.1) _ _ _ (7, 0, 8) rm_7_0_8 rfl rfl (0 : Int32) (7, 0, 7) rm_7_0_7 rfl rfl (0 : Int32) q2)) rfl rfl rfl rfl rfl ⟨rfl, rfl⟩ ?_
      refine aw_aload_n hC dX9_restore_39 rfl ?_
      refine aw_iconst hC dX9_restore_40 (v := 0) (by decide) ?_
      refine aw_pfI hC dX9_restore_41 fg_RX9_199 fp_7_23 rfl rm_7_0_0 (fun h4 => ?_)
      refine aw_aload_n hC dX9_restore_44 rfl ?_
      refine aw_gfR hC dX9_restore_45 fg_RX9_20 rfl rfl rm_7_0_0 ?_
      refine aw_iconst hC dX9_restore_48 (v := 0) (by decide) ?_
      refine aw_iald hC dX9_restore_49 rm_7_0_2 rfl rfl (by decide) (k := 0) (by decide) ?_
      exact aw_iret hC dX9_restore_50 rfl rfl
    · refine aw_iconst hC dX9_restore_11 (v := 0) (by decide) ?_
      exact aw_iret hC dX9_restore_12 rfl rfl
  · rw [z9]
    refine aw_bind rfl (fun q5 hq5 => ?_)
    refine aw_cVb hC dX9_restore_5 cv_RX9_122 rfl rm_7_0_0 (am_some (inj := (fun r => (.inr (some (.int (b2i r.1))), r.2))) hq5 (A_X9_goes _ (hC.2.2.2.2.2.2.2.2.2.2.2.2.1) _ _ _ true h)) rfl rfl rfl rfl rfl ⟨rfl, rfl⟩ ?_
    refine aw_if_ne_b hC dX9_restore_8 (tgt := 13) (by decide) ?_ ?_
    · refine aw_aload_n hC dX9_restore_13 rfl ?_
      refine aw_gfR hC dX9_restore_14 fg_RX9_23 rfl rfl rm_7_0_0 ?_
      refine aw_iconst hC dX9_restore_17 (v := 0) (by decide) ?_
      refine aw_aload_n hC dX9_restore_18 rfl ?_
      refine aw_gfR hC dX9_restore_19 fg_RX9_20 rfl rfl rm_7_0_0 ?_
      refine aw_iconst hC dX9_restore_22 (v := 0) (by decide) ?_
      refine aw_bind rfl (fun q6 hq6 => ?_)
      refine aw_cSv hC dX9_restore_23 cv_RX9_191 (am_some (inj := (fun r => (.inr (none), r))) hq6 (A_X9_copiesRow _ (hC.2.2.2.2.2.2.2.2.2.2.2.2.1) _ _ _ (7, 0, 3) rm_7_0_3 rfl rfl (0 : Int32) (7, 0, 2) rm_7_0_2 rfl rfl (0 : Int32) q5.2)) rfl rfl rfl rfl rfl ⟨rfl, rfl⟩ ?_
      refine aw_aload_n hC dX9_restore_26 rfl ?_
      refine aw_gfR hC dX9_restore_27 fg_RX9_39 rfl rfl rm_7_0_0 ?_
      refine aw_iconst hC dX9_restore_30 (v := 0) (by decide) ?_
      refine aw_aload_n hC dX9_restore_31 rfl ?_
      refine aw_gfR hC dX9_restore_32 fg_RX9_35 rfl rfl rm_7_0_0 ?_
      refine aw_iconst hC dX9_restore_35 (v := 0) (by decide) ?_
      refine aw_bind rfl (fun q7 hq7 => ?_)
      refine aw_cSv hC dX9_restore_36 cv_RX9_195 (am_some (inj := (fun r => (.inr (none), r))) hq7 (A_X9_copiesNames _ (hC.2.2.2.2.2.2.2.2.2.2.2.2.1) _ _ _ (7, 0, 8) rm_7_0_8 rfl rfl (0 : Int32) (7, 0, 7) rm_7_0_7 rfl rfl (0 : Int32) q6)) rfl rfl rfl rfl rfl ⟨rfl, rfl⟩ ?_
      refine aw_aload_n hC dX9_restore_39 rfl ?_
      refine aw_iconst hC dX9_restore_40 (v := 0) (by decide) ?_
      refine aw_pfI hC dX9_restore_41 fg_RX9_199 fp_7_23 rfl rm_7_0_0 (fun h8 => ?_)
      refine aw_aload_n hC dX9_restore_44 rfl ?_
      refine aw_gfR hC dX9_restore_45 fg_RX9_20 rfl rfl rm_7_0_0 ?_
      refine aw_iconst hC dX9_restore_48 (v := 0) (by decide) ?_
      refine aw_iald hC dX9_restore_49 rm_7_0_2 rfl rfl (by decide) (k := 0) (by decide) ?_
      exact aw_iret hC dX9_restore_50 rfl rfl
    · refine aw_iconst hC dX9_restore_11 (v := 0) (by decide) ?_
      exact aw_iret hC dX9_restore_12 rfl rfl
set_option maxHeartbeats 4000000 in
set_option maxRecDepth 100000 in
theorem A_X9_laysAway (l : Launch) (hl0 : l.stackTraces = false) (D : va_G) (loc : Rf → Nat) (cy : Nat → ClassId)  (h : HD) : AM l D loc cy yX9_laysAway cX9_laysAway 1 (none) 1 40 [.ref (loc (7, 0, 0))] h ((jX9_laysAway h).map (fun r => (.inr (none), r))) := by
  refine am_start (y := yX9_laysAway) (av := [.ref (loc (7, 0, 0))]) (nL := 1) (h := h) (RF := fun (r : Option HD) => r.map (fun r => (.inr (none), r))) (x := jX9_laysAway h) hl0 (by decide +kernel) rfl ?_
  intro p e R s m below meth c A hC
  unfold jX9_laysAway
  refine aw_aload_n hC dX9_laysAway_0 rfl ?_
  refine aw_gfR hC dX9_laysAway_1 fg_RX9_20 rfl rfl rm_7_0_0 ?_
  refine aw_iconst hC dX9_laysAway_4 (v := 0) (by decide) ?_
  refine aw_aload_n hC dX9_laysAway_5 rfl ?_
  refine aw_gfR hC dX9_laysAway_6 fg_RX9_29 rfl rfl rm_7_0_0 ?_
  refine aw_iconst hC dX9_laysAway_9 (v := 0) (by decide) ?_
  refine aw_bind rfl (fun q1 hq1 => ?_)
  refine aw_cSv hC dX9_laysAway_10 cv_RX9_191 (am_some (inj := (fun r => (.inr (none), r))) hq1 (A_X9_copiesRow _ (hC.2.2.2.2.2.2.2.2.2.2.2.2.1) _ _ _ (7, 0, 2) rm_7_0_2 rfl rfl (0 : Int32) (7, 0, 5) rm_7_0_5 rfl rfl (0 : Int32) h)) rfl rfl rfl rfl rfl ⟨rfl, rfl⟩ ?_
  refine aw_aload_n hC dX9_laysAway_13 rfl ?_
  refine aw_gfR hC dX9_laysAway_14 fg_RX9_35 rfl rfl rm_7_0_0 ?_
  refine aw_iconst hC dX9_laysAway_17 (v := 0) (by decide) ?_
  refine aw_aload_n hC dX9_laysAway_18 rfl ?_
  refine aw_gfR hC dX9_laysAway_19 fg_RX9_45 rfl rfl rm_7_0_0 ?_
  refine aw_iconst hC dX9_laysAway_22 (v := 0) (by decide) ?_
  refine aw_bind rfl (fun q2 hq2 => ?_)
  refine aw_cSv hC dX9_laysAway_23 cv_RX9_195 (am_some (inj := (fun r => (.inr (none), r))) hq2 (A_X9_copiesNames _ (hC.2.2.2.2.2.2.2.2.2.2.2.2.1) _ _ _ (7, 0, 7) rm_7_0_7 rfl rfl (0 : Int32) (7, 0, 10) rm_7_0_10 rfl rfl (0 : Int32) q1)) rfl rfl rfl rfl rfl ⟨rfl, rfl⟩ ?_
  exact aw_vret hC dX9_laysAway_26 rfl rfl
set_option maxHeartbeats 4000000 in
set_option maxRecDepth 100000 in
theorem A_X9_fromAway (l : Launch) (hl0 : l.stackTraces = false) (D : va_G) (loc : Rf → Nat) (cy : Nat → ClassId) (p1 : Int32) (h : HD) : AM l D loc cy yX9_fromAway cX9_fromAway 2 (some .int) 1 40 [.ref (loc (7, 0, 0)), .int p1] h ((jX9_fromAway p1 h).map (fun r => (.inr (some (.int r.1)), r.2))) := by
  refine am_start (y := yX9_fromAway) (av := [.ref (loc (7, 0, 0)), .int p1]) (nL := 2) (h := h) (RF := fun (r : Option (Int32 × HD)) => r.map (fun r => (.inr (some (.int r.1)), r.2))) (x := jX9_fromAway p1 h) hl0 (by decide +kernel) rfl ?_
  intro p e R s m below meth c A hC
  unfold jX9_fromAway
  refine aw_aload_n hC dX9_fromAway_0 rfl ?_
  refine aw_gfR hC dX9_fromAway_1 fg_RX9_29 rfl rfl rm_7_0_0 ?_
  refine aw_iconst hC dX9_fromAway_4 (v := 0) (by decide) ?_
  refine aw_aload_n hC dX9_fromAway_5 rfl ?_
  refine aw_gfR hC dX9_fromAway_6 fg_RX9_20 rfl rfl rm_7_0_0 ?_
  refine aw_iconst hC dX9_fromAway_9 (v := 0) (by decide) ?_
  refine aw_bind rfl (fun q1 hq1 => ?_)
  refine aw_cSv hC dX9_fromAway_10 cv_RX9_191 (am_some (inj := (fun r => (.inr (none), r))) hq1 (A_X9_copiesRow _ (hC.2.2.2.2.2.2.2.2.2.2.2.2.1) _ _ _ (7, 0, 5) rm_7_0_5 rfl rfl (0 : Int32) (7, 0, 2) rm_7_0_2 rfl rfl (0 : Int32) h)) rfl rfl rfl rfl rfl ⟨rfl, rfl⟩ ?_
  refine aw_aload_n hC dX9_fromAway_13 rfl ?_
  refine aw_gfR hC dX9_fromAway_14 fg_RX9_45 rfl rfl rm_7_0_0 ?_
  refine aw_iconst hC dX9_fromAway_17 (v := 0) (by decide) ?_
  refine aw_aload_n hC dX9_fromAway_18 rfl ?_
  refine aw_gfR hC dX9_fromAway_19 fg_RX9_35 rfl rfl rm_7_0_0 ?_
  refine aw_iconst hC dX9_fromAway_22 (v := 0) (by decide) ?_
  refine aw_bind rfl (fun q2 hq2 => ?_)
  refine aw_cSv hC dX9_fromAway_23 cv_RX9_195 (am_some (inj := (fun r => (.inr (none), r))) hq2 (A_X9_copiesNames _ (hC.2.2.2.2.2.2.2.2.2.2.2.2.1) _ _ _ (7, 0, 10) rm_7_0_10 rfl rfl (0 : Int32) (7, 0, 7) rm_7_0_7 rfl rfl (0 : Int32) q1)) rfl rfl rfl rfl rfl ⟨rfl, rfl⟩ ?_
  refine aw_iload_n hC dX9_fromAway_26 rfl ?_
  exact aw_iret hC dX9_fromAway_27 rfl rfl
set_option maxHeartbeats 4000000 in
set_option maxRecDepth 100000 in
theorem A_X9_lesser (l : Launch) (hl0 : l.stackTraces = false) (D : va_G) (loc : Rf → Nat) (cy : Nat → ClassId) (p1 : Int32) (p2 : Int32) (h : HD) : AM l D loc cy yX9_lesser cX9_lesser 2 (some .int) 0 16 [.int p1, .int p2] h (some (.inr (some (.int (jX9_lesser p1 p2 h))), h)) := by
  refine am_start (y := yX9_lesser) (av := [.int p1, .int p2]) (nL := 2) (h := h) (RF := fun (r : Int32) => some (.inr (some (.int r)), h)) (x := jX9_lesser p1 p2 h) hl0 (by decide +kernel) rfl ?_
  intro p e R s m below meth c A hC
  unfold jX9_lesser
  refine aw_iload_n hC dX9_lesser_0 rfl ?_
  refine aw_iload_n hC dX9_lesser_1 rfl ?_
  refine aw_icmp_ge hC dX9_lesser_2 (tgt := 9) (by decide) ?_ ?_
  · refine aw_iload_n hC dX9_lesser_9 rfl ?_
    exact aw_iret hC dX9_lesser_10 rfl rfl
  · refine aw_iload_n hC dX9_lesser_5 rfl ?_
    refine aw_goto hC dX9_lesser_6 (tgt := 10) (by decide) ?_
    exact aw_iret hC dX9_lesser_10 rfl rfl
set_option maxHeartbeats 4000000 in
set_option maxRecDepth 100000 in
theorem A_X9_plain (l : Launch) (hl0 : l.stackTraces = false) (D : va_G) (loc : Rf → Nat) (cy : Nat → ClassId) (p1 : Int32) (h : HD) : AM l D loc cy yX9_plain cX9_plain 1 (some .int) 0 16 [.int p1] h (some (.inr (some (.int (jX9_plain p1 h))), h)) := by
  refine am_start (y := yX9_plain) (av := [.int p1]) (nL := 1) (h := h) (RF := fun (r : Int32) => some (.inr (some (.int r)), h)) (x := jX9_plain p1 h) hl0 (by decide +kernel) rfl ?_
  intro p e R s m below meth c A hC
  unfold jX9_plain
  refine aw_iload_n hC dX9_plain_0 rfl ?_
  refine aw_if_ge hC dX9_plain_1 (tgt := 9) (by decide) ?_ ?_
  · refine aw_iload_n hC dX9_plain_9 rfl ?_
    exact aw_iret hC dX9_plain_10 rfl rfl
  · refine aw_iload_n hC dX9_plain_4 rfl ?_
    refine aw_ineg hC dX9_plain_5 ?_
    refine aw_goto hC dX9_plain_6 (tgt := 10) (by decide) ?_
    exact aw_iret hC dX9_plain_10 rfl rfl
set_option maxHeartbeats 4000000 in
set_option maxRecDepth 100000 in
theorem A_X9_refused (l : Launch) (hl0 : l.stackTraces = false) (D : va_G) (loc : Rf → Nat) (cy : Nat → ClassId) (p1 : Int32) (h : HD) : AM l D loc cy yX9_refused cX9_refused 2 (some .boolean) 0 16 [.ref (loc (7, 0, 0)), .int p1] h ((jX9_refused p1 h).map (fun r => (.inr (some (.int (b2i r.1))), r.2))) := by
  refine am_start (y := yX9_refused) (av := [.ref (loc (7, 0, 0)), .int p1]) (nL := 2) (h := h) (RF := fun (r : Option (Bool × HD)) => r.map (fun r => (.inr (some (.int (b2i r.1))), r.2))) (x := jX9_refused p1 h) hl0 (by decide +kernel) rfl ?_
  intro p e R s m below meth c A hC
  unfold jX9_refused
  refine aw_iload_n hC dX9_refused_0 rfl ?_
  refine aw_if_ne hC dX9_refused_1 (tgt := 6) (by decide) ?_ ?_
  · refine aw_aload_n hC dX9_refused_6 rfl ?_
    refine aw_iload_n hC dX9_refused_7 rfl ?_
    refine aw_pfI hC dX9_refused_8 fg_RX9_209 fp_7_26 rfl rm_7_0_0 (fun h1 => ?_)
    refine aw_aload_n hC dX9_refused_11 rfl ?_
    refine aw_gfR hC dX9_refused_12 fg_RX9_51 rfl rfl rm_7_0_0 ?_
    refine aw_iconst hC dX9_refused_15 (v := 1) (by decide) ?_
    refine aw_dup2 hC dX9_refused_16 rfl rfl ?_
    refine aw_iald hC dX9_refused_17 rm_7_0_12 rfl rfl (by decide) (k := 1) (by decide) ?_
    refine aw_iconst hC dX9_refused_18 (v := 1) (by decide) ?_
    refine aw_iadd hC dX9_refused_19 ?_
    refine aw_iast hC dX9_refused_20 rm_7_0_12 rfl rfl (by decide) (k := 1) (by decide) (fun h2 => ?_)
    refine aw_iconst hC dX9_refused_21 (v := 1) (by decide) ?_
    exact aw_zret hC dX9_refused_22 rfl (show _ = b2i true from rfl) rfl
  · refine aw_iconst hC dX9_refused_4 (v := 0) (by decide) ?_
    exact aw_zret hC dX9_refused_5 rfl (show _ = b2i false from rfl) rfl
set_option maxHeartbeats 4000000 in
set_option maxRecDepth 100000 in
theorem A_X9_acted (l : Launch) (hl0 : l.stackTraces = false) (D : va_G) (loc : Rf → Nat) (cy : Nat → ClassId) (p1 : Int32) (h : HD) : AM l D loc cy yX9_acted cX9_acted 2 (some .int) 0 16 [.ref (loc (7, 0, 0)), .int p1] h ((jX9_acted p1 h).map (fun r => (.inr (some (.int r.1)), r.2))) := by
  refine am_start (y := yX9_acted) (av := [.ref (loc (7, 0, 0)), .int p1]) (nL := 2) (h := h) (RF := fun (r : Option (Int32 × HD)) => r.map (fun r => (.inr (some (.int r.1)), r.2))) (x := jX9_acted p1 h) hl0 (by decide +kernel) rfl ?_
  intro p e R s m below meth c A hC
  unfold jX9_acted
  refine aw_aload_n hC dX9_acted_0 rfl ?_
  refine aw_gfR hC dX9_acted_1 fg_RX9_51 rfl rfl rm_7_0_0 ?_
  refine aw_iconst hC dX9_acted_4 (v := 0) (by decide) ?_
  refine aw_dup2 hC dX9_acted_5 rfl rfl ?_
  refine aw_iald hC dX9_acted_6 rm_7_0_12 rfl rfl (by decide) (k := 0) (by decide) ?_
  refine aw_iconst hC dX9_acted_7 (v := 1) (by decide) ?_
  refine aw_iadd hC dX9_acted_8 ?_
  refine aw_iast hC dX9_acted_9 rm_7_0_12 rfl rfl (by decide) (k := 0) (by decide) (fun h1 => ?_)
  refine aw_iload_n hC dX9_acted_10 rfl ?_
  exact aw_iret hC dX9_acted_11 rfl rfl
set_option maxHeartbeats 4000000 in
set_option maxRecDepth 100000 in
theorem A_X9_refusal (l : Launch) (hl0 : l.stackTraces = false) (D : va_G) (loc : Rf → Nat) (cy : Nat → ClassId)  (h : HD) : AM l D loc cy yX9_refusal cX9_refusal 1 (some .int) 0 16 [.ref (loc (7, 0, 0))] h ((jX9_refusal h).map (fun r => (.inr (some (.int r.1)), r.2))) := by
  refine am_start (y := yX9_refusal) (av := [.ref (loc (7, 0, 0))]) (nL := 1) (h := h) (RF := fun (r : Option (Int32 × HD)) => r.map (fun r => (.inr (some (.int r.1)), r.2))) (x := jX9_refusal h) hl0 (by decide +kernel) rfl ?_
  intro p e R s m below meth c A hC
  unfold jX9_refusal
  refine aw_aload_n hC dX9_refusal_0 rfl ?_
  refine aw_iconst hC dX9_refusal_1 (v := 0) (by decide) ?_
  refine aw_pfI hC dX9_refusal_2 fg_RX9_112 fp_7_0 rfl rm_7_0_0 (fun h1 => ?_)
  refine aw_aload_n hC dX9_refusal_5 rfl ?_
  refine aw_gfI hC dX9_refusal_6 fg_RX9_209 rfl rm_7_0_0 ?_
  exact aw_iret hC dX9_refusal_9 rfl rfl
set_option maxHeartbeats 4000000 in
set_option maxRecDepth 100000 in
theorem A_X9_account (l : Launch) (hl0 : l.stackTraces = false) (D : va_G) (loc : Rf → Nat) (cy : Nat → ClassId) (p1 : Int32) (h : HD) : AM l D loc cy yX9_account cX9_account 2 (some .int) 2 57 [.ref (loc (7, 0, 0)), .int p1] h ((jX9_account p1 h).map (fun r => (.inr (some (.int r.1)), r.2))) := by
  refine am_start (y := yX9_account) (av := [.ref (loc (7, 0, 0)), .int p1]) (nL := 2) (h := h) (RF := fun (r : Option (Int32 × HD)) => r.map (fun r => (.inr (some (.int r.1)), r.2))) (x := jX9_account p1 h) hl0 (by decide +kernel) rfl ?_
  intro p e R s m below meth c A hC
  unfold jX9_account
  refine aw_aload_n hC dX9_account_0 rfl ?_
  refine aw_iload_n hC dX9_account_1 rfl ?_
  refine aw_i2l hC dX9_account_2 ?_
  refine aw_lconst hC dX9_account_3 (v := 0) (by decide) ?_
  refine aw_ldc2 hC dX9_account_4 (v := 4) tw7_170 ?_
  refine aw_cSb hC dX9_account_7 cv_RX9_130 (A_X9_isIn _ (hC.2.2.2.2.2.2.2.2.2.2.2.2.1) _ _ _ p1.toInt64 (0 : Int64) (4 : Int64) h) rfl rfl rfl rfl rfl ⟨rfl, rfl⟩ ?_
  refine aw_bind rfl (fun q1 hq1 => ?_)
  refine aw_cVb hC dX9_account_10 cv_RX9_122 rfl rm_7_0_0 (am_some (inj := (fun r => (.inr (some (.int (b2i r.1))), r.2))) hq1 (A_X9_goes _ (hC.2.2.2.2.2.2.2.2.2.2.2.2.1) _ _ _ (jX9_isIn p1.toInt64 (0 : Int64) (4 : Int64) h) h)) rfl rfl rfl rfl rfl ⟨rfl, rfl⟩ ?_
  refine aw_if_eq_b hC dX9_account_13 (tgt := 25) (by decide) ?_ ?_
  · refine aw_iconst hC dX9_account_25 (v := 0) (by decide) ?_
    exact aw_iret hC dX9_account_26 rfl rfl
  · refine aw_aload_n hC dX9_account_16 rfl ?_
    refine aw_gfR hC dX9_account_17 fg_RX9_51 rfl rfl rm_7_0_0 ?_
    refine aw_iload_n hC dX9_account_20 rfl ?_
    refine aw_guard rfl (fun g2 => ?_)
    refine aw_iald hC dX9_account_21 rm_7_0_12 rfl rfl g2 rfl ?_
    refine aw_goto hC dX9_account_22 (tgt := 26) (by decide) ?_
    exact aw_iret hC dX9_account_26 rfl rfl
set_option maxHeartbeats 4000000 in
set_option maxRecDepth 100000 in
theorem A_X9_spots (l : Launch) (hl0 : l.stackTraces = false) (D : va_G) (loc : Rf → Nat) (cy : Nat → ClassId)  (h : HD) : AM l D loc cy yX9_spots cX9_spots 1 (some .int) 0 16 [.ref (loc (7, 0, 0))] h ((jX9_spots h).map (fun r => (.inr (some (.int r)), h))) := by
  refine am_start (y := yX9_spots) (av := [.ref (loc (7, 0, 0))]) (nL := 1) (h := h) (RF := fun (r : Option Int32) => r.map (fun r => (.inr (some (.int r)), h))) (x := jX9_spots h) hl0 (by decide +kernel) rfl ?_
  intro p e R s m below meth c A hC
  unfold jX9_spots
  refine aw_aload_n hC dX9_spots_0 rfl ?_
  refine aw_gfR hC dX9_spots_1 fg_RX9_20 rfl rfl rm_7_0_0 ?_
  refine aw_iconst hC dX9_spots_4 (v := 0) (by decide) ?_
  refine aw_iald hC dX9_spots_5 rm_7_0_2 rfl rfl (by decide) (k := 0) (by decide) ?_
  refine aw_iconst hC dX9_spots_6 (v := 1) (by decide) ?_
  refine aw_iadd hC dX9_spots_7 ?_
  exact aw_iret hC dX9_spots_8 rfl rfl
end PRF
