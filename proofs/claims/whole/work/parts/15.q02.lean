section PRF
variable {p : Program} {l : Launch} {e : Env} {R : Room} {s : State} {m : MethodId} {args : Array Value} {below : List Frame} {meth : Method} {c : Code} {D : va_G} {loc : Rf → Nat} {cy : Nat → ClassId} {A : Nat → Prop}
set_option maxHeartbeats 4000000 in
set_option maxRecDepth 100000 in
theorem L_X5_read_12 (k86 : HD → Option (Bool × HD)) (hC : Cx p l e R s m args meth c D loc cy A cX5_read 3 (some .boolean) RX5 7 214 0 0) (hk86 : ∀  (h2 : HD), AW p l e R s m args below meth c D loc cy A 3 (QM below D loc cy A args s) (fun (r : Option (Bool × HD)) => r.map (fun r => (.inr (some (.int (b2i r.1))), r.2))) (0, 0) 86 [(1, .ref (loc (4, 0, 0)))] [] h2 (k86  h2)) : ∀ (n12 : Nat) (x2 : Int32) (h : HD), AW p l e R s m args below meth c D loc cy A 3 (QM below D loc cy A args s) (fun (r : Option (Bool × HD)) => r.map (fun r => (.inr (some (.int (b2i r.1))), r.2))) (0, 0) 12 [(0, .ref (loc (3, 0, 0))), (1, .ref (loc (4, 0, 0))), (2, .int x2)] [] h (jX5_read_L12 k86 n12 x2 h) := by
  intro n12
  induction n12 with
  | zero => intro x2 h; exact aw_none rfl
  | succ n12 ih12 =>
    intro x2 h
    rw [jX5_read_L12]
    refine aw_iload_n hC dX5_read_12 rfl ?_
    refine aw_sipush hC dX5_read_13 (v := 400) (by decide) ?_
    refine aw_icmp_gt hC dX5_read_16 (tgt := 86) (by decide) ?_ ?_
    · refine aw_sub [1] ?_
      exact hk86 h
    · refine aw_aload_n hC dX5_read_19 rfl ?_
      refine aw_bind rfl (fun q3 hq3 => ?_)
      refine aw_cVv hC dX5_read_20 cv_RX5_42 rfl rm_4_0_0 (am_some (inj := (fun r => (.inr (none), r))) hq3 (A_X6_advance _ (hC.2.2.2.2.2.2.2.2.2.2.2.2.1) _ _ _ h)) rfl rfl rfl rfl rfl ⟨rfl, rfl⟩ ?_
      refine aw_aload_n hC dX5_read_23 rfl ?_
      refine aw_gfI hC dX5_read_24 fg_RX5_31 rfl rm_3_0_0 ?_
      refine aw_if_ne hC dX5_read_27 (tgt := 39) (by decide) ?_ ?_
      · refine aw_aload_n hC dX5_read_39 rfl ?_
        refine aw_gfI hC dX5_read_40 fg_RX5_31 rfl rm_3_0_0 ?_
        refine aw_if_le hC dX5_read_43 (tgt := 70) (by decide) ?_ ?_
        · refine aw_aload_n hC dX5_read_70 rfl ?_
          refine aw_aload_n hC dX5_read_71 rfl ?_
          refine aw_bind rfl (fun q4 hq4 => ?_)
          refine aw_cVb hC dX5_read_72 cv_RX5_61 rfl rm_3_0_0 (am_some (inj := (fun r => (.inr (some (.int (b2i r.1))), r.2))) hq4 (A_X5_readCommand _ (hC.2.2.2.2.2.2.2.2.2.2.2.2.1) _ _ _ q3)) rfl rfl rfl rfl rfl ⟨rfl, rfl⟩ ?_
          refine aw_if_ne_b hC dX5_read_75 (tgt := 80) (by decide) ?_ ?_
          · refine aw_iinc hC dX5_read_80 rfl (v := x2 + 1) (by first | rfl | decide) (by decide) ?_
            refine aw_goto hC dX5_read_83 (tgt := 12) (by decide) ?_
            refine aw_sub [0, 1, 2] ?_
            exact ih12 (x2 + 1) q4.2
          · refine aw_iconst hC dX5_read_78 (v := 0) (by decide) ?_
            exact aw_zret hC dX5_read_79 rfl (show _ = b2i false from rfl) rfl
        · refine aw_aload_n hC dX5_read_46 rfl ?_
          refine aw_bipush hC dX5_read_47 (v := 41) (by decide) ?_
          refine aw_cVb hC dX5_read_49 cv_RX5_51 rfl rm_4_0_0 (A_X6_isMark _ (hC.2.2.2.2.2.2.2.2.2.2.2.2.1) _ _ _ (41 : Int32) q3) rfl rfl rfl rfl rfl ⟨rfl, rfl⟩ ?_
          refine aw_if_eq_b hC dX5_read_52 (tgt := 70) (by decide) ?_ ?_
          · refine aw_aload_n hC dX5_read_70 rfl ?_
            refine aw_aload_n hC dX5_read_71 rfl ?_
            refine aw_bind rfl (fun q5 hq5 => ?_)
            refine aw_cVb hC dX5_read_72 cv_RX5_61 rfl rm_3_0_0 (am_some (inj := (fun r => (.inr (some (.int (b2i r.1))), r.2))) hq5 (A_X5_readCommand _ (hC.2.2.2.2.2.2.2.2.2.2.2.2.1) _ _ _ q3)) rfl rfl rfl rfl rfl ⟨rfl, rfl⟩ ?_
            refine aw_if_ne_b hC dX5_read_75 (tgt := 80) (by decide) ?_ ?_
            · refine aw_iinc hC dX5_read_80 rfl (v := x2 + 1) (by first | rfl | decide) (by decide) ?_
              refine aw_goto hC dX5_read_83 (tgt := 12) (by decide) ?_
              refine aw_sub [0, 1, 2] ?_
              exact ih12 (x2 + 1) q5.2
            · refine aw_iconst hC dX5_read_78 (v := 0) (by decide) ?_
              exact aw_zret hC dX5_read_79 rfl (show _ = b2i false from rfl) rfl
          · refine aw_aload_n hC dX5_read_55 rfl ?_
            refine aw_bind rfl (fun q6 hq6 => ?_)
            refine aw_cVv hC dX5_read_56 cv_RX5_55 rfl rm_3_0_0 (am_some (inj := (fun r => (.inr (none), r))) hq6 (A_X5_closeRepeat _ (hC.2.2.2.2.2.2.2.2.2.2.2.2.1) _ _ _ q3)) rfl rfl rfl rfl rfl ⟨rfl, rfl⟩ ?_
            refine aw_aload_n hC dX5_read_59 rfl ?_
            refine aw_bipush hC dX5_read_60 (v := 59) (by decide) ?_
            refine aw_bind rfl (fun q7 hq7 => ?_)
            refine aw_cVb hC dX5_read_62 cv_RX5_58 rfl rm_4_0_0 (am_some (inj := (fun r => (.inr (some (.int (b2i r.1))), r.2))) hq7 (A_X6_readMark _ (hC.2.2.2.2.2.2.2.2.2.2.2.2.1) _ _ _ (59 : Int32) q6)) rfl rfl rfl rfl rfl ⟨rfl, rfl⟩ ?_
            refine aw_if_ne_b hC dX5_read_65 (tgt := 80) (by decide) ?_ ?_
            · refine aw_iinc hC dX5_read_80 rfl (v := x2 + 1) (by first | rfl | decide) (by decide) ?_
              refine aw_goto hC dX5_read_83 (tgt := 12) (by decide) ?_
              refine aw_sub [0, 1, 2] ?_
              exact ih12 (x2 + 1) q7.2
            · refine aw_iconst hC dX5_read_68 (v := 0) (by decide) ?_
              exact aw_zret hC dX5_read_69 rfl (show _ = b2i false from rfl) rfl
      · refine aw_aload_n hC dX5_read_30 rfl ?_
        refine aw_cVb hC dX5_read_31 cv_RX5_47 rfl rm_4_0_0 (A_X6_isEnd _ (hC.2.2.2.2.2.2.2.2.2.2.2.2.1) _ _ _ q3) rfl rfl rfl rfl rfl ⟨rfl, rfl⟩ ?_
        refine aw_if_eq_b hC dX5_read_34 (tgt := 39) (by decide) ?_ ?_
        · refine aw_aload_n hC dX5_read_39 rfl ?_
          refine aw_gfI hC dX5_read_40 fg_RX5_31 rfl rm_3_0_0 ?_
          refine aw_if_le hC dX5_read_43 (tgt := 70) (by decide) ?_ ?_
          · refine aw_aload_n hC dX5_read_70 rfl ?_
            refine aw_aload_n hC dX5_read_71 rfl ?_
            refine aw_bind rfl (fun q8 hq8 => ?_)
            refine aw_cVb hC dX5_read_72 cv_RX5_61 rfl rm_3_0_0 (am_some (inj := (fun r => (.inr (some (.int (b2i r.1))), r.2))) hq8 (A_X5_readCommand _ (hC.2.2.2.2.2.2.2.2.2.2.2.2.1) _ _ _ q3)) rfl rfl rfl rfl rfl ⟨rfl, rfl⟩ ?_
            refine aw_if_ne_b hC dX5_read_75 (tgt := 80) (by decide) ?_ ?_
            · refine aw_iinc hC dX5_read_80 rfl (v := x2 + 1) (by first | rfl | decide) (by decide) ?_
              refine aw_goto hC dX5_read_83 (tgt := 12) (by decide) ?_
              refine aw_sub [0, 1, 2] ?_
              exact ih12 (x2 + 1) q8.2
            · refine aw_iconst hC dX5_read_78 (v := 0) (by decide) ?_
              exact aw_zret hC dX5_read_79 rfl (show _ = b2i false from rfl) rfl
          · refine aw_aload_n hC dX5_read_46 rfl ?_
            refine aw_bipush hC dX5_read_47 (v := 41) (by decide) ?_
            refine aw_cVb hC dX5_read_49 cv_RX5_51 rfl rm_4_0_0 (A_X6_isMark _ (hC.2.2.2.2.2.2.2.2.2.2.2.2.1) _ _ _ (41 : Int32) q3) rfl rfl rfl rfl rfl ⟨rfl, rfl⟩ ?_
            refine aw_if_eq_b hC dX5_read_52 (tgt := 70) (by decide) ?_ ?_
            · refine aw_aload_n hC dX5_read_70 rfl ?_
              refine aw_aload_n hC dX5_read_71 rfl ?_
              refine aw_bind rfl (fun q9 hq9 => ?_)
              refine aw_cVb hC dX5_read_72 cv_RX5_61 rfl rm_3_0_0 (am_some (inj := (fun r => (.inr (some (.int (b2i r.1))), r.2))) hq9 (A_X5_readCommand _ (hC.2.2.2.2.2.2.2.2.2.2.2.2.1) _ _ _ q3)) rfl rfl rfl rfl rfl ⟨rfl, rfl⟩ ?_
              refine aw_if_ne_b hC dX5_read_75 (tgt := 80) (by decide) ?_ ?_
              · refine aw_iinc hC dX5_read_80 rfl (v := x2 + 1) (by first | rfl | decide) (by decide) ?_
                refine aw_goto hC dX5_read_83 (tgt := 12) (by decide) ?_
                refine aw_sub [0, 1, 2] ?_
                exact ih12 (x2 + 1) q9.2
              · refine aw_iconst hC dX5_read_78 (v := 0) (by decide) ?_
                exact aw_zret hC dX5_read_79 rfl (show _ = b2i false from rfl) rfl
            · refine aw_aload_n hC dX5_read_55 rfl ?_
              refine aw_bind rfl (fun q10 hq10 => ?_)
              refine aw_cVv hC dX5_read_56 cv_RX5_55 rfl rm_3_0_0 (am_some (inj := (fun r => (.inr (none), r))) hq10 (A_X5_closeRepeat _ (hC.2.2.2.2.2.2.2.2.2.2.2.2.1) _ _ _ q3)) rfl rfl rfl rfl rfl ⟨rfl, rfl⟩ ?_
              refine aw_aload_n hC dX5_read_59 rfl ?_
              refine aw_bipush hC dX5_read_60 (v := 59) (by decide) ?_
              refine aw_bind rfl (fun q11 hq11 => ?_)
              refine aw_cVb hC dX5_read_62 cv_RX5_58 rfl rm_4_0_0 (am_some (inj := (fun r => (.inr (some (.int (b2i r.1))), r.2))) hq11 (A_X6_readMark _ (hC.2.2.2.2.2.2.2.2.2.2.2.2.1) _ _ _ (59 : Int32) q10)) rfl rfl rfl rfl rfl ⟨rfl, rfl⟩ ?_
              refine aw_if_ne_b hC dX5_read_65 (tgt := 80) (by decide) ?_ ?_
              · refine aw_iinc hC dX5_read_80 rfl (v := x2 + 1) (by first | rfl | decide) (by decide) ?_
                refine aw_goto hC dX5_read_83 (tgt := 12) (by decide) ?_
                refine aw_sub [0, 1, 2] ?_
                exact ih12 (x2 + 1) q11.2
              · refine aw_iconst hC dX5_read_68 (v := 0) (by decide) ?_
                exact aw_zret hC dX5_read_69 rfl (show _ = b2i false from rfl) rfl
        · refine aw_iconst hC dX5_read_37 (v := 1) (by decide) ?_
          exact aw_zret hC dX5_read_38 rfl (show _ = b2i true from rfl) rfl
set_option maxHeartbeats 4000000 in
set_option maxRecDepth 100000 in
theorem A_X5_read (l : Launch) (hl0 : l.stackTraces = false) (D : va_G) (loc : Rf → Nat) (cy : Nat → ClassId)  (h : HD) : AM l D loc cy yX5_read cX5_read 3 (some .boolean) 7 214 [.ref (loc (3, 0, 0)), .ref (loc (4, 0, 0))] h ((jX5_read h).map (fun r => (.inr (some (.int (b2i r.1))), r.2))) := by
  refine am_start (y := yX5_read) (av := [.ref (loc (3, 0, 0)), .ref (loc (4, 0, 0))]) (nL := 3) (h := h) (RF := fun (r : Option (Bool × HD)) => r.map (fun r => (.inr (some (.int (b2i r.1))), r.2))) (x := jX5_read h) hl0 (by decide +kernel) rfl ?_
  intro p e R s m below meth c A hC
  unfold jX5_read
  refine aw_aload_n hC dX5_read_0 rfl ?_
  refine aw_iconst hC dX5_read_1 (v := 0) (by decide) ?_
  refine aw_pfI hC dX5_read_2 fg_RX5_35 fp_3_6 rfl rm_3_0_0 (fun h1 => ?_)
  refine aw_aload_n hC dX5_read_5 rfl ?_
  refine aw_iconst hC dX5_read_6 (v := 0) (by decide) ?_
  refine aw_pfI hC dX5_read_7 fg_RX5_31 fp_3_5 rfl rm_3_0_0 (fun h2 => ?_)
  refine aw_iconst hC dX5_read_10 (v := 0) (by decide) ?_
  refine aw_istore_n hC dX5_read_11 (by decide) ?_
  refine aw_sub [0, 1, 2] ?_
  refine L_X5_read_12  _ hC ?_ FU (0 : Int32) h2
  · intro h12
    refine aw_aload_n hC dX5_read_86 rfl ?_
    refine aw_iconst hC dX5_read_87 (v := 1) (by decide) ?_
    refine aw_bind rfl (fun q13 hq13 => ?_)
    refine aw_cVb hC dX5_read_88 cv_RX5_65 rfl rm_4_0_0 (am_some (inj := (fun r => (.inr (some (.int (b2i r.1))), r.2))) hq13 (A_X6_fail _ (hC.2.2.2.2.2.2.2.2.2.2.2.2.1) _ _ _ (1 : Int32) h12)) rfl rfl rfl rfl rfl ⟨rfl, rfl⟩ ?_
    exact aw_zret hC dX5_read_91 rfl (show _ = b2i q13.1 from rfl) rfl
set_option maxHeartbeats 4000000 in
set_option maxRecDepth 100000 in
theorem A_X5_commandAt (l : Launch) (hl0 : l.stackTraces = false) (D : va_G) (loc : Rf → Nat) (cy : Nat → ClassId) (p1 : Int32) (h : HD) : AM l D loc cy yX5_commandAt cX5_commandAt 2 (some (.object "ParkingCircle$Command")) 1 37 [.ref (loc (3, 0, 0)), .int p1] h ((jX5_commandAt p1 h).map (fun r => (.inr (some (cmv loc r)), h))) := by
  refine am_start (y := yX5_commandAt) (av := [.ref (loc (3, 0, 0)), .int p1]) (nL := 2) (h := h) (RF := fun (r : Option (Option Nat)) => r.map (fun r => (.inr (some (cmv loc r)), h))) (x := jX5_commandAt p1 h) hl0 (by decide +kernel) rfl ?_
  intro p e R s m below meth c A hC
  unfold jX5_commandAt
  refine aw_aload_n hC dX5_commandAt_0 rfl ?_
  refine aw_iload_n hC dX5_commandAt_1 rfl ?_
  refine aw_cVb hC dX5_commandAt_2 cv_RX5_38 rfl rm_3_0_0 (A_X5_has _ (hC.2.2.2.2.2.2.2.2.2.2.2.2.1) _ _ _ p1 h) rfl rfl rfl rfl rfl ⟨rfl, rfl⟩ ?_
  refine aw_if_eq_b hC dX5_commandAt_5 (tgt := 17) (by decide) ?_ ?_
  · refine aw_null hC dX5_commandAt_17 ?_
    exact aw_aret hC dX5_commandAt_18 rfl (Or.inl ⟨_, rfl⟩) (Or.inl rfl) rfl
  · refine aw_aload_n hC dX5_commandAt_8 rfl ?_
    refine aw_gfR hC dX5_commandAt_9 fg_RX5_11 rfl rfl rm_3_0_0 ?_
    refine aw_iload_n hC dX5_commandAt_12 rfl ?_
    refine aw_guard rfl (fun g1 => ?_)
    refine aw_oald hC dX5_commandAt_13 g1 ?_
    refine aw_oc ?_ (fun k2 => aw_guardP rfl (fun g3 => ?_))
    · refine aw_goto hC dX5_commandAt_14 (tgt := 18) (by decide) ?_
      exact aw_aret hC dX5_commandAt_18 rfl (Or.inl ⟨_, rfl⟩) (Or.inl rfl) rfl
    · refine aw_goto hC dX5_commandAt_14 (tgt := 18) (by decide) ?_
      exact aw_aret hC dX5_commandAt_18 rfl (Or.inl ⟨_, rfl⟩) (Or.inr ⟨_, rfl⟩) rfl
set_option maxHeartbeats 4000000 in
set_option maxRecDepth 100000 in
theorem L_X8_doRepeat_l1_16 (p1 : Int32) (p2 : Int32) (h : HD) (hC : Cx p l e R s m args meth c D loc cy A cX8_doRepeat 4 (some .boolean) RX8 2 58 0 0)  : ∀ (n16 : Nat) (x3 : Int32), AW p l e R s m args below meth c D loc cy A 4 (QM below D loc cy A args s) (fun (r : Option Bool) => r.map (fun r => (.inr (some (.int (b2i r))), h))) (0, 0) 16 [(0, .ref (loc (6, 0, 0))), (1, .int p1), (2, .int p2), (3, .int x3)] [] h (jX8_doRepeat_l1_L16 p1 p2 h n16 x3) := by
  intro n16
  induction n16 with
  | zero => intro x3; exact aw_none rfl
  | succ n16 ih16 =>
    intro x3
    rw [jX8_doRepeat_l1_L16]
    refine aw_iload_n hC dX8_doRepeat_16 rfl ?_
    refine aw_if_le hC dX8_doRepeat_17 (tgt := 49) (by decide) ?_ ?_
    · refine aw_iconst hC dX8_doRepeat_49 (v := 1) (by decide) ?_
      exact aw_zret hC dX8_doRepeat_50 rfl (show _ = b2i true from rfl) rfl
    · refine aw_aload_n hC dX8_doRepeat_20 rfl ?_
      refine aw_iload_n hC dX8_doRepeat_21 rfl ?_
      refine aw_iconst hC dX8_doRepeat_22 (v := 1) (by decide) ?_
      refine aw_iadd hC dX8_doRepeat_23 ?_
      refine aw_aload_n hC dX8_doRepeat_24 rfl ?_
      refine aw_gfR hC dX8_doRepeat_25 fg_RX8_35 rfl rfl rm_6_0_0 ?_
      refine aw_iload_n hC dX8_doRepeat_28 rfl ?_
      refine aw_bind rfl (fun q2 hq2 => ?_)
      refine aw_cVi hC dX8_doRepeat_29 cv_RX8_496 rfl rm_3_0_0 (am_some (inj := (fun r => (.inr (some (.int r)), h))) hq2 (A_X5_behind _ (hC.2.2.2.2.2.2.2.2.2.2.2.2.1) _ _ _ p1 h)) rfl rfl rfl rfl rfl ⟨rfl, rfl⟩ ?_
      refine aw_iload_n hC dX8_doRepeat_32 rfl ?_
      refine aw_iconst hC dX8_doRepeat_33 (v := 1) (by decide) ?_
      refine aw_iadd hC dX8_doRepeat_34 ?_
      exact aw_none rfl
set_option maxHeartbeats 4000000 in
set_option maxRecDepth 100000 in
theorem A_X8_doRepeat_l1 (l : Launch) (hl0 : l.stackTraces = false) (D : va_G) (loc : Rf → Nat) (cy : Nat → ClassId) (p1 : Int32) (p2 : Int32) (h : HD) : AM l D loc cy yX8_doRepeat cX8_doRepeat 4 (some .boolean) 2 58 [.ref (loc (6, 0, 0)), .int p1, .int p2] h ((jX8_doRepeat_l1 p1 p2 h).map (fun r => (.inr (some (.int (b2i r))), h))) := by
  refine am_start (y := yX8_doRepeat) (av := [.ref (loc (6, 0, 0)), .int p1, .int p2]) (nL := 4) (h := h) (RF := fun (r : Option Bool) => r.map (fun r => (.inr (some (.int (b2i r))), h))) (x := jX8_doRepeat_l1 p1 p2 h) hl0 (by decide +kernel) rfl ?_
  intro p e R s m below meth c A hC
  unfold jX8_doRepeat_l1
  refine aw_iload_n hC dX8_doRepeat_0 rfl ?_
  refine aw_iconst hC dX8_doRepeat_1 (v := 2) (by decide) ?_
  refine aw_icmp_lt hC dX8_doRepeat_2 (tgt := 7) (by decide) ?_ ?_
  · refine aw_aload_n hC dX8_doRepeat_7 rfl ?_
    refine aw_gfR hC dX8_doRepeat_8 fg_RX8_35 rfl rfl rm_6_0_0 ?_
    refine aw_iload_n hC dX8_doRepeat_11 rfl ?_
    refine aw_bind rfl (fun q1 hq1 => ?_)
    refine aw_cVi hC dX8_doRepeat_12 cv_RX8_499 rfl rm_3_0_0 (am_some (inj := (fun r => (.inr (some (.int r)), h))) hq1 (A_X5_numberAt _ (hC.2.2.2.2.2.2.2.2.2.2.2.2.1) _ _ _ p1 h)) rfl rfl rfl rfl rfl ⟨rfl, rfl⟩ ?_
    refine aw_istore_n hC dX8_doRepeat_15 (by decide) ?_
    refine aw_sub [0, 1, 2, 3] ?_
    exact L_X8_doRepeat_l1_16 p1 p2 h  hC FU q1
  · refine aw_iconst hC dX8_doRepeat_5 (v := 0) (by decide) ?_
    exact aw_zret hC dX8_doRepeat_6 rfl (show _ = b2i false from rfl) rfl
set_option maxHeartbeats 4000000 in
set_option maxRecDepth 100000 in
theorem A_X8_doCommand (l : Launch) (hl0 : l.stackTraces = false) (D : va_G) (loc : Rf → Nat) (cy : Nat → ClassId) (p1 : Int32) (h : HD) : AM l D loc cy yX8_doCommand cX8_doCommand 5 (some .boolean) 4 140 [.ref (loc (6, 0, 0)), .int p1] h ((jX8_doCommand p1 h).map (fun r => (.inr (some (.int (b2i r.1))), r.2))) := by
  refine am_start (y := yX8_doCommand) (av := [.ref (loc (6, 0, 0)), .int p1]) (nL := 5) (h := h) (RF := fun (r : Option (Bool × HD)) => r.map (fun r => (.inr (some (.int (b2i r.1))), r.2))) (x := jX8_doCommand p1 h) hl0 (by decide +kernel) rfl ?_
  intro p e R s m below meth c A hC
  unfold jX8_doCommand
  refine aw_aload_n hC dX8_doCommand_0 rfl ?_
  refine aw_gfR hC dX8_doCommand_1 fg_RX8_35 rfl rfl rm_6_0_0 ?_
  refine aw_iload_n hC dX8_doCommand_4 rfl ?_
  refine aw_bind rfl (fun q1 hq1 => ?_)
  refine aw_cVo hC dX8_doCommand_5 cv_RX8_480 rfl rm_3_0_0 (am_some (inj := (fun r => (.inr (some (cmv loc r)), h))) hq1 (A_X5_commandAt _ (hC.2.2.2.2.2.2.2.2.2.2.2.2.1) _ _ _ p1 h)) rfl rfl rfl rfl rfl ⟨rfl, rfl⟩ ?_
  refine aw_oc ?_ (fun k2 => aw_guardP rfl (fun g3 => ?_))
  · refine aw_astore_nN hC dX8_doCommand_8 (by decide) ?_
    refine aw_aload_nN hC dX8_doCommand_9 rfl ?_
    refine aw_ifnonnullN hC dX8_doCommand_10 ?_
    refine aw_iconst hC dX8_doCommand_13 (v := 0) (by decide) ?_
    exact aw_zret hC dX8_doCommand_14 rfl (show _ = b2i false from rfl) rfl
  · refine aw_astore_n hC dX8_doCommand_8 (by decide) ?_
    refine aw_aload_n hC dX8_doCommand_9 rfl ?_
    refine aw_ifnonnull hC dX8_doCommand_10 (tgt := 15) (by decide) ?_
    refine aw_aload_n hC dX8_doCommand_15 rfl ?_
    refine aw_gfR hC dX8_doCommand_16 fg_RX8_35 rfl rfl rm_6_0_0 ?_
    refine aw_iload_n hC dX8_doCommand_19 rfl ?_
    refine aw_bind rfl (fun q4 hq4 => ?_)
    refine aw_cVi hC dX8_doCommand_20 cv_RX8_499 rfl rm_3_0_0 (am_some (inj := (fun r => (.inr (some (.int r)), h))) hq4 (A_X5_numberAt _ (hC.2.2.2.2.2.2.2.2.2.2.2.2.1) _ _ _ p1 h)) rfl rfl rfl rfl rfl ⟨rfl, rfl⟩ ?_
    refine aw_istore_n hC dX8_doCommand_23 (by decide) ?_
    refine aw_aload_n hC dX8_doCommand_24 rfl ?_
    refine aw_gfR hC dX8_doCommand_25 fg_RX8_42 rfl rfl rm_6_0_0 ?_
    refine aw_aload_n hC dX8_doCommand_28 rfl ?_
    refine aw_gfR hC dX8_doCommand_29 fg_RX8_35 rfl rfl rm_6_0_0 ?_
    refine aw_iload_n hC dX8_doCommand_32 rfl ?_
    refine aw_bind rfl (fun q5 hq5 => ?_)
    refine aw_cVj hC dX8_doCommand_33 cv_RX8_500 rfl rm_3_0_0 (am_some (inj := (fun r => (.inr (some (.long r)), h))) hq5 (A_X5_nameAt _ (hC.2.2.2.2.2.2.2.2.2.2.2.2.1) _ _ _ p1 h)) rfl rfl rfl rfl rfl ⟨rfl, rfl⟩ ?_
    refine aw_bind rfl (fun q6 hq6 => ?_)
    refine aw_cVi hC dX8_doCommand_36 cv_RX8_219 rfl rm_1_0_0 (am_some (inj := (fun r => (.inr (some (.int r)), h))) hq6 (A_X2_carNamed _ (hC.2.2.2.2.2.2.2.2.2.2.2.2.1) _ _ _ 0 (by decide) q5 h)) rfl rfl rfl rfl rfl ⟨rfl, rfl⟩ ?_
    refine aw_istore hC dX8_doCommand_39 (by decide) ?_
    refine aw_gsO hC dX8_doCommand_41 tw5_83 (st_swm (cx_st hC)).1 ?_
    refine aw_aload_n hC dX8_doCommand_44 rfl ?_
    refine aw_sord hC dX8_doCommand_45 g3 tw5_85 rfl rfl rfl ⟨rfl, rfl⟩ ?_
    refine aw_guard rfl (fun g7 => ?_)
    refine aw_swm hC dX8_doCommand_48 g7 ?_
    refine aw_tabIn hC dX8_doCommand_49 1 (by decide) (by decide) (off := 47) rfl (tgt := 96) (by decide) ?_ (fun n9 => ?_)
    · refine aw_iload hC dX8_doCommand_96 rfl ?_
      refine aw_iconst hC dX8_doCommand_98 (v := -1) (by decide) ?_
      refine aw_icmp_eq hC dX8_doCommand_99 (tgt := 127) (by decide) ?_ ?_
      · refine aw_iconst hC dX8_doCommand_127 (v := 0) (by decide) ?_
        exact aw_zret hC dX8_doCommand_128 rfl (show _ = b2i false from rfl) rfl
      · refine aw_aload_n hC dX8_doCommand_102 rfl ?_
        refine aw_gfR hC dX8_doCommand_103 fg_RX8_42 rfl rfl rm_6_0_0 ?_
        refine aw_iload_n hC dX8_doCommand_106 rfl ?_
        refine aw_cVb hC dX8_doCommand_107 cv_RX8_339 rfl rm_1_0_0 (A_X2_hasSpot _ (hC.2.2.2.2.2.2.2.2.2.2.2.2.1) _ _ _ 0 (by decide) q4 h) rfl rfl rfl rfl rfl ⟨rfl, rfl⟩ ?_
        refine aw_if_eq_b hC dX8_doCommand_110 (tgt := 127) (by decide) ?_ ?_
        · refine aw_iconst hC dX8_doCommand_127 (v := 0) (by decide) ?_
          exact aw_zret hC dX8_doCommand_128 rfl (show _ = b2i false from rfl) rfl
        · refine aw_aload_n hC dX8_doCommand_113 rfl ?_
          refine aw_iload hC dX8_doCommand_114 rfl ?_
          refine aw_iload_n hC dX8_doCommand_116 rfl ?_
          refine aw_bind rfl (fun q8 hq8 => ?_)
          refine aw_cVb hC dX8_doCommand_117 cv_RX8_425 rfl rm_6_0_0 (am_some (inj := (fun r => (.inr (some (.int (b2i r.1))), r.2))) hq8 (A_X8_doPrefer _ (hC.2.2.2.2.2.2.2.2.2.2.2.2.1) _ _ _ q6 q4 h)) rfl rfl rfl rfl rfl ⟨rfl, rfl⟩ ?_
          refine aw_if_eq_b hC dX8_doCommand_120 (tgt := 127) (by decide) ?_ ?_
          · refine aw_iconst hC dX8_doCommand_127 (v := 0) (by decide) ?_
            exact aw_zret hC dX8_doCommand_128 rfl (show _ = b2i false from rfl) rfl
          · refine aw_iconst hC dX8_doCommand_123 (v := 1) (by decide) ?_
            refine aw_goto hC dX8_doCommand_124 (tgt := 128) (by decide) ?_
            exact aw_zret hC dX8_doCommand_128 rfl (show _ = b2i true from rfl) rfl
    refine aw_tabIn hC dX8_doCommand_49 2 (by decide) (by decide) (off := 80) rfl (tgt := 129) (by decide) ?_ (fun n11 => ?_)
    · refine aw_iload hC dX8_doCommand_129 rfl ?_
      refine aw_iconst hC dX8_doCommand_131 (v := -1) (by decide) ?_
      refine aw_icmp_eq hC dX8_doCommand_132 (tgt := 148) (by decide) ?_ ?_
      · refine aw_iconst hC dX8_doCommand_148 (v := 0) (by decide) ?_
        exact aw_zret hC dX8_doCommand_149 rfl (show _ = b2i false from rfl) rfl
      · refine aw_aload_n hC dX8_doCommand_135 rfl ?_
        refine aw_iload hC dX8_doCommand_136 rfl ?_
        refine aw_bind rfl (fun q10 hq10 => ?_)
        refine aw_cVb hC dX8_doCommand_138 cv_RX8_428 rfl rm_6_0_0 (am_some (inj := (fun r => (.inr (some (.int (b2i r.1))), r.2))) hq10 (A_X8_doSwap _ (hC.2.2.2.2.2.2.2.2.2.2.2.2.1) _ _ _ q6 h)) rfl rfl rfl rfl rfl ⟨rfl, rfl⟩ ?_
        refine aw_if_eq_b hC dX8_doCommand_141 (tgt := 148) (by decide) ?_ ?_
        · refine aw_iconst hC dX8_doCommand_148 (v := 0) (by decide) ?_
          exact aw_zret hC dX8_doCommand_149 rfl (show _ = b2i false from rfl) rfl
        · refine aw_iconst hC dX8_doCommand_144 (v := 1) (by decide) ?_
          refine aw_goto hC dX8_doCommand_145 (tgt := 149) (by decide) ?_
          exact aw_zret hC dX8_doCommand_149 rfl (show _ = b2i true from rfl) rfl
    refine aw_tabIn hC dX8_doCommand_49 3 (by decide) (by decide) (off := 101) rfl (tgt := 150) (by decide) ?_ (fun n13 => ?_)
    · refine aw_iload_n hC dX8_doCommand_150 rfl ?_
      refine aw_cSb hC dX8_doCommand_151 cv_RX8_435 (A_X8_isTurn _ (hC.2.2.2.2.2.2.2.2.2.2.2.2.1) _ _ _ q4 h) rfl rfl rfl rfl rfl ⟨rfl, rfl⟩ ?_
      refine aw_if_eq_b hC dX8_doCommand_154 (tgt := 169) (by decide) ?_ ?_
      · refine aw_iconst hC dX8_doCommand_169 (v := 0) (by decide) ?_
        exact aw_zret hC dX8_doCommand_170 rfl (show _ = b2i false from rfl) rfl
      · refine aw_aload_n hC dX8_doCommand_157 rfl ?_
        refine aw_iload_n hC dX8_doCommand_158 rfl ?_
        refine aw_bind rfl (fun q12 hq12 => ?_)
        refine aw_cVb hC dX8_doCommand_159 cv_RX8_440 rfl rm_6_0_0 (am_some (inj := (fun r => (.inr (some (.int (b2i r.1))), r.2))) hq12 (A_X8_doTurn _ (hC.2.2.2.2.2.2.2.2.2.2.2.2.1) _ _ _ q4 h)) rfl rfl rfl rfl rfl ⟨rfl, rfl⟩ ?_
        refine aw_if_eq_b hC dX8_doCommand_162 (tgt := 169) (by decide) ?_ ?_
        · refine aw_iconst hC dX8_doCommand_169 (v := 0) (by decide) ?_
          exact aw_zret hC dX8_doCommand_170 rfl (show _ = b2i false from rfl) rfl
        · refine aw_iconst hC dX8_doCommand_165 (v := 1) (by decide) ?_
          refine aw_goto hC dX8_doCommand_166 (tgt := 170) (by decide) ?_
          exact aw_zret hC dX8_doCommand_170 rfl (show _ = b2i true from rfl) rfl
    refine aw_tabIn hC dX8_doCommand_49 4 (by decide) (by decide) (off := 122) rfl (tgt := 171) (by decide) ?_ (fun n15 => ?_)
    · refine aw_iload_n hC dX8_doCommand_171 rfl ?_
      refine aw_cSb hC dX8_doCommand_172 cv_RX8_346 (A_X8_isBack _ (hC.2.2.2.2.2.2.2.2.2.2.2.2.1) _ _ _ q4 h) rfl rfl rfl rfl rfl ⟨rfl, rfl⟩ ?_
      refine aw_if_eq_b hC dX8_doCommand_175 (tgt := 190) (by decide) ?_ ?_
      · refine aw_iconst hC dX8_doCommand_190 (v := 0) (by decide) ?_
        exact aw_zret hC dX8_doCommand_191 rfl (show _ = b2i false from rfl) rfl
      · refine aw_aload_n hC dX8_doCommand_178 rfl ?_
        refine aw_iload_n hC dX8_doCommand_179 rfl ?_
        refine aw_bind rfl (fun q14 hq14 => ?_)
        refine aw_cVb hC dX8_doCommand_180 cv_RX8_443 rfl rm_6_0_0 (am_some (inj := (fun r => (.inr (some (.int (b2i r.1))), r.2))) hq14 (A_X8_doSetBack _ (hC.2.2.2.2.2.2.2.2.2.2.2.2.1) _ _ _ q4 h)) rfl rfl rfl rfl rfl ⟨rfl, rfl⟩ ?_
        refine aw_if_eq_b hC dX8_doCommand_183 (tgt := 190) (by decide) ?_ ?_
        · refine aw_iconst hC dX8_doCommand_190 (v := 0) (by decide) ?_
          exact aw_zret hC dX8_doCommand_191 rfl (show _ = b2i false from rfl) rfl
        · refine aw_iconst hC dX8_doCommand_186 (v := 1) (by decide) ?_
          refine aw_goto hC dX8_doCommand_187 (tgt := 191) (by decide) ?_
          exact aw_zret hC dX8_doCommand_191 rfl (show _ = b2i true from rfl) rfl
    refine aw_tabIn hC dX8_doCommand_49 5 (by decide) (by decide) (off := 143) rfl (tgt := 192) (by decide) ?_ (fun n18 => ?_)
    · refine aw_aload_n hC dX8_doCommand_192 rfl ?_
      refine aw_iload_n hC dX8_doCommand_193 rfl ?_
      refine aw_cVb hC dX8_doCommand_194 cv_RX8_446 rfl rm_6_0_0 (A_X8_canComeTo _ (hC.2.2.2.2.2.2.2.2.2.2.2.2.1) _ _ _ q4 h) rfl rfl rfl rfl rfl ⟨rfl, rfl⟩ ?_
      refine aw_if_eq_b hC dX8_doCommand_197 (tgt := 220) (by decide) ?_ ?_
      · refine aw_iconst hC dX8_doCommand_220 (v := 0) (by decide) ?_
        exact aw_zret hC dX8_doCommand_221 rfl (show _ = b2i false from rfl) rfl
      · refine aw_aload_n hC dX8_doCommand_200 rfl ?_
        refine aw_aload_n hC dX8_doCommand_201 rfl ?_
        refine aw_gfR hC dX8_doCommand_202 fg_RX8_35 rfl rfl rm_6_0_0 ?_
        refine aw_iload_n hC dX8_doCommand_205 rfl ?_
        refine aw_bind rfl (fun q16 hq16 => ?_)
        refine aw_cVj hC dX8_doCommand_206 cv_RX8_500 rfl rm_3_0_0 (am_some (inj := (fun r => (.inr (some (.long r)), h))) hq16 (A_X5_nameAt _ (hC.2.2.2.2.2.2.2.2.2.2.2.2.1) _ _ _ p1 h)) rfl rfl rfl rfl rfl ⟨rfl, rfl⟩ ?_
        refine aw_iload_n hC dX8_doCommand_209 rfl ?_
        refine aw_bind rfl (fun q17 hq17 => ?_)
        refine aw_cVb hC dX8_doCommand_210 cv_RX8_454 rfl rm_6_0_0 (am_some (inj := (fun r => (.inr (some (.int (b2i r.1))), r.2))) hq17 (A_X8_doCome _ (hC.2.2.2.2.2.2.2.2.2.2.2.2.1) _ _ _ q16 q4 h)) rfl rfl rfl rfl rfl ⟨rfl, rfl⟩ ?_
        refine aw_if_eq_b hC dX8_doCommand_213 (tgt := 220) (by decide) ?_ ?_
        · refine aw_iconst hC dX8_doCommand_220 (v := 0) (by decide) ?_
          exact aw_zret hC dX8_doCommand_221 rfl (show _ = b2i false from rfl) rfl
        · refine aw_iconst hC dX8_doCommand_216 (v := 1) (by decide) ?_
          refine aw_goto hC dX8_doCommand_217 (tgt := 221) (by decide) ?_
          exact aw_zret hC dX8_doCommand_221 rfl (show _ = b2i true from rfl) rfl
    refine aw_tabIn hC dX8_doCommand_49 6 (by decide) (by decide) (off := 173) rfl (tgt := 222) (by decide) ?_ (fun n20 => ?_)
    · refine aw_iload hC dX8_doCommand_222 rfl ?_
      refine aw_iconst hC dX8_doCommand_224 (v := -1) (by decide) ?_
      refine aw_icmp_eq hC dX8_doCommand_225 (tgt := 241) (by decide) ?_ ?_
      · refine aw_iconst hC dX8_doCommand_241 (v := 0) (by decide) ?_
        exact aw_zret hC dX8_doCommand_242 rfl (show _ = b2i false from rfl) rfl
      · refine aw_aload_n hC dX8_doCommand_228 rfl ?_
        refine aw_iload hC dX8_doCommand_229 rfl ?_
        refine aw_bind rfl (fun q19 hq19 => ?_)
        refine aw_cVb hC dX8_doCommand_231 cv_RX8_458 rfl rm_6_0_0 (am_some (inj := (fun r => (.inr (some (.int (b2i r.1))), r.2))) hq19 (A_X8_doGo _ (hC.2.2.2.2.2.2.2.2.2.2.2.2.1) _ _ _ q6 h)) rfl rfl rfl rfl rfl ⟨rfl, rfl⟩ ?_
        refine aw_if_eq_b hC dX8_doCommand_234 (tgt := 241) (by decide) ?_ ?_
        · refine aw_iconst hC dX8_doCommand_241 (v := 0) (by decide) ?_
          exact aw_zret hC dX8_doCommand_242 rfl (show _ = b2i false from rfl) rfl
        · refine aw_iconst hC dX8_doCommand_237 (v := 1) (by decide) ?_
          refine aw_goto hC dX8_doCommand_238 (tgt := 242) (by decide) ?_
          exact aw_zret hC dX8_doCommand_242 rfl (show _ = b2i true from rfl) rfl
    refine aw_tabIn hC dX8_doCommand_49 7 (by decide) (by decide) (off := 194) rfl (tgt := 243) (by decide) ?_ (fun n22 => ?_)
    · refine aw_aload_n hC dX8_doCommand_243 rfl ?_
      refine aw_bind rfl (fun q21 hq21 => ?_)
      refine aw_cVi hC dX8_doCommand_244 cv_RX8_461 rfl rm_6_0_0 (am_some (inj := (fun r => (.inr (some (.int r.1)), r.2))) hq21 (A_X8_doSort _ (hC.2.2.2.2.2.2.2.2.2.2.2.2.1) _ _ _ h)) rfl rfl rfl rfl rfl ⟨rfl, rfl⟩ ?_
      refine aw_if_lt hC dX8_doCommand_247 (tgt := 254) (by decide) ?_ ?_
      · refine aw_iconst hC dX8_doCommand_254 (v := 0) (by decide) ?_
        exact aw_zret hC dX8_doCommand_255 rfl (show _ = b2i false from rfl) rfl
      · refine aw_iconst hC dX8_doCommand_250 (v := 1) (by decide) ?_
        refine aw_goto hC dX8_doCommand_251 (tgt := 255) (by decide) ?_
        exact aw_zret hC dX8_doCommand_255 rfl (show _ = b2i true from rfl) rfl
    refine aw_tabIn hC dX8_doCommand_49 8 (by decide) (by decide) (off := 207) rfl (tgt := 256) (by decide) ?_ (fun n24 => ?_)
    · refine aw_aload_n hC dX8_doCommand_256 rfl ?_
      refine aw_bind rfl (fun q23 hq23 => ?_)
      refine aw_cVb hC dX8_doCommand_257 cv_RX8_464 rfl rm_6_0_0 (am_some (inj := (fun r => (.inr (some (.int (b2i r.1))), r.2))) hq23 (A_X8_doReverse _ (hC.2.2.2.2.2.2.2.2.2.2.2.2.1) _ _ _ h)) rfl rfl rfl rfl rfl ⟨rfl, rfl⟩ ?_
      exact aw_zret hC dX8_doCommand_260 rfl (show _ = b2i q23.1 from rfl) rfl
    refine aw_tabOut hC dX8_doCommand_49 (tab_out1 8 rfl (fun z25 => (lt_s (lt_s (lt_s (lt_s (lt_s (lt_s (lt_s (lt_s (lt_s lt_0 z25) n9) n11) n13) n15) n18) n20) n22) n24))) (tgt := 261) (by decide) ?_
    refine aw_iconst hC dX8_doCommand_261 (v := 0) (by decide) ?_
    exact aw_zret hC dX8_doCommand_262 rfl (show _ = b2i false from rfl) rfl
set_option maxHeartbeats 4000000 in
set_option maxRecDepth 100000 in
theorem L_X8_doCommands_l1_6 (p1 : Int32) (p2 : Int32) (p3 : Int32) (hC : Cx p l e R s m args meth c D loc cy A cX8_doCommands 6 (some .boolean) RX8 5 164 0 0)  : ∀ (n6 : Nat) (x4 : Int32) (x5 : Int32) (h : HD), AW p l e R s m args below meth c D loc cy A 6 (QM below D loc cy A args s) (fun (r : Option (Bool × HD)) => r.map (fun r => (.inr (some (.int (b2i r.1))), r.2))) (0, 0) 6 [(0, .ref (loc (6, 0, 0))), (2, .int p2), (3, .int p3), (4, .int x4), (5, .int x5)] [] h (jX8_doCommands_l1_L6 p1 p2 p3 n6 x4 x5 h) := by
  intro n6
  induction n6 with
  | zero => intro x4 x5 h; exact aw_none rfl
  | succ n6 ih6 =>
    intro x4 x5 h
    rw [jX8_doCommands_l1_L6]
    refine aw_iload hC dX8_doCommands_6 rfl ?_
    refine aw_bipush hC dX8_doCommands_8 (v := 30) (by decide) ?_
    refine aw_icmp_ge hC dX8_doCommands_10 (tgt := 93) (by decide) ?_ ?_
    · refine aw_iconst hC dX8_doCommands_93 (v := 1) (by decide) ?_
      exact aw_zret hC dX8_doCommands_94 rfl (show _ = b2i true from rfl) rfl
    · refine aw_iload hC dX8_doCommands_13 rfl ?_
      refine aw_iload_n hC dX8_doCommands_15 rfl ?_
      refine aw_icmp_ge hC dX8_doCommands_16 (tgt := 93) (by decide) ?_ ?_
      · refine aw_iconst hC dX8_doCommands_93 (v := 1) (by decide) ?_
        exact aw_zret hC dX8_doCommands_94 rfl (show _ = b2i true from rfl) rfl
      · refine aw_aload_n hC dX8_doCommands_19 rfl ?_
        refine aw_gfR hC dX8_doCommands_20 fg_RX8_35 rfl rfl rm_6_0_0 ?_
        refine aw_iload hC dX8_doCommands_23 rfl ?_
        refine aw_bind rfl (fun q1 hq1 => ?_)
        refine aw_cVo hC dX8_doCommands_25 cv_RX8_480 rfl rm_3_0_0 (am_some (inj := (fun r => (.inr (some (cmv loc r)), h))) hq1 (A_X5_commandAt _ (hC.2.2.2.2.2.2.2.2.2.2.2.2.1) _ _ _ x4 h)) rfl rfl rfl rfl rfl ⟨rfl, rfl⟩ ?_
        refine aw_oc ?_ (fun k2 => aw_guardP rfl (fun g3 => ?_))
        · refine aw_gsO hC dX8_doCommands_28 tw5_62 (st_rep (cx_st hC)) ?_
          refine aw_acmpneN hC dX8_doCommands_31 (tgt := 46) (by decide) ?_
          refine aw_aload_n hC dX8_doCommands_46 rfl ?_
          refine aw_gfI hC dX8_doCommands_47 fg_RX8_88 rfl rm_6_0_0 ?_
          refine aw_bipush hC dX8_doCommands_50 (v := 40) (by decide) ?_
          refine aw_icmp_ge hC dX8_doCommands_52 (tgt := 64) (by decide) ?_ ?_
          · refine aw_iconst hC dX8_doCommands_64 (v := 0) (by decide) ?_
            exact aw_zret hC dX8_doCommands_65 rfl (show _ = b2i false from rfl) rfl
          · refine aw_aload_n hC dX8_doCommands_55 rfl ?_
            refine aw_iload hC dX8_doCommands_56 rfl ?_
            refine aw_bind rfl (fun q4 hq4 => ?_)
            refine aw_cVb hC dX8_doCommands_58 cv_RX8_493 rfl rm_6_0_0 (am_some (inj := (fun r => (.inr (some (.int (b2i r.1))), r.2))) hq4 (A_X8_doCommand _ (hC.2.2.2.2.2.2.2.2.2.2.2.2.1) _ _ _ x4 h)) rfl rfl rfl rfl rfl ⟨rfl, rfl⟩ ?_
            refine aw_if_ne_b hC dX8_doCommands_61 (tgt := 66) (by decide) ?_ ?_
            · refine aw_aload_n hC dX8_doCommands_66 rfl ?_
              refine aw_dup hC dX8_doCommands_67 rfl ?_
              refine aw_gfI hC dX8_doCommands_68 fg_RX8_88 rfl rm_6_0_0 ?_
              refine aw_iconst hC dX8_doCommands_71 (v := 1) (by decide) ?_
              refine aw_iadd hC dX8_doCommands_72 ?_
              refine aw_pfI hC dX8_doCommands_73 fg_RX8_88 fp_6_15 rfl rm_6_0_0 (fun h5 => ?_)
              refine aw_aload_n hC dX8_doCommands_76 rfl ?_
              refine aw_gfR hC dX8_doCommands_77 fg_RX8_35 rfl rfl rm_6_0_0 ?_
              refine aw_iload hC dX8_doCommands_80 rfl ?_
              refine aw_bind rfl (fun q6 hq6 => ?_)
              refine aw_cVi hC dX8_doCommands_82 cv_RX8_496 rfl rm_3_0_0 (am_some (inj := (fun r => (.inr (some (.int r)), h5))) hq6 (A_X5_behind _ (hC.2.2.2.2.2.2.2.2.2.2.2.2.1) _ _ _ x4 h5)) rfl rfl rfl rfl rfl ⟨rfl, rfl⟩ ?_
              refine aw_istore hC dX8_doCommands_85 (by decide) ?_
              refine aw_iinc hC dX8_doCommands_87 rfl (v := x5 + 1) (by first | rfl | decide) (by decide) ?_
              refine aw_goto hC dX8_doCommands_90 (tgt := 6) (by decide) ?_
              refine aw_sub [0, 2, 3, 4, 5] ?_
              exact ih6 q6 (x5 + 1) h5
            · refine aw_iconst hC dX8_doCommands_64 (v := 0) (by decide) ?_
              exact aw_zret hC dX8_doCommands_65 rfl (show _ = b2i false from rfl) rfl
        · refine aw_gsO hC dX8_doCommands_28 tw5_62 (st_rep (cx_st hC)) ?_
          refine aw_acmpne hC dX8_doCommands_31 (tgt := 46) (by decide) g3 (by decide) ?_ ?_
          · refine aw_aload_n hC dX8_doCommands_46 rfl ?_
            refine aw_gfI hC dX8_doCommands_47 fg_RX8_88 rfl rm_6_0_0 ?_
            refine aw_bipush hC dX8_doCommands_50 (v := 40) (by decide) ?_
            refine aw_icmp_ge hC dX8_doCommands_52 (tgt := 64) (by decide) ?_ ?_
            · refine aw_iconst hC dX8_doCommands_64 (v := 0) (by decide) ?_
              exact aw_zret hC dX8_doCommands_65 rfl (show _ = b2i false from rfl) rfl
            · refine aw_aload_n hC dX8_doCommands_55 rfl ?_
              refine aw_iload hC dX8_doCommands_56 rfl ?_
              refine aw_bind rfl (fun q7 hq7 => ?_)
              refine aw_cVb hC dX8_doCommands_58 cv_RX8_493 rfl rm_6_0_0 (am_some (inj := (fun r => (.inr (some (.int (b2i r.1))), r.2))) hq7 (A_X8_doCommand _ (hC.2.2.2.2.2.2.2.2.2.2.2.2.1) _ _ _ x4 h)) rfl rfl rfl rfl rfl ⟨rfl, rfl⟩ ?_
              refine aw_if_ne_b hC dX8_doCommands_61 (tgt := 66) (by decide) ?_ ?_
              · refine aw_aload_n hC dX8_doCommands_66 rfl ?_
                refine aw_dup hC dX8_doCommands_67 rfl ?_
                refine aw_gfI hC dX8_doCommands_68 fg_RX8_88 rfl rm_6_0_0 ?_
                refine aw_iconst hC dX8_doCommands_71 (v := 1) (by decide) ?_
                refine aw_iadd hC dX8_doCommands_72 ?_
                refine aw_pfI hC dX8_doCommands_73 fg_RX8_88 fp_6_15 rfl rm_6_0_0 (fun h8 => ?_)
                refine aw_aload_n hC dX8_doCommands_76 rfl ?_
                refine aw_gfR hC dX8_doCommands_77 fg_RX8_35 rfl rfl rm_6_0_0 ?_
                refine aw_iload hC dX8_doCommands_80 rfl ?_
                refine aw_bind rfl (fun q9 hq9 => ?_)
                refine aw_cVi hC dX8_doCommands_82 cv_RX8_496 rfl rm_3_0_0 (am_some (inj := (fun r => (.inr (some (.int r)), h8))) hq9 (A_X5_behind _ (hC.2.2.2.2.2.2.2.2.2.2.2.2.1) _ _ _ x4 h8)) rfl rfl rfl rfl rfl ⟨rfl, rfl⟩ ?_
                refine aw_istore hC dX8_doCommands_85 (by decide) ?_
                refine aw_iinc hC dX8_doCommands_87 rfl (v := x5 + 1) (by first | rfl | decide) (by decide) ?_
                refine aw_goto hC dX8_doCommands_90 (tgt := 6) (by decide) ?_
                refine aw_sub [0, 2, 3, 4, 5] ?_
                exact ih6 q9 (x5 + 1) h8
              · refine aw_iconst hC dX8_doCommands_64 (v := 0) (by decide) ?_
                exact aw_zret hC dX8_doCommands_65 rfl (show _ = b2i false from rfl) rfl
          · refine aw_aload_n hC dX8_doCommands_34 rfl ?_
            refine aw_iload hC dX8_doCommands_35 rfl ?_
            refine aw_iload_n hC dX8_doCommands_37 rfl ?_
            refine aw_bind rfl (fun q10 hq10 => ?_)
            refine aw_cVb hC dX8_doCommands_38 cv_RX8_490 rfl rm_6_0_0 (am_some (inj := (fun r => (.inr (some (.int (b2i r))), h))) hq10 (A_X8_doRepeat_l1 _ (hC.2.2.2.2.2.2.2.2.2.2.2.2.1) _ _ _ x4 p3 h)) rfl rfl rfl rfl rfl ⟨rfl, rfl⟩ ?_
            refine aw_if_ne_b hC dX8_doCommands_41 (tgt := 76) (by decide) ?_ ?_
            · refine aw_aload_n hC dX8_doCommands_76 rfl ?_
              refine aw_gfR hC dX8_doCommands_77 fg_RX8_35 rfl rfl rm_6_0_0 ?_
              refine aw_iload hC dX8_doCommands_80 rfl ?_
              refine aw_bind rfl (fun q11 hq11 => ?_)
              refine aw_cVi hC dX8_doCommands_82 cv_RX8_496 rfl rm_3_0_0 (am_some (inj := (fun r => (.inr (some (.int r)), h))) hq11 (A_X5_behind _ (hC.2.2.2.2.2.2.2.2.2.2.2.2.1) _ _ _ x4 h)) rfl rfl rfl rfl rfl ⟨rfl, rfl⟩ ?_
              refine aw_istore hC dX8_doCommands_85 (by decide) ?_
              refine aw_iinc hC dX8_doCommands_87 rfl (v := x5 + 1) (by first | rfl | decide) (by decide) ?_
              refine aw_goto hC dX8_doCommands_90 (tgt := 6) (by decide) ?_
              refine aw_sub [0, 2, 3, 4, 5] ?_
              exact ih6 q11 (x5 + 1) h
            · refine aw_iconst hC dX8_doCommands_44 (v := 0) (by decide) ?_
              exact aw_zret hC dX8_doCommands_45 rfl (show _ = b2i false from rfl) rfl
set_option maxHeartbeats 4000000 in
set_option maxRecDepth 100000 in
theorem A_X8_doCommands_l1 (l : Launch) (hl0 : l.stackTraces = false) (D : va_G) (loc : Rf → Nat) (cy : Nat → ClassId) (p1 : Int32) (p2 : Int32) (p3 : Int32) (h : HD) : AM l D loc cy yX8_doCommands cX8_doCommands 6 (some .boolean) 5 164 [.ref (loc (6, 0, 0)), .int p1, .int p2, .int p3] h ((jX8_doCommands_l1 p1 p2 p3 h).map (fun r => (.inr (some (.int (b2i r.1))), r.2))) := by
  refine am_start (y := yX8_doCommands) (av := [.ref (loc (6, 0, 0)), .int p1, .int p2, .int p3]) (nL := 6) (h := h) (RF := fun (r : Option (Bool × HD)) => r.map (fun r => (.inr (some (.int (b2i r.1))), r.2))) (x := jX8_doCommands_l1 p1 p2 p3 h) hl0 (by decide +kernel) rfl ?_
  intro p e R s m below meth c A hC
  unfold jX8_doCommands_l1
  refine aw_iload_n hC dX8_doCommands_0 rfl ?_
  refine aw_istore hC dX8_doCommands_1 (by decide) ?_
  refine aw_iconst hC dX8_doCommands_3 (v := 0) (by decide) ?_
  refine aw_istore hC dX8_doCommands_4 (by decide) ?_
  refine aw_sub [0, 2, 3, 4, 5] ?_
  exact L_X8_doCommands_l1_6 p1 p2 p3  hC FU p1 (0 : Int32) h
set_option maxHeartbeats 4000000 in
set_option maxRecDepth 100000 in
theorem L_X8_doRepeat_l2_16 (p1 : Int32) (p2 : Int32) (hC : Cx p l e R s m args meth c D loc cy A cX8_doRepeat 4 (some .boolean) RX8 6 189 0 0)  : ∀ (n16 : Nat) (x3 : Int32) (h : HD), AW p l e R s m args below meth c D loc cy A 4 (QM below D loc cy A args s) (fun (r : Option (Bool × HD)) => r.map (fun r => (.inr (some (.int (b2i r.1))), r.2))) (0, 0) 16 [(0, .ref (loc (6, 0, 0))), (1, .int p1), (2, .int p2), (3, .int x3)] [] h (jX8_doRepeat_l2_L16 p1 p2 n16 x3 h) := by
  intro n16
  induction n16 with
  | zero => intro x3 h; exact aw_none rfl
  | succ n16 ih16 =>
    intro x3 h
    rw [jX8_doRepeat_l2_L16]
    refine aw_iload_n hC dX8_doRepeat_16 rfl ?_
    refine aw_if_le hC dX8_doRepeat_17 (tgt := 49) (by decide) ?_ ?_
    · refine aw_iconst hC dX8_doRepeat_49 (v := 1) (by decide) ?_
      exact aw_zret hC dX8_doRepeat_50 rfl (show _ = b2i true from rfl) rfl
    · refine aw_aload_n hC dX8_doRepeat_20 rfl ?_
      refine aw_iload_n hC dX8_doRepeat_21 rfl ?_
      refine aw_iconst hC dX8_doRepeat_22 (v := 1) (by decide) ?_
      refine aw_iadd hC dX8_doRepeat_23 ?_
      refine aw_aload_n hC dX8_doRepeat_24 rfl ?_
      refine aw_gfR hC dX8_doRepeat_25 fg_RX8_35 rfl rfl rm_6_0_0 ?_
      refine aw_iload_n hC dX8_doRepeat_28 rfl ?_
      refine aw_bind rfl (fun q2 hq2 => ?_)
      refine aw_cVi hC dX8_doRepeat_29 cv_RX8_496 rfl rm_3_0_0 (am_some (inj := (fun r => (.inr (some (.int r)), h))) hq2 (A_X5_behind _ (hC.2.2.2.2.2.2.2.2.2.2.2.2.1) _ _ _ p1 h)) rfl rfl rfl rfl rfl ⟨rfl, rfl⟩ ?_
      refine aw_iload_n hC dX8_doRepeat_32 rfl ?_
      refine aw_iconst hC dX8_doRepeat_33 (v := 1) (by decide) ?_
      refine aw_iadd hC dX8_doRepeat_34 ?_
      refine aw_bind rfl (fun q3 hq3 => ?_)
      refine aw_cVb hC dX8_doRepeat_35 cv_RX8_151 rfl rm_6_0_0 (am_some (inj := (fun r => (.inr (some (.int (b2i r.1))), r.2))) hq3 (A_X8_doCommands_l1 _ (hC.2.2.2.2.2.2.2.2.2.2.2.2.1) _ _ _ (p1 + (1 : Int32)) q2 (p2 + (1 : Int32)) h)) rfl rfl rfl rfl rfl ⟨rfl, rfl⟩ ?_
      refine aw_if_ne_b hC dX8_doRepeat_38 (tgt := 43) (by decide) ?_ ?_
      · refine aw_iinc hC dX8_doRepeat_43 rfl (v := x3 + (-1)) (by first | rfl | decide) (by decide) ?_
        refine aw_goto hC dX8_doRepeat_46 (tgt := 16) (by decide) ?_
        refine aw_sub [0, 1, 2, 3] ?_
        exact ih16 (x3 + (-1)) q3.2
      · refine aw_iconst hC dX8_doRepeat_41 (v := 0) (by decide) ?_
        exact aw_zret hC dX8_doRepeat_42 rfl (show _ = b2i false from rfl) rfl
set_option maxHeartbeats 4000000 in
set_option maxRecDepth 100000 in
theorem A_X8_doRepeat_l2 (l : Launch) (hl0 : l.stackTraces = false) (D : va_G) (loc : Rf → Nat) (cy : Nat → ClassId) (p1 : Int32) (p2 : Int32) (h : HD) : AM l D loc cy yX8_doRepeat cX8_doRepeat 4 (some .boolean) 6 189 [.ref (loc (6, 0, 0)), .int p1, .int p2] h ((jX8_doRepeat_l2 p1 p2 h).map (fun r => (.inr (some (.int (b2i r.1))), r.2))) := by
  refine am_start (y := yX8_doRepeat) (av := [.ref (loc (6, 0, 0)), .int p1, .int p2]) (nL := 4) (h := h) (RF := fun (r : Option (Bool × HD)) => r.map (fun r => (.inr (some (.int (b2i r.1))), r.2))) (x := jX8_doRepeat_l2 p1 p2 h) hl0 (by decide +kernel) rfl ?_
  intro p e R s m below meth c A hC
  unfold jX8_doRepeat_l2
  refine aw_iload_n hC dX8_doRepeat_0 rfl ?_
  refine aw_iconst hC dX8_doRepeat_1 (v := 2) (by decide) ?_
  refine aw_icmp_lt hC dX8_doRepeat_2 (tgt := 7) (by decide) ?_ ?_
  · refine aw_aload_n hC dX8_doRepeat_7 rfl ?_
    refine aw_gfR hC dX8_doRepeat_8 fg_RX8_35 rfl rfl rm_6_0_0 ?_
    refine aw_iload_n hC dX8_doRepeat_11 rfl ?_
    refine aw_bind rfl (fun q1 hq1 => ?_)
    refine aw_cVi hC dX8_doRepeat_12 cv_RX8_499 rfl rm_3_0_0 (am_some (inj := (fun r => (.inr (some (.int r)), h))) hq1 (A_X5_numberAt _ (hC.2.2.2.2.2.2.2.2.2.2.2.2.1) _ _ _ p1 h)) rfl rfl rfl rfl rfl ⟨rfl, rfl⟩ ?_
    refine aw_istore_n hC dX8_doRepeat_15 (by decide) ?_
    refine aw_sub [0, 1, 2, 3] ?_
    exact L_X8_doRepeat_l2_16 p1 p2  hC FU q1 h
  · refine aw_iconst hC dX8_doRepeat_5 (v := 0) (by decide) ?_
    exact aw_zret hC dX8_doRepeat_6 rfl (show _ = b2i false from rfl) rfl
set_option maxHeartbeats 4000000 in
set_option maxRecDepth 100000 in
theorem L_X8_doCommands_l2_6 (p1 : Int32) (p2 : Int32) (p3 : Int32) (hC : Cx p l e R s m args meth c D loc cy A cX8_doCommands 6 (some .boolean) RX8 7 212 0 0)  : ∀ (n6 : Nat) (x4 : Int32) (x5 : Int32) (h : HD), AW p l e R s m args below meth c D loc cy A 6 (QM below D loc cy A args s) (fun (r : Option (Bool × HD)) => r.map (fun r => (.inr (some (.int (b2i r.1))), r.2))) (0, 0) 6 [(0, .ref (loc (6, 0, 0))), (2, .int p2), (3, .int p3), (4, .int x4), (5, .int x5)] [] h (jX8_doCommands_l2_L6 p1 p2 p3 n6 x4 x5 h) := by
  intro n6
  induction n6 with
  | zero => intro x4 x5 h; exact aw_none rfl
  | succ n6 ih6 =>
    intro x4 x5 h
    rw [jX8_doCommands_l2_L6]
    refine aw_iload hC dX8_doCommands_6 rfl ?_
    refine aw_bipush hC dX8_doCommands_8 (v := 30) (by decide) ?_
    refine aw_icmp_ge hC dX8_doCommands_10 (tgt := 93) (by decide) ?_ ?_
    · refine aw_iconst hC dX8_doCommands_93 (v := 1) (by decide) ?_
      exact aw_zret hC dX8_doCommands_94 rfl (show _ = b2i true from rfl) rfl
    · refine aw_iload hC dX8_doCommands_13 rfl ?_
      refine aw_iload_n hC dX8_doCommands_15 rfl ?_
      refine aw_icmp_ge hC dX8_doCommands_16 (tgt := 93) (by decide) ?_ ?_
      · refine aw_iconst hC dX8_doCommands_93 (v := 1) (by decide) ?_
        exact aw_zret hC dX8_doCommands_94 rfl (show _ = b2i true from rfl) rfl
      · refine aw_aload_n hC dX8_doCommands_19 rfl ?_
        refine aw_gfR hC dX8_doCommands_20 fg_RX8_35 rfl rfl rm_6_0_0 ?_
        refine aw_iload hC dX8_doCommands_23 rfl ?_
        refine aw_bind rfl (fun q1 hq1 => ?_)
        refine aw_cVo hC dX8_doCommands_25 cv_RX8_480 rfl rm_3_0_0 (am_some (inj := (fun r => (.inr (some (cmv loc r)), h))) hq1 (A_X5_commandAt _ (hC.2.2.2.2.2.2.2.2.2.2.2.2.1) _ _ _ x4 h)) rfl rfl rfl rfl rfl ⟨rfl, rfl⟩ ?_
        refine aw_oc ?_ (fun k2 => aw_guardP rfl (fun g3 => ?_))
        · refine aw_gsO hC dX8_doCommands_28 tw5_62 (st_rep (cx_st hC)) ?_
          refine aw_acmpneN hC dX8_doCommands_31 (tgt := 46) (by decide) ?_
          refine aw_aload_n hC dX8_doCommands_46 rfl ?_
          refine aw_gfI hC dX8_doCommands_47 fg_RX8_88 rfl rm_6_0_0 ?_
          refine aw_bipush hC dX8_doCommands_50 (v := 40) (by decide) ?_
          refine aw_icmp_ge hC dX8_doCommands_52 (tgt := 64) (by decide) ?_ ?_
          · refine aw_iconst hC dX8_doCommands_64 (v := 0) (by decide) ?_
            exact aw_zret hC dX8_doCommands_65 rfl (show _ = b2i false from rfl) rfl
          · refine aw_aload_n hC dX8_doCommands_55 rfl ?_
            refine aw_iload hC dX8_doCommands_56 rfl ?_
            refine aw_bind rfl (fun q4 hq4 => ?_)
            refine aw_cVb hC dX8_doCommands_58 cv_RX8_493 rfl rm_6_0_0 (am_some (inj := (fun r => (.inr (some (.int (b2i r.1))), r.2))) hq4 (A_X8_doCommand _ (hC.2.2.2.2.2.2.2.2.2.2.2.2.1) _ _ _ x4 h)) rfl rfl rfl rfl rfl ⟨rfl, rfl⟩ ?_
            refine aw_if_ne_b hC dX8_doCommands_61 (tgt := 66) (by decide) ?_ ?_
            · refine aw_aload_n hC dX8_doCommands_66 rfl ?_
              refine aw_dup hC dX8_doCommands_67 rfl ?_
              refine aw_gfI hC dX8_doCommands_68 fg_RX8_88 rfl rm_6_0_0 ?_
              refine aw_iconst hC dX8_doCommands_71 (v := 1) (by decide) ?_
              refine aw_iadd hC dX8_doCommands_72 ?_
              refine aw_pfI hC dX8_doCommands_73 fg_RX8_88 fp_6_15 rfl rm_6_0_0 (fun h5 => ?_)
              refine aw_aload_n hC dX8_doCommands_76 rfl ?_
              refine aw_gfR hC dX8_doCommands_77 fg_RX8_35 rfl rfl rm_6_0_0 ?_
              refine aw_iload hC dX8_doCommands_80 rfl ?_
              refine aw_bind rfl (fun q6 hq6 => ?_)
              refine aw_cVi hC dX8_doCommands_82 cv_RX8_496 rfl rm_3_0_0 (am_some (inj := (fun r => (.inr (some (.int r)), h5))) hq6 (A_X5_behind _ (hC.2.2.2.2.2.2.2.2.2.2.2.2.1) _ _ _ x4 h5)) rfl rfl rfl rfl rfl ⟨rfl, rfl⟩ ?_
              refine aw_istore hC dX8_doCommands_85 (by decide) ?_
              refine aw_iinc hC dX8_doCommands_87 rfl (v := x5 + 1) (by first | rfl | decide) (by decide) ?_
              refine aw_goto hC dX8_doCommands_90 (tgt := 6) (by decide) ?_
              refine aw_sub [0, 2, 3, 4, 5] ?_
              exact ih6 q6 (x5 + 1) h5
            · refine aw_iconst hC dX8_doCommands_64 (v := 0) (by decide) ?_
              exact aw_zret hC dX8_doCommands_65 rfl (show _ = b2i false from rfl) rfl
        · refine aw_gsO hC dX8_doCommands_28 tw5_62 (st_rep (cx_st hC)) ?_
          refine aw_acmpne hC dX8_doCommands_31 (tgt := 46) (by decide) g3 (by decide) ?_ ?_
          · refine aw_aload_n hC dX8_doCommands_46 rfl ?_
            refine aw_gfI hC dX8_doCommands_47 fg_RX8_88 rfl rm_6_0_0 ?_
            refine aw_bipush hC dX8_doCommands_50 (v := 40) (by decide) ?_
            refine aw_icmp_ge hC dX8_doCommands_52 (tgt := 64) (by decide) ?_ ?_
            · refine aw_iconst hC dX8_doCommands_64 (v := 0) (by decide) ?_
              exact aw_zret hC dX8_doCommands_65 rfl (show _ = b2i false from rfl) rfl
            · refine aw_aload_n hC dX8_doCommands_55 rfl ?_
              refine aw_iload hC dX8_doCommands_56 rfl ?_
              refine aw_bind rfl (fun q7 hq7 => ?_)
              refine aw_cVb hC dX8_doCommands_58 cv_RX8_493 rfl rm_6_0_0 (am_some (inj := (fun r => (.inr (some (.int (b2i r.1))), r.2))) hq7 (A_X8_doCommand _ (hC.2.2.2.2.2.2.2.2.2.2.2.2.1) _ _ _ x4 h)) rfl rfl rfl rfl rfl ⟨rfl, rfl⟩ ?_
              refine aw_if_ne_b hC dX8_doCommands_61 (tgt := 66) (by decide) ?_ ?_
              · refine aw_aload_n hC dX8_doCommands_66 rfl ?_
                refine aw_dup hC dX8_doCommands_67 rfl ?_
                refine aw_gfI hC dX8_doCommands_68 fg_RX8_88 rfl rm_6_0_0 ?_
                refine aw_iconst hC dX8_doCommands_71 (v := 1) (by decide) ?_
                refine aw_iadd hC dX8_doCommands_72 ?_
                refine aw_pfI hC dX8_doCommands_73 fg_RX8_88 fp_6_15 rfl rm_6_0_0 (fun h8 => ?_)
                refine aw_aload_n hC dX8_doCommands_76 rfl ?_
                refine aw_gfR hC dX8_doCommands_77 fg_RX8_35 rfl rfl rm_6_0_0 ?_
                refine aw_iload hC dX8_doCommands_80 rfl ?_
                refine aw_bind rfl (fun q9 hq9 => ?_)
                refine aw_cVi hC dX8_doCommands_82 cv_RX8_496 rfl rm_3_0_0 (am_some (inj := (fun r => (.inr (some (.int r)), h8))) hq9 (A_X5_behind _ (hC.2.2.2.2.2.2.2.2.2.2.2.2.1) _ _ _ x4 h8)) rfl rfl rfl rfl rfl ⟨rfl, rfl⟩ ?_
                refine aw_istore hC dX8_doCommands_85 (by decide) ?_
                refine aw_iinc hC dX8_doCommands_87 rfl (v := x5 + 1) (by first | rfl | decide) (by decide) ?_
                refine aw_goto hC dX8_doCommands_90 (tgt := 6) (by decide) ?_
                refine aw_sub [0, 2, 3, 4, 5] ?_
                exact ih6 q9 (x5 + 1) h8
              · refine aw_iconst hC dX8_doCommands_64 (v := 0) (by decide) ?_
                exact aw_zret hC dX8_doCommands_65 rfl (show _ = b2i false from rfl) rfl
          · refine aw_aload_n hC dX8_doCommands_34 rfl ?_
            refine aw_iload hC dX8_doCommands_35 rfl ?_
            refine aw_iload_n hC dX8_doCommands_37 rfl ?_
            refine aw_bind rfl (fun q10 hq10 => ?_)
            refine aw_cVb hC dX8_doCommands_38 cv_RX8_490 rfl rm_6_0_0 (am_some (inj := (fun r => (.inr (some (.int (b2i r.1))), r.2))) hq10 (A_X8_doRepeat_l2 _ (hC.2.2.2.2.2.2.2.2.2.2.2.2.1) _ _ _ x4 p3 h)) rfl rfl rfl rfl rfl ⟨rfl, rfl⟩ ?_
            refine aw_if_ne_b hC dX8_doCommands_41 (tgt := 76) (by decide) ?_ ?_
            · refine aw_aload_n hC dX8_doCommands_76 rfl ?_
              refine aw_gfR hC dX8_doCommands_77 fg_RX8_35 rfl rfl rm_6_0_0 ?_
              refine aw_iload hC dX8_doCommands_80 rfl ?_
              refine aw_bind rfl (fun q11 hq11 => ?_)
              refine aw_cVi hC dX8_doCommands_82 cv_RX8_496 rfl rm_3_0_0 (am_some (inj := (fun r => (.inr (some (.int r)), q10.2))) hq11 (A_X5_behind _ (hC.2.2.2.2.2.2.2.2.2.2.2.2.1) _ _ _ x4 q10.2)) rfl rfl rfl rfl rfl ⟨rfl, rfl⟩ ?_
              refine aw_istore hC dX8_doCommands_85 (by decide) ?_
              refine aw_iinc hC dX8_doCommands_87 rfl (v := x5 + 1) (by first | rfl | decide) (by decide) ?_
              refine aw_goto hC dX8_doCommands_90 (tgt := 6) (by decide) ?_
              refine aw_sub [0, 2, 3, 4, 5] ?_
              exact ih6 q11 (x5 + 1) q10.2
            · refine aw_iconst hC dX8_doCommands_44 (v := 0) (by decide) ?_
              exact aw_zret hC dX8_doCommands_45 rfl (show _ = b2i false from rfl) rfl
set_option maxHeartbeats 4000000 in
set_option maxRecDepth 100000 in
theorem A_X8_doCommands_l2 (l : Launch) (hl0 : l.stackTraces = false) (D : va_G) (loc : Rf → Nat) (cy : Nat → ClassId) (p1 : Int32) (p2 : Int32) (p3 : Int32) (h : HD) : AM l D loc cy yX8_doCommands cX8_doCommands 6 (some .boolean) 7 212 [.ref (loc (6, 0, 0)), .int p1, .int p2, .int p3] h ((jX8_doCommands_l2 p1 p2 p3 h).map (fun r => (.inr (some (.int (b2i r.1))), r.2))) := by
  refine am_start (y := yX8_doCommands) (av := [.ref (loc (6, 0, 0)), .int p1, .int p2, .int p3]) (nL := 6) (h := h) (RF := fun (r : Option (Bool × HD)) => r.map (fun r => (.inr (some (.int (b2i r.1))), r.2))) (x := jX8_doCommands_l2 p1 p2 p3 h) hl0 (by decide +kernel) rfl ?_
  intro p e R s m below meth c A hC
  unfold jX8_doCommands_l2
  refine aw_iload_n hC dX8_doCommands_0 rfl ?_
  refine aw_istore hC dX8_doCommands_1 (by decide) ?_
  refine aw_iconst hC dX8_doCommands_3 (v := 0) (by decide) ?_
  refine aw_istore hC dX8_doCommands_4 (by decide) ?_
  refine aw_sub [0, 2, 3, 4, 5] ?_
  exact L_X8_doCommands_l2_6 p1 p2 p3  hC FU p1 (0 : Int32) h
set_option maxHeartbeats 4000000 in
set_option maxRecDepth 100000 in
theorem L_X8_doRepeat_l3_16 (p1 : Int32) (p2 : Int32) (hC : Cx p l e R s m args meth c D loc cy A cX8_doRepeat 4 (some .boolean) RX8 8 237 0 0)  : ∀ (n16 : Nat) (x3 : Int32) (h : HD), AW p l e R s m args below meth c D loc cy A 4 (QM below D loc cy A args s) (fun (r : Option (Bool × HD)) => r.map (fun r => (.inr (some (.int (b2i r.1))), r.2))) (0, 0) 16 [(0, .ref (loc (6, 0, 0))), (1, .int p1), (2, .int p2), (3, .int x3)] [] h (jX8_doRepeat_l3_L16 p1 p2 n16 x3 h) := by
  intro n16
  induction n16 with
  | zero => intro x3 h; exact aw_none rfl
  | succ n16 ih16 =>
    intro x3 h
    rw [jX8_doRepeat_l3_L16]
    refine aw_iload_n hC dX8_doRepeat_16 rfl ?_
    refine aw_if_le hC dX8_doRepeat_17 (tgt := 49) (by decide) ?_ ?_
    · refine aw_iconst hC dX8_doRepeat_49 (v := 1) (by decide) ?_
      exact aw_zret hC dX8_doRepeat_50 rfl (show _ = b2i true from rfl) rfl
    · refine aw_aload_n hC dX8_doRepeat_20 rfl ?_
      refine aw_iload_n hC dX8_doRepeat_21 rfl ?_
      refine aw_iconst hC dX8_doRepeat_22 (v := 1) (by decide) ?_
      refine aw_iadd hC dX8_doRepeat_23 ?_
      refine aw_aload_n hC dX8_doRepeat_24 rfl ?_
      refine aw_gfR hC dX8_doRepeat_25 fg_RX8_35 rfl rfl rm_6_0_0 ?_
      refine aw_iload_n hC dX8_doRepeat_28 rfl ?_
      refine aw_bind rfl (fun q2 hq2 => ?_)
      refine aw_cVi hC dX8_doRepeat_29 cv_RX8_496 rfl rm_3_0_0 (am_some (inj := (fun r => (.inr (some (.int r)), h))) hq2 (A_X5_behind _ (hC.2.2.2.2.2.2.2.2.2.2.2.2.1) _ _ _ p1 h)) rfl rfl rfl rfl rfl ⟨rfl, rfl⟩ ?_
      refine aw_iload_n hC dX8_doRepeat_32 rfl ?_
      refine aw_iconst hC dX8_doRepeat_33 (v := 1) (by decide) ?_
      refine aw_iadd hC dX8_doRepeat_34 ?_
      refine aw_bind rfl (fun q3 hq3 => ?_)
      refine aw_cVb hC dX8_doRepeat_35 cv_RX8_151 rfl rm_6_0_0 (am_some (inj := (fun r => (.inr (some (.int (b2i r.1))), r.2))) hq3 (A_X8_doCommands_l2 _ (hC.2.2.2.2.2.2.2.2.2.2.2.2.1) _ _ _ (p1 + (1 : Int32)) q2 (p2 + (1 : Int32)) h)) rfl rfl rfl rfl rfl ⟨rfl, rfl⟩ ?_
      refine aw_if_ne_b hC dX8_doRepeat_38 (tgt := 43) (by decide) ?_ ?_
      · refine aw_iinc hC dX8_doRepeat_43 rfl (v := x3 + (-1)) (by first | rfl | decide) (by decide) ?_
        refine aw_goto hC dX8_doRepeat_46 (tgt := 16) (by decide) ?_
        refine aw_sub [0, 1, 2, 3] ?_
        exact ih16 (x3 + (-1)) q3.2
      · refine aw_iconst hC dX8_doRepeat_41 (v := 0) (by decide) ?_
        exact aw_zret hC dX8_doRepeat_42 rfl (show _ = b2i false from rfl) rfl
set_option maxHeartbeats 4000000 in
set_option maxRecDepth 100000 in
theorem A_X8_doRepeat_l3 (l : Launch) (hl0 : l.stackTraces = false) (D : va_G) (loc : Rf → Nat) (cy : Nat → ClassId) (p1 : Int32) (p2 : Int32) (h : HD) : AM l D loc cy yX8_doRepeat cX8_doRepeat 4 (some .boolean) 8 237 [.ref (loc (6, 0, 0)), .int p1, .int p2] h ((jX8_doRepeat_l3 p1 p2 h).map (fun r => (.inr (some (.int (b2i r.1))), r.2))) := by
  refine am_start (y := yX8_doRepeat) (av := [.ref (loc (6, 0, 0)), .int p1, .int p2]) (nL := 4) (h := h) (RF := fun (r : Option (Bool × HD)) => r.map (fun r => (.inr (some (.int (b2i r.1))), r.2))) (x := jX8_doRepeat_l3 p1 p2 h) hl0 (by decide +kernel) rfl ?_
  intro p e R s m below meth c A hC
  unfold jX8_doRepeat_l3
  refine aw_iload_n hC dX8_doRepeat_0 rfl ?_
  refine aw_iconst hC dX8_doRepeat_1 (v := 2) (by decide) ?_
  refine aw_icmp_lt hC dX8_doRepeat_2 (tgt := 7) (by decide) ?_ ?_
  · refine aw_aload_n hC dX8_doRepeat_7 rfl ?_
    refine aw_gfR hC dX8_doRepeat_8 fg_RX8_35 rfl rfl rm_6_0_0 ?_
    refine aw_iload_n hC dX8_doRepeat_11 rfl ?_
    refine aw_bind rfl (fun q1 hq1 => ?_)
    refine aw_cVi hC dX8_doRepeat_12 cv_RX8_499 rfl rm_3_0_0 (am_some (inj := (fun r => (.inr (some (.int r)), h))) hq1 (A_X5_numberAt _ (hC.2.2.2.2.2.2.2.2.2.2.2.2.1) _ _ _ p1 h)) rfl rfl rfl rfl rfl ⟨rfl, rfl⟩ ?_
    refine aw_istore_n hC dX8_doRepeat_15 (by decide) ?_
    refine aw_sub [0, 1, 2, 3] ?_
    exact L_X8_doRepeat_l3_16 p1 p2  hC FU q1 h
  · refine aw_iconst hC dX8_doRepeat_5 (v := 0) (by decide) ?_
    exact aw_zret hC dX8_doRepeat_6 rfl (show _ = b2i false from rfl) rfl
set_option maxHeartbeats 4000000 in
set_option maxRecDepth 100000 in
theorem L_X8_doCommands_l3_6 (p1 : Int32) (p2 : Int32) (p3 : Int32) (hC : Cx p l e R s m args meth c D loc cy A cX8_doCommands 6 (some .boolean) RX8 9 260 0 0)  : ∀ (n6 : Nat) (x4 : Int32) (x5 : Int32) (h : HD), AW p l e R s m args below meth c D loc cy A 6 (QM below D loc cy A args s) (fun (r : Option (Bool × HD)) => r.map (fun r => (.inr (some (.int (b2i r.1))), r.2))) (0, 0) 6 [(0, .ref (loc (6, 0, 0))), (2, .int p2), (3, .int p3), (4, .int x4), (5, .int x5)] [] h (jX8_doCommands_l3_L6 p1 p2 p3 n6 x4 x5 h) := by
  intro n6
  induction n6 with
  | zero => intro x4 x5 h; exact aw_none rfl
  | succ n6 ih6 =>
    intro x4 x5 h
    rw [jX8_doCommands_l3_L6]
    refine aw_iload hC dX8_doCommands_6 rfl ?_
    refine aw_bipush hC dX8_doCommands_8 (v := 30) (by decide) ?_
    refine aw_icmp_ge hC dX8_doCommands_10 (tgt := 93) (by decide) ?_ ?_
    · refine aw_iconst hC dX8_doCommands_93 (v := 1) (by decide) ?_
      exact aw_zret hC dX8_doCommands_94 rfl (show _ = b2i true from rfl) rfl
    · refine aw_iload hC dX8_doCommands_13 rfl ?_
      refine aw_iload_n hC dX8_doCommands_15 rfl ?_
      refine aw_icmp_ge hC dX8_doCommands_16 (tgt := 93) (by decide) ?_ ?_
      · refine aw_iconst hC dX8_doCommands_93 (v := 1) (by decide) ?_
        exact aw_zret hC dX8_doCommands_94 rfl (show _ = b2i true from rfl) rfl
      · refine aw_aload_n hC dX8_doCommands_19 rfl ?_
        refine aw_gfR hC dX8_doCommands_20 fg_RX8_35 rfl rfl rm_6_0_0 ?_
        refine aw_iload hC dX8_doCommands_23 rfl ?_
        refine aw_bind rfl (fun q1 hq1 => ?_)
        refine aw_cVo hC dX8_doCommands_25 cv_RX8_480 rfl rm_3_0_0 (am_some (inj := (fun r => (.inr (some (cmv loc r)), h))) hq1 (A_X5_commandAt _ (hC.2.2.2.2.2.2.2.2.2.2.2.2.1) _ _ _ x4 h)) rfl rfl rfl rfl rfl ⟨rfl, rfl⟩ ?_
        refine aw_oc ?_ (fun k2 => aw_guardP rfl (fun g3 => ?_))
        · refine aw_gsO hC dX8_doCommands_28 tw5_62 (st_rep (cx_st hC)) ?_
          refine aw_acmpneN hC dX8_doCommands_31 (tgt := 46) (by decide) ?_
          refine aw_aload_n hC dX8_doCommands_46 rfl ?_
          refine aw_gfI hC dX8_doCommands_47 fg_RX8_88 rfl rm_6_0_0 ?_
          refine aw_bipush hC dX8_doCommands_50 (v := 40) (by decide) ?_
          refine aw_icmp_ge hC dX8_doCommands_52 (tgt := 64) (by decide) ?_ ?_
          · refine aw_iconst hC dX8_doCommands_64 (v := 0) (by decide) ?_
            exact aw_zret hC dX8_doCommands_65 rfl (show _ = b2i false from rfl) rfl
          · refine aw_aload_n hC dX8_doCommands_55 rfl ?_
            refine aw_iload hC dX8_doCommands_56 rfl ?_
            refine aw_bind rfl (fun q4 hq4 => ?_)
            refine aw_cVb hC dX8_doCommands_58 cv_RX8_493 rfl rm_6_0_0 (am_some (inj := (fun r => (.inr (some (.int (b2i r.1))), r.2))) hq4 (A_X8_doCommand _ (hC.2.2.2.2.2.2.2.2.2.2.2.2.1) _ _ _ x4 h)) rfl rfl rfl rfl rfl ⟨rfl, rfl⟩ ?_
            refine aw_if_ne_b hC dX8_doCommands_61 (tgt := 66) (by decide) ?_ ?_
            · refine aw_aload_n hC dX8_doCommands_66 rfl ?_
              refine aw_dup hC dX8_doCommands_67 rfl ?_
              refine aw_gfI hC dX8_doCommands_68 fg_RX8_88 rfl rm_6_0_0 ?_
              refine aw_iconst hC dX8_doCommands_71 (v := 1) (by decide) ?_
              refine aw_iadd hC dX8_doCommands_72 ?_
              refine aw_pfI hC dX8_doCommands_73 fg_RX8_88 fp_6_15 rfl rm_6_0_0 (fun h5 => ?_)
              refine aw_aload_n hC dX8_doCommands_76 rfl ?_
              refine aw_gfR hC dX8_doCommands_77 fg_RX8_35 rfl rfl rm_6_0_0 ?_
              refine aw_iload hC dX8_doCommands_80 rfl ?_
              refine aw_bind rfl (fun q6 hq6 => ?_)
              refine aw_cVi hC dX8_doCommands_82 cv_RX8_496 rfl rm_3_0_0 (am_some (inj := (fun r => (.inr (some (.int r)), h5))) hq6 (A_X5_behind _ (hC.2.2.2.2.2.2.2.2.2.2.2.2.1) _ _ _ x4 h5)) rfl rfl rfl rfl rfl ⟨rfl, rfl⟩ ?_
              refine aw_istore hC dX8_doCommands_85 (by decide) ?_
              refine aw_iinc hC dX8_doCommands_87 rfl (v := x5 + 1) (by first | rfl | decide) (by decide) ?_
              refine aw_goto hC dX8_doCommands_90 (tgt := 6) (by decide) ?_
              refine aw_sub [0, 2, 3, 4, 5] ?_
              exact ih6 q6 (x5 + 1) h5
            · refine aw_iconst hC dX8_doCommands_64 (v := 0) (by decide) ?_
              exact aw_zret hC dX8_doCommands_65 rfl (show _ = b2i false from rfl) rfl
        · refine aw_gsO hC dX8_doCommands_28 tw5_62 (st_rep (cx_st hC)) ?_
          refine aw_acmpne hC dX8_doCommands_31 (tgt := 46) (by decide) g3 (by decide) ?_ ?_
          · refine aw_aload_n hC dX8_doCommands_46 rfl ?_
            refine aw_gfI hC dX8_doCommands_47 fg_RX8_88 rfl rm_6_0_0 ?_
            refine aw_bipush hC dX8_doCommands_50 (v := 40) (by decide) ?_
            refine aw_icmp_ge hC dX8_doCommands_52 (tgt := 64) (by decide) ?_ ?_
            · refine aw_iconst hC dX8_doCommands_64 (v := 0) (by decide) ?_
              exact aw_zret hC dX8_doCommands_65 rfl (show _ = b2i false from rfl) rfl
            · refine aw_aload_n hC dX8_doCommands_55 rfl ?_
              refine aw_iload hC dX8_doCommands_56 rfl ?_
              refine aw_bind rfl (fun q7 hq7 => ?_)
              refine aw_cVb hC dX8_doCommands_58 cv_RX8_493 rfl rm_6_0_0 (am_some (inj := (fun r => (.inr (some (.int (b2i r.1))), r.2))) hq7 (A_X8_doCommand _ (hC.2.2.2.2.2.2.2.2.2.2.2.2.1) _ _ _ x4 h)) rfl rfl rfl rfl rfl ⟨rfl, rfl⟩ ?_
              refine aw_if_ne_b hC dX8_doCommands_61 (tgt := 66) (by decide) ?_ ?_
              · refine aw_aload_n hC dX8_doCommands_66 rfl ?_
                refine aw_dup hC dX8_doCommands_67 rfl ?_
                refine aw_gfI hC dX8_doCommands_68 fg_RX8_88 rfl rm_6_0_0 ?_
                refine aw_iconst hC dX8_doCommands_71 (v := 1) (by decide) ?_
                refine aw_iadd hC dX8_doCommands_72 ?_
                refine aw_pfI hC dX8_doCommands_73 fg_RX8_88 fp_6_15 rfl rm_6_0_0 (fun h8 => ?_)
                refine aw_aload_n hC dX8_doCommands_76 rfl ?_
                refine aw_gfR hC dX8_doCommands_77 fg_RX8_35 rfl rfl rm_6_0_0 ?_
                refine aw_iload hC dX8_doCommands_80 rfl ?_
                refine aw_bind rfl (fun q9 hq9 => ?_)
                refine aw_cVi hC dX8_doCommands_82 cv_RX8_496 rfl rm_3_0_0 (am_some (inj := (fun r => (.inr (some (.int r)), h8))) hq9 (A_X5_behind _ (hC.2.2.2.2.2.2.2.2.2.2.2.2.1) _ _ _ x4 h8)) rfl rfl rfl rfl rfl ⟨rfl, rfl⟩ ?_
                refine aw_istore hC dX8_doCommands_85 (by decide) ?_
                refine aw_iinc hC dX8_doCommands_87 rfl (v := x5 + 1) (by first | rfl | decide) (by decide) ?_
                refine aw_goto hC dX8_doCommands_90 (tgt := 6) (by decide) ?_
                refine aw_sub [0, 2, 3, 4, 5] ?_
                exact ih6 q9 (x5 + 1) h8
              · refine aw_iconst hC dX8_doCommands_64 (v := 0) (by decide) ?_
                exact aw_zret hC dX8_doCommands_65 rfl (show _ = b2i false from rfl) rfl
          · refine aw_aload_n hC dX8_doCommands_34 rfl ?_
            refine aw_iload hC dX8_doCommands_35 rfl ?_
            refine aw_iload_n hC dX8_doCommands_37 rfl ?_
            refine aw_bind rfl (fun q10 hq10 => ?_)
            refine aw_cVb hC dX8_doCommands_38 cv_RX8_490 rfl rm_6_0_0 (am_some (inj := (fun r => (.inr (some (.int (b2i r.1))), r.2))) hq10 (A_X8_doRepeat_l3 _ (hC.2.2.2.2.2.2.2.2.2.2.2.2.1) _ _ _ x4 p3 h)) rfl rfl rfl rfl rfl ⟨rfl, rfl⟩ ?_
            refine aw_if_ne_b hC dX8_doCommands_41 (tgt := 76) (by decide) ?_ ?_
            · refine aw_aload_n hC dX8_doCommands_76 rfl ?_
              refine aw_gfR hC dX8_doCommands_77 fg_RX8_35 rfl rfl rm_6_0_0 ?_
              refine aw_iload hC dX8_doCommands_80 rfl ?_
              refine aw_bind rfl (fun q11 hq11 => ?_)
              refine aw_cVi hC dX8_doCommands_82 cv_RX8_496 rfl rm_3_0_0 (am_some (inj := (fun r => (.inr (some (.int r)), q10.2))) hq11 (A_X5_behind _ (hC.2.2.2.2.2.2.2.2.2.2.2.2.1) _ _ _ x4 q10.2)) rfl rfl rfl rfl rfl ⟨rfl, rfl⟩ ?_
              refine aw_istore hC dX8_doCommands_85 (by decide) ?_
              refine aw_iinc hC dX8_doCommands_87 rfl (v := x5 + 1) (by first | rfl | decide) (by decide) ?_
              refine aw_goto hC dX8_doCommands_90 (tgt := 6) (by decide) ?_
              refine aw_sub [0, 2, 3, 4, 5] ?_
              exact ih6 q11 (x5 + 1) q10.2
            · refine aw_iconst hC dX8_doCommands_44 (v := 0) (by decide) ?_
              exact aw_zret hC dX8_doCommands_45 rfl (show _ = b2i false from rfl) rfl
set_option maxHeartbeats 4000000 in
set_option maxRecDepth 100000 in
theorem A_X8_doCommands_l3 (l : Launch) (hl0 : l.stackTraces = false) (D : va_G) (loc : Rf → Nat) (cy : Nat → ClassId) (p1 : Int32) (p2 : Int32) (p3 : Int32) (h : HD) : AM l D loc cy yX8_doCommands cX8_doCommands 6 (some .boolean) 9 260 [.ref (loc (6, 0, 0)), .int p1, .int p2, .int p3] h ((jX8_doCommands_l3 p1 p2 p3 h).map (fun r => (.inr (some (.int (b2i r.1))), r.2))) := by
  refine am_start (y := yX8_doCommands) (av := [.ref (loc (6, 0, 0)), .int p1, .int p2, .int p3]) (nL := 6) (h := h) (RF := fun (r : Option (Bool × HD)) => r.map (fun r => (.inr (some (.int (b2i r.1))), r.2))) (x := jX8_doCommands_l3 p1 p2 p3 h) hl0 (by decide +kernel) rfl ?_
  intro p e R s m below meth c A hC
  unfold jX8_doCommands_l3
  refine aw_iload_n hC dX8_doCommands_0 rfl ?_
  refine aw_istore hC dX8_doCommands_1 (by decide) ?_
  refine aw_iconst hC dX8_doCommands_3 (v := 0) (by decide) ?_
  refine aw_istore hC dX8_doCommands_4 (by decide) ?_
  refine aw_sub [0, 2, 3, 4, 5] ?_
  exact L_X8_doCommands_l3_6 p1 p2 p3  hC FU p1 (0 : Int32) h
set_option maxHeartbeats 4000000 in
set_option maxRecDepth 100000 in
theorem A_X8_runScript (l : Launch) (hl0 : l.stackTraces = false) (D : va_G) (loc : Rf → Nat) (cy : Nat → ClassId)  (h : HD) : AX l D loc cy yX8_runScript (Cond.code yX8_runScript cX8_runScript 2 (some .int) :: LW) 10 285 1 6 [.ref (loc (6, 0, 0))] h ((jX8_runScript h).map (fun r => (xi (fun v => some (.int v)) r.1, r.2))) := by
  refine ax_start (y := yX8_runScript) (av := [.ref (loc (6, 0, 0))]) (nL := 2) (h := h) (RF := fun (r : Option ((Nat ⊕ Int32) × HD)) => r.map (fun r => (xi (fun v => some (.int v)) r.1, r.2))) (x := jX8_runScript h) hl0 (by decide +kernel) rfl ?_
  intro p e R s m below meth c A hxt hC
  unfold jX8_runScript
  refine aw_aload_n hC dX8_runScript_0 rfl ?_
  refine aw_gfR hC dX8_runScript_1 fg_RX8_12 rfl rfl rm_6_0_0 ?_
  refine aw_bind rfl (fun q1 hq1 => ?_)
  refine aw_cVv hC dX8_runScript_4 cv_RX8_122 rfl rm_4_0_0 (am_some (inj := (fun r => (.inr (none), r))) hq1 (A_X6_begin _ (hC.2.2.2.2.2.2.2.2.2.2.2.2.1) _ _ _ h)) rfl rfl rfl rfl rfl ⟨rfl, rfl⟩ ?_
  refine aw_aload_n hC dX8_runScript_7 rfl ?_
  refine aw_gfR hC dX8_runScript_8 fg_RX8_35 rfl rfl rm_6_0_0 ?_
  refine aw_aload_n hC dX8_runScript_11 rfl ?_
  refine aw_gfR hC dX8_runScript_12 fg_RX8_12 rfl rfl rm_6_0_0 ?_
  refine aw_bind rfl (fun q2 hq2 => ?_)
  refine aw_cVb hC dX8_runScript_15 cv_RX8_141 rfl rm_3_0_0 (am_some (inj := (fun r => (.inr (some (.int (b2i r.1))), r.2))) hq2 (A_X5_read _ (hC.2.2.2.2.2.2.2.2.2.2.2.2.1) _ _ _ q1)) rfl rfl rfl rfl rfl ⟨rfl, rfl⟩ ?_
  refine aw_istore_n hC dX8_runScript_18 (by decide) ?_
  refine aw_aload_n hC dX8_runScript_19 rfl ?_
  refine aw_bind rfl (fun q3 hq3 => ?_)
  refine aw_cVv hC dX8_runScript_20 cv_RX8_129 rfl rm_6_0_0 (am_some (inj := (fun r => (.inr (none), r))) hq3 (A_X8_endReading _ (hC.2.2.2.2.2.2.2.2.2.2.2.2.1) _ _ _ q2.2)) rfl rfl rfl rfl rfl ⟨rfl, rfl⟩ ?_
  refine aw_iload_n hC dX8_runScript_23 rfl ?_
  refine aw_if_ne_b hC dX8_runScript_24 (tgt := 37) (by decide) ?_ ?_
  · refine aw_aload_n hC dX8_runScript_37 rfl ?_
    refine aw_bind rfl (fun q4 hq4 => ?_)
    refine aw_cVv hC dX8_runScript_38 cv_RX8_147 rfl rm_6_0_0 (am_some (inj := (fun r => (.inr (none), r))) hq4 (A_X8_note _ (hC.2.2.2.2.2.2.2.2.2.2.2.2.1) _ _ _ q3)) rfl rfl rfl rfl rfl ⟨rfl, rfl⟩ ?_
    refine aw_aload_n hC dX8_runScript_41 rfl ?_
    refine aw_iconst hC dX8_runScript_42 (v := 0) (by decide) ?_
    refine aw_pfI hC dX8_runScript_43 fg_RX8_88 fp_6_15 rfl rm_6_0_0 (fun h5 => ?_)
    refine aw_aload_n hC dX8_runScript_46 rfl ?_
    refine aw_iconst hC dX8_runScript_47 (v := 0) (by decide) ?_
    refine aw_aload_n hC dX8_runScript_48 rfl ?_
    refine aw_gfR hC dX8_runScript_49 fg_RX8_35 rfl rfl rm_6_0_0 ?_
    refine aw_cVi hC dX8_runScript_52 cv_RX8_150 rfl rm_3_0_0 (A_X5_count _ (hC.2.2.2.2.2.2.2.2.2.2.2.2.1) _ _ _ h5) rfl rfl rfl rfl rfl ⟨rfl, rfl⟩ ?_
    refine aw_iconst hC dX8_runScript_55 (v := 0) (by decide) ?_
    refine aw_bind rfl (fun q6 hq6 => ?_)
    refine aw_cVb hC dX8_runScript_56 cv_RX8_151 rfl rm_6_0_0 (am_some (inj := (fun r => (.inr (some (.int (b2i r.1))), r.2))) hq6 (A_X8_doCommands_l3 _ (hC.2.2.2.2.2.2.2.2.2.2.2.2.1) _ _ _ (0 : Int32) (jX5_count h5) (0 : Int32) h5)) rfl rfl rfl rfl rfl ⟨rfl, rfl⟩ ?_
    refine aw_pop hC dX8_runScript_59 rfl ?_
    refine aw_aload_n hC dX8_runScript_60 rfl ?_
    refine aw_bind rfl (fun q7 hq7 => ?_)
    refine aw_cVv hC dX8_runScript_61 cv_RX8_155 rfl rm_6_0_0 (am_some (inj := (fun r => (.inr (none), r))) hq7 (A_X8_keepNoted _ (hC.2.2.2.2.2.2.2.2.2.2.2.2.1) _ _ _ q6.2)) rfl rfl rfl rfl rfl ⟨rfl, rfl⟩ ?_
    refine aw_aload_n hC dX8_runScript_64 rfl ?_
    refine aw_gfI hC dX8_runScript_65 fg_RX8_88 rfl rm_6_0_0 ?_
    exact aw_ireX hC dX8_runScript_68 rfl rfl rfl rfl
  · exact aw_throw1 (text := "the text is no script") (sid := 145) hC hxt dX8_runScript_27 dX8_runScript_30 dX8_runScript_31 dX8_runScript_33 dX8_runScript_36 tw4_48 tw1_13 (by decide +kernel) rfl rfl rfl rfl rfl rfl rfl
end PRF
