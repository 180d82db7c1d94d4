section PRF
variable {p : Program} {l : Launch} {e : Env} {R : Room} {s : State} {m : MethodId} {args : Array Value} {below : List Frame} {meth : Method} {c : Code} {D : va_G} {loc : Rf → Nat} {cy : Nat → ClassId} {A : Nat → Prop}
set_option maxHeartbeats 4000000 in
set_option maxRecDepth 100000 in
theorem A_X9_wishOf (l : Launch) (hl0 : l.stackTraces = false) (D : va_G) (loc : Rf → Nat) (cy : Nat → ClassId) (p1 : Int32) (h : HD) : AM l D loc cy yX9_wishOf cX9_wishOf 2 (some .int) 0 16 [.ref (loc (7, 0, 0)), .int p1] h ((jX9_wishOf p1 h).map (fun r => (.inr (some (.int r)), h))) := by
  refine am_start (y := yX9_wishOf) (av := [.ref (loc (7, 0, 0)), .int p1]) (nL := 2) (h := h) (RF := fun (r : Option Int32) => r.map (fun r => (.inr (some (.int r)), h))) (x := jX9_wishOf p1 h) hl0 (by decide +kernel) rfl ?_
  intro p e R s m below meth c A hC
  unfold jX9_wishOf
  refine aw_aload_n hC dX9_wishOf_0 rfl ?_
  refine aw_gfR hC dX9_wishOf_1 fg_RX9_20 rfl rfl rm_7_0_0 ?_
  refine aw_iconst hC dX9_wishOf_4 (v := 2) (by decide) ?_
  refine aw_iload_n hC dX9_wishOf_5 rfl ?_
  refine aw_iadd hC dX9_wishOf_6 ?_
  refine aw_guard rfl (fun g1 => ?_)
  refine aw_iald hC dX9_wishOf_7 rm_7_0_2 rfl rfl g1 rfl ?_
  exact aw_iret hC dX9_wishOf_8 rfl rfl
set_option maxHeartbeats 4000000 in
set_option maxRecDepth 100000 in
theorem A_X9_isCar (l : Launch) (hl0 : l.stackTraces = false) (D : va_G) (loc : Rf → Nat) (cy : Nat → ClassId) (p1 : Int32) (h : HD) : AM l D loc cy yX9_isCar cX9_isCar 2 (some .boolean) 1 41 [.ref (loc (7, 0, 0)), .int p1] h ((jX9_isCar p1 h).map (fun r => (.inr (some (.int (b2i r))), h))) := by
  refine am_start (y := yX9_isCar) (av := [.ref (loc (7, 0, 0)), .int p1]) (nL := 2) (h := h) (RF := fun (r : Option Bool) => r.map (fun r => (.inr (some (.int (b2i r))), h))) (x := jX9_isCar p1 h) hl0 (by decide +kernel) rfl ?_
  intro p e R s m below meth c A hC
  unfold jX9_isCar
  refine aw_iload_n hC dX9_isCar_0 rfl ?_
  refine aw_i2l hC dX9_isCar_1 ?_
  refine aw_lconst hC dX9_isCar_2 (v := 0) (by decide) ?_
  refine aw_aload_n hC dX9_isCar_3 rfl ?_
  refine aw_gfR hC dX9_isCar_4 fg_RX9_20 rfl rfl rm_7_0_0 ?_
  refine aw_iconst hC dX9_isCar_7 (v := 0) (by decide) ?_
  refine aw_iald hC dX9_isCar_8 rm_7_0_2 rfl rfl (by decide) (k := 0) (by decide) ?_
  refine aw_iconst hC dX9_isCar_9 (v := 1) (by decide) ?_
  refine aw_isub hC dX9_isCar_10 ?_
  refine aw_i2l hC dX9_isCar_11 ?_
  refine aw_cSb hC dX9_isCar_12 cv_RX9_130 (A_X9_isIn _ (hC.2.2.2.2.2.2.2.2.2.2.2.2.1) _ _ _ p1.toInt64 (0 : Int64) (((gI h (7, 0, 2) 0) - (1 : Int32)).toInt64) h) rfl rfl rfl rfl rfl ⟨rfl, rfl⟩ ?_
  exact aw_zret hC dX9_isCar_15 rfl (show _ = b2i (jX9_isIn p1.toInt64 (0 : Int64) (((gI h (7, 0, 2) 0) - (1 : Int32)).toInt64) h) from rfl) rfl
set_option maxHeartbeats 4000000 in
set_option maxRecDepth 100000 in
theorem A_X9_isSpot (l : Launch) (hl0 : l.stackTraces = false) (D : va_G) (loc : Rf → Nat) (cy : Nat → ClassId) (p1 : Int32) (h : HD) : AM l D loc cy yX9_isSpot cX9_isSpot 2 (some .boolean) 1 41 [.ref (loc (7, 0, 0)), .int p1] h ((jX9_isSpot p1 h).map (fun r => (.inr (some (.int (b2i r))), h))) := by
  refine am_start (y := yX9_isSpot) (av := [.ref (loc (7, 0, 0)), .int p1]) (nL := 2) (h := h) (RF := fun (r : Option Bool) => r.map (fun r => (.inr (some (.int (b2i r))), h))) (x := jX9_isSpot p1 h) hl0 (by decide +kernel) rfl ?_
  intro p e R s m below meth c A hC
  unfold jX9_isSpot
  refine aw_iload_n hC dX9_isSpot_0 rfl ?_
  refine aw_i2l hC dX9_isSpot_1 ?_
  refine aw_lconst hC dX9_isSpot_2 (v := 0) (by decide) ?_
  refine aw_aload_n hC dX9_isSpot_3 rfl ?_
  refine aw_gfR hC dX9_isSpot_4 fg_RX9_20 rfl rfl rm_7_0_0 ?_
  refine aw_iconst hC dX9_isSpot_7 (v := 0) (by decide) ?_
  refine aw_iald hC dX9_isSpot_8 rm_7_0_2 rfl rfl (by decide) (k := 0) (by decide) ?_
  refine aw_i2l hC dX9_isSpot_9 ?_
  refine aw_cSb hC dX9_isSpot_10 cv_RX9_130 (A_X9_isIn _ (hC.2.2.2.2.2.2.2.2.2.2.2.2.1) _ _ _ p1.toInt64 (0 : Int64) ((gI h (7, 0, 2) 0).toInt64) h) rfl rfl rfl rfl rfl ⟨rfl, rfl⟩ ?_
  exact aw_zret hC dX9_isSpot_13 rfl (show _ = b2i (jX9_isIn p1.toInt64 (0 : Int64) ((gI h (7, 0, 2) 0).toInt64) h) from rfl) rfl
set_option maxHeartbeats 4000000 in
set_option maxRecDepth 100000 in
theorem A_X9_round (l : Launch) (hl0 : l.stackTraces = false) (D : va_G) (loc : Rf → Nat) (cy : Nat → ClassId) (p1 : Int32) (h : HD) : AM l D loc cy yX9_round cX9_round 3 (some .int) 1 36 [.ref (loc (7, 0, 0)), .int p1] h ((jX9_round p1 h).map (fun r => (.inr (some (.int r)), h))) := by
  refine am_start (y := yX9_round) (av := [.ref (loc (7, 0, 0)), .int p1]) (nL := 3) (h := h) (RF := fun (r : Option Int32) => r.map (fun r => (.inr (some (.int r)), h))) (x := jX9_round p1 h) hl0 (by decide +kernel) rfl ?_
  intro p e R s m below meth c A hC
  unfold jX9_round
  refine aw_iload_n hC dX9_round_0 rfl ?_
  refine aw_aload_n hC dX9_round_1 rfl ?_
  refine aw_bind rfl (fun q1 hq1 => ?_)
  refine aw_cVi hC dX9_round_2 cv_RX9_214 rfl rm_7_0_0 (am_some (inj := (fun r => (.inr (some (.int r)), h))) hq1 (A_X9_spots _ (hC.2.2.2.2.2.2.2.2.2.2.2.2.1) _ _ _ h)) rfl rfl rfl rfl rfl ⟨rfl, rfl⟩ ?_
  refine aw_guardN rfl (fun g2 => ?_)
  refine aw_irem hC dX9_round_5 g2 ?_
  refine aw_istore_n hC dX9_round_6 (by decide) ?_
  refine aw_iload_n hC dX9_round_7 rfl ?_
  refine aw_if_ge hC dX9_round_8 (tgt := 20) (by decide) ?_ ?_
  · refine aw_iload_n hC dX9_round_20 rfl ?_
    exact aw_iret hC dX9_round_21 rfl rfl
  · refine aw_iload_n hC dX9_round_11 rfl ?_
    refine aw_aload_n hC dX9_round_12 rfl ?_
    refine aw_bind rfl (fun q3 hq3 => ?_)
    refine aw_cVi hC dX9_round_13 cv_RX9_214 rfl rm_7_0_0 (am_some (inj := (fun r => (.inr (some (.int r)), h))) hq3 (A_X9_spots _ (hC.2.2.2.2.2.2.2.2.2.2.2.2.1) _ _ _ h)) rfl rfl rfl rfl rfl ⟨rfl, rfl⟩ ?_
    refine aw_iadd hC dX9_round_16 ?_
    refine aw_goto hC dX9_round_17 (tgt := 21) (by decide) ?_
    exact aw_iret hC dX9_round_21 rfl rfl
set_option maxHeartbeats 4000000 in
set_option maxRecDepth 100000 in
theorem L_X9_movedBy_14 (p1 : Int32) (h : HD) (k49 : Option Int32) (hC : Cx p l e R s m args meth c D loc cy A cX9_movedBy 3 (some .int) RX9 2 58 0 0) (hk49 : AW p l e R s m args below meth c D loc cy A 3 (QM below D loc cy A args s) (fun (r : Option Int32) => r.map (fun r => (.inr (some (.int r)), h))) (0, 0) 49 [(0, .ref (loc (7, 0, 0))), (1, .int p1)] [] h (k49)) : ∀ (n14 : Nat) (x2 : Int32), AW p l e R s m args below meth c D loc cy A 3 (QM below D loc cy A args s) (fun (r : Option Int32) => r.map (fun r => (.inr (some (.int r)), h))) (0, 0) 14 [(0, .ref (loc (7, 0, 0))), (1, .int p1), (2, .int x2)] [] h (jX9_movedBy_L14 p1 h k49 n14 x2) := by
  intro n14
  induction n14 with
  | zero => intro x2; exact aw_none rfl
  | succ n14 ih14 =>
    intro x2
    rw [jX9_movedBy_L14]
    refine aw_iload_n hC dX9_movedBy_14 rfl ?_
    refine aw_aload_n hC dX9_movedBy_15 rfl ?_
    refine aw_gfR hC dX9_movedBy_16 fg_RX9_20 rfl rfl rm_7_0_0 ?_
    refine aw_iconst hC dX9_movedBy_19 (v := 1) (by decide) ?_
    refine aw_iald hC dX9_movedBy_20 rm_7_0_2 rfl rfl (by decide) (k := 1) (by decide) ?_
    refine aw_icmp_gt hC dX9_movedBy_21 (tgt := 49) (by decide) ?_ ?_
    · refine aw_sub [0, 1] ?_
      exact hk49
    · refine aw_aload_n hC dX9_movedBy_24 rfl ?_
      refine aw_gfR hC dX9_movedBy_25 fg_RX9_54 rfl rfl rm_7_0_0 ?_
      refine aw_aload_n hC dX9_movedBy_28 rfl ?_
      refine aw_iload_n hC dX9_movedBy_29 rfl ?_
      refine aw_iload_n hC dX9_movedBy_30 rfl ?_
      refine aw_isub hC dX9_movedBy_31 ?_
      refine aw_bind rfl (fun q2 hq2 => ?_)
      refine aw_cVi hC dX9_movedBy_32 cv_RX9_218 rfl rm_7_0_0 (am_some (inj := (fun r => (.inr (some (.int r)), h))) hq2 (A_X9_round _ (hC.2.2.2.2.2.2.2.2.2.2.2.2.1) _ _ _ (p1 - x2) h)) rfl rfl rfl rfl rfl ⟨rfl, rfl⟩ ?_
      refine aw_guard rfl (fun g3 => ?_)
      refine aw_iald hC dX9_movedBy_35 rm_7_0_13 rfl rfl g3 rfl ?_
      refine aw_iconst hC dX9_movedBy_36 (v := -1) (by decide) ?_
      refine aw_icmp_ne hC dX9_movedBy_37 (tgt := 43) (by decide) ?_ ?_
      · refine aw_iinc hC dX9_movedBy_43 rfl (v := x2 + 1) (by first | rfl | decide) (by decide) ?_
        refine aw_goto hC dX9_movedBy_46 (tgt := 14) (by decide) ?_
        refine aw_sub [0, 1, 2] ?_
        exact ih14 (x2 + 1)
      · refine aw_iload_n hC dX9_movedBy_40 rfl ?_
        refine aw_ineg hC dX9_movedBy_41 ?_
        exact aw_iret hC dX9_movedBy_42 rfl rfl
set_option maxHeartbeats 4000000 in
set_option maxRecDepth 100000 in
theorem L_X9_movedBy_51 (p1 : Int32) (h : HD) (hC : Cx p l e R s m args meth c D loc cy A cX9_movedBy 3 (some .int) RX9 2 58 0 0)  : ∀ (n51 : Nat) (x2 : Int32), AW p l e R s m args below meth c D loc cy A 3 (QM below D loc cy A args s) (fun (r : Option Int32) => r.map (fun r => (.inr (some (.int r)), h))) (0, 0) 51 [(0, .ref (loc (7, 0, 0))), (1, .int p1), (2, .int x2)] [] h (jX9_movedBy_L51 p1 h n51 x2) := by
  intro n51
  induction n51 with
  | zero => intro x2; exact aw_none rfl
  | succ n51 ih51 =>
    intro x2
    rw [jX9_movedBy_L51]
    refine aw_aload_n hC dX9_movedBy_51 rfl ?_
    refine aw_gfR hC dX9_movedBy_52 fg_RX9_54 rfl rfl rm_7_0_0 ?_
    refine aw_aload_n hC dX9_movedBy_55 rfl ?_
    refine aw_iload_n hC dX9_movedBy_56 rfl ?_
    refine aw_iload_n hC dX9_movedBy_57 rfl ?_
    refine aw_iadd hC dX9_movedBy_58 ?_
    refine aw_bind rfl (fun q4 hq4 => ?_)
    refine aw_cVi hC dX9_movedBy_59 cv_RX9_218 rfl rm_7_0_0 (am_some (inj := (fun r => (.inr (some (.int r)), h))) hq4 (A_X9_round _ (hC.2.2.2.2.2.2.2.2.2.2.2.2.1) _ _ _ (p1 + x2) h)) rfl rfl rfl rfl rfl ⟨rfl, rfl⟩ ?_
    refine aw_guard rfl (fun g5 => ?_)
    refine aw_iald hC dX9_movedBy_62 rm_7_0_13 rfl rfl g5 rfl ?_
    refine aw_iconst hC dX9_movedBy_63 (v := -1) (by decide) ?_
    refine aw_icmp_eq hC dX9_movedBy_64 (tgt := 73) (by decide) ?_ ?_
    · refine aw_iload_n hC dX9_movedBy_73 rfl ?_
      exact aw_iret hC dX9_movedBy_74 rfl rfl
    · refine aw_iinc hC dX9_movedBy_67 rfl (v := x2 + 1) (by first | rfl | decide) (by decide) ?_
      refine aw_goto hC dX9_movedBy_70 (tgt := 51) (by decide) ?_
      refine aw_sub [0, 1, 2] ?_
      exact ih51 (x2 + 1)
set_option maxHeartbeats 4000000 in
set_option maxRecDepth 100000 in
theorem A_X9_movedBy (l : Launch) (hl0 : l.stackTraces = false) (D : va_G) (loc : Rf → Nat) (cy : Nat → ClassId) (p1 : Int32) (h : HD) : AM l D loc cy yX9_movedBy cX9_movedBy 3 (some .int) 2 58 [.ref (loc (7, 0, 0)), .int p1] h ((jX9_movedBy p1 h).map (fun r => (.inr (some (.int r)), h))) := by
  refine am_start (y := yX9_movedBy) (av := [.ref (loc (7, 0, 0)), .int p1]) (nL := 3) (h := h) (RF := fun (r : Option Int32) => r.map (fun r => (.inr (some (.int r)), h))) (x := jX9_movedBy p1 h) hl0 (by decide +kernel) rfl ?_
  intro p e R s m below meth c A hC
  unfold jX9_movedBy
  refine aw_aload_n hC dX9_movedBy_0 rfl ?_
  refine aw_gfR hC dX9_movedBy_1 fg_RX9_54 rfl rfl rm_7_0_0 ?_
  refine aw_iload_n hC dX9_movedBy_4 rfl ?_
  refine aw_guard rfl (fun g1 => ?_)
  refine aw_iald hC dX9_movedBy_5 rm_7_0_13 rfl rfl g1 rfl ?_
  refine aw_iconst hC dX9_movedBy_6 (v := -1) (by decide) ?_
  refine aw_icmp_ne hC dX9_movedBy_7 (tgt := 12) (by decide) ?_ ?_
  · refine aw_iconst hC dX9_movedBy_12 (v := 1) (by decide) ?_
    refine aw_istore_n hC dX9_movedBy_13 (by decide) ?_
    refine aw_sub [0, 1, 2] ?_
    refine L_X9_movedBy_14 p1 h _ hC ?_ FU (1 : Int32)
    · refine aw_iconst hC dX9_movedBy_49 (v := 1) (by decide) ?_
      refine aw_istore_n hC dX9_movedBy_50 (by decide) ?_
      refine aw_sub [0, 1, 2] ?_
      exact L_X9_movedBy_51 p1 h  hC FU (1 : Int32)
  · refine aw_iconst hC dX9_movedBy_10 (v := 0) (by decide) ?_
    exact aw_iret hC dX9_movedBy_11 rfl rfl
set_option maxHeartbeats 4000000 in
set_option maxRecDepth 100000 in
theorem L_X9_parks_2 (p1 : Int32) (k23 : HD → Option HD) (hC : Cx p l e R s m args meth c D loc cy A cX9_parks 4 (none) RX9 3 80 0 0) (hk23 : ∀  (h2 : HD), AW p l e R s m args below meth c D loc cy A 4 (QM below D loc cy A args s) (fun (r : Option HD) => r.map (fun r => (.inr (none), r))) (0, 0) 23 [(0, .ref (loc (7, 0, 0))), (1, .int p1)] [] h2 (k23  h2)) : ∀ (n2 : Nat) (x2 : Int32) (h : HD), AW p l e R s m args below meth c D loc cy A 4 (QM below D loc cy A args s) (fun (r : Option HD) => r.map (fun r => (.inr (none), r))) (0, 0) 2 [(0, .ref (loc (7, 0, 0))), (1, .int p1), (2, .int x2)] [] h (jX9_parks_L2 p1 k23 n2 x2 h) := by
  intro n2
  induction n2 with
  | zero => intro x2 h; exact aw_none rfl
  | succ n2 ih2 =>
    intro x2 h
    rw [jX9_parks_L2]
    refine aw_iload_n hC dX9_parks_2 rfl ?_
    refine aw_aload_n hC dX9_parks_3 rfl ?_
    refine aw_bind rfl (fun q1 hq1 => ?_)
    refine aw_cVi hC dX9_parks_4 cv_RX9_214 rfl rm_7_0_0 (am_some (inj := (fun r => (.inr (some (.int r)), h))) hq1 (A_X9_spots _ (hC.2.2.2.2.2.2.2.2.2.2.2.2.1) _ _ _ h)) rfl rfl rfl rfl rfl ⟨rfl, rfl⟩ ?_
    refine aw_icmp_ge hC dX9_parks_7 (tgt := 23) (by decide) ?_ ?_
    · refine aw_sub [0, 1] ?_
      exact hk23 h
    · refine aw_aload_n hC dX9_parks_10 rfl ?_
      refine aw_gfR hC dX9_parks_11 fg_RX9_54 rfl rfl rm_7_0_0 ?_
      refine aw_iload_n hC dX9_parks_14 rfl ?_
      refine aw_iconst hC dX9_parks_15 (v := -1) (by decide) ?_
      refine aw_guard rfl (fun g3 => ?_)
      refine aw_iast hC dX9_parks_16 rm_7_0_13 rfl rfl g3 rfl (fun h2 => ?_)
      refine aw_iinc hC dX9_parks_17 rfl (v := x2 + 1) (by first | rfl | decide) (by decide) ?_
      refine aw_goto hC dX9_parks_20 (tgt := 2) (by decide) ?_
      refine aw_sub [0, 1, 2] ?_
      exact ih2 (x2 + 1) h2
set_option maxHeartbeats 4000000 in
set_option maxRecDepth 100000 in
theorem L_X9_parks_25 (p1 : Int32) (hC : Cx p l e R s m args meth c D loc cy A cX9_parks 4 (none) RX9 3 80 0 0)  : ∀ (n25 : Nat) (x2 : Int32) (h : HD), AW p l e R s m args below meth c D loc cy A 4 (QM below D loc cy A args s) (fun (r : Option HD) => r.map (fun r => (.inr (none), r))) (0, 0) 25 [(0, .ref (loc (7, 0, 0))), (1, .int p1), (2, .int x2)] [] h (jX9_parks_L25 p1 n25 x2 h) := by
  intro n25
  induction n25 with
  | zero => intro x2 h; exact aw_none rfl
  | succ n25 ih25 =>
    intro x2 h
    rw [jX9_parks_L25]
    refine aw_iload_n hC dX9_parks_25 rfl ?_
    refine aw_iload_n hC dX9_parks_26 rfl ?_
    refine aw_icmp_ge hC dX9_parks_27 (tgt := 82) (by decide) ?_ ?_
    · exact aw_vret hC dX9_parks_82 rfl rfl
    · refine aw_aload_n hC dX9_parks_30 rfl ?_
      refine aw_aload_n hC dX9_parks_31 rfl ?_
      refine aw_iload_n hC dX9_parks_32 rfl ?_
      refine aw_bind rfl (fun q5 hq5 => ?_)
      refine aw_cVi hC dX9_parks_33 cv_RX9_221 rfl rm_7_0_0 (am_some (inj := (fun r => (.inr (some (.int r)), h))) hq5 (A_X9_wishOf _ (hC.2.2.2.2.2.2.2.2.2.2.2.2.1) _ _ _ x2 h)) rfl rfl rfl rfl rfl ⟨rfl, rfl⟩ ?_
      refine aw_bind rfl (fun q6 hq6 => ?_)
      refine aw_cVi hC dX9_parks_36 cv_RX9_224 rfl rm_7_0_0 (am_some (inj := (fun r => (.inr (some (.int r)), h))) hq6 (A_X9_movedBy _ (hC.2.2.2.2.2.2.2.2.2.2.2.2.1) _ _ _ q5 h)) rfl rfl rfl rfl rfl ⟨rfl, rfl⟩ ?_
      refine aw_istore_n hC dX9_parks_39 (by decide) ?_
      refine aw_aload_n hC dX9_parks_40 rfl ?_
      refine aw_gfR hC dX9_parks_41 fg_RX9_60 rfl rfl rm_7_0_0 ?_
      refine aw_iload_n hC dX9_parks_44 rfl ?_
      refine aw_iload_n hC dX9_parks_45 rfl ?_
      refine aw_guard rfl (fun g8 => ?_)
      refine aw_iast hC dX9_parks_46 rm_7_0_15 rfl rfl g8 rfl (fun h7 => ?_)
      refine aw_aload_n hC dX9_parks_47 rfl ?_
      refine aw_gfR hC dX9_parks_48 fg_RX9_57 rfl rfl rm_7_0_0 ?_
      refine aw_iload_n hC dX9_parks_51 rfl ?_
      refine aw_aload_n hC dX9_parks_52 rfl ?_
      refine aw_aload_n hC dX9_parks_53 rfl ?_
      refine aw_iload_n hC dX9_parks_54 rfl ?_
      refine aw_bind rfl (fun q9 hq9 => ?_)
      refine aw_cVi hC dX9_parks_55 cv_RX9_221 rfl rm_7_0_0 (am_some (inj := (fun r => (.inr (some (.int r)), h7))) hq9 (A_X9_wishOf _ (hC.2.2.2.2.2.2.2.2.2.2.2.2.1) _ _ _ x2 h7)) rfl rfl rfl rfl rfl ⟨rfl, rfl⟩ ?_
      refine aw_iload_n hC dX9_parks_58 rfl ?_
      refine aw_iadd hC dX9_parks_59 ?_
      refine aw_bind rfl (fun q10 hq10 => ?_)
      refine aw_cVi hC dX9_parks_60 cv_RX9_218 rfl rm_7_0_0 (am_some (inj := (fun r => (.inr (some (.int r)), h7))) hq10 (A_X9_round _ (hC.2.2.2.2.2.2.2.2.2.2.2.2.1) _ _ _ (q9 + q6) h7)) rfl rfl rfl rfl rfl ⟨rfl, rfl⟩ ?_
      refine aw_guard rfl (fun g12 => ?_)
      refine aw_iast hC dX9_parks_63 rm_7_0_14 rfl rfl g12 rfl (fun h11 => ?_)
      refine aw_aload_n hC dX9_parks_64 rfl ?_
      refine aw_gfR hC dX9_parks_65 fg_RX9_54 rfl rfl rm_7_0_0 ?_
      refine aw_aload_n hC dX9_parks_68 rfl ?_
      refine aw_gfR hC dX9_parks_69 fg_RX9_57 rfl rfl rm_7_0_0 ?_
      refine aw_iload_n hC dX9_parks_72 rfl ?_
      refine aw_guard rfl (fun g13 => ?_)
      refine aw_iald hC dX9_parks_73 rm_7_0_14 rfl rfl g13 rfl ?_
      refine aw_iload_n hC dX9_parks_74 rfl ?_
      refine aw_guard rfl (fun g15 => ?_)
      refine aw_iast hC dX9_parks_75 rm_7_0_13 rfl rfl g15 rfl (fun h14 => ?_)
      refine aw_iinc hC dX9_parks_76 rfl (v := x2 + 1) (by first | rfl | decide) (by decide) ?_
      refine aw_goto hC dX9_parks_79 (tgt := 25) (by decide) ?_
      refine aw_sub [0, 1, 2] ?_
      exact ih25 (x2 + 1) h14
set_option maxHeartbeats 4000000 in
set_option maxRecDepth 100000 in
theorem A_X9_parks (l : Launch) (hl0 : l.stackTraces = false) (D : va_G) (loc : Rf → Nat) (cy : Nat → ClassId) (p1 : Int32) (h : HD) : AM l D loc cy yX9_parks cX9_parks 4 (none) 3 80 [.ref (loc (7, 0, 0)), .int p1] h ((jX9_parks p1 h).map (fun r => (.inr (none), r))) := by
  refine am_start (y := yX9_parks) (av := [.ref (loc (7, 0, 0)), .int p1]) (nL := 4) (h := h) (RF := fun (r : Option HD) => r.map (fun r => (.inr (none), r))) (x := jX9_parks p1 h) hl0 (by decide +kernel) rfl ?_
  intro p e R s m below meth c A hC
  unfold jX9_parks
  refine aw_iconst hC dX9_parks_0 (v := 0) (by decide) ?_
  refine aw_istore_n hC dX9_parks_1 (by decide) ?_
  refine aw_sub [0, 1, 2] ?_
  refine L_X9_parks_2 p1 _ hC ?_ FU (0 : Int32) h
  · intro h4
    refine aw_iconst hC dX9_parks_23 (v := 0) (by decide) ?_
    refine aw_istore_n hC dX9_parks_24 (by decide) ?_
    refine aw_sub [0, 1, 2] ?_
    exact L_X9_parks_25 p1  hC FU (0 : Int32) h4
set_option maxHeartbeats 4000000 in
set_option maxRecDepth 100000 in
theorem L_X9_gapSpot_2 (h : HD) (hC : Cx p l e R s m args meth c D loc cy A cX9_gapSpot 2 (some .int) RX9 0 16 0 0)  : ∀ (n2 : Nat) (x1 : Int32), AW p l e R s m args below meth c D loc cy A 2 (QM below D loc cy A args s) (fun (r : Option Int32) => r.map (fun r => (.inr (some (.int r)), h))) (0, 0) 2 [(0, .ref (loc (7, 0, 0))), (1, .int x1)] [] h (jX9_gapSpot_L2 h n2 x1) := by
  intro n2
  induction n2 with
  | zero => intro x1; exact aw_none rfl
  | succ n2 ih2 =>
    intro x1
    rw [jX9_gapSpot_L2]
    refine aw_aload_n hC dX9_gapSpot_2 rfl ?_
    refine aw_gfR hC dX9_gapSpot_3 fg_RX9_54 rfl rfl rm_7_0_0 ?_
    refine aw_iload_n hC dX9_gapSpot_6 rfl ?_
    refine aw_guard rfl (fun g1 => ?_)
    refine aw_iald hC dX9_gapSpot_7 rm_7_0_13 rfl rfl g1 rfl ?_
    refine aw_iconst hC dX9_gapSpot_8 (v := -1) (by decide) ?_
    refine aw_icmp_eq hC dX9_gapSpot_9 (tgt := 18) (by decide) ?_ ?_
    · refine aw_iload_n hC dX9_gapSpot_18 rfl ?_
      exact aw_iret hC dX9_gapSpot_19 rfl rfl
    · refine aw_iinc hC dX9_gapSpot_12 rfl (v := x1 + 1) (by first | rfl | decide) (by decide) ?_
      refine aw_goto hC dX9_gapSpot_15 (tgt := 2) (by decide) ?_
      refine aw_sub [0, 1] ?_
      exact ih2 (x1 + 1)
set_option maxHeartbeats 4000000 in
set_option maxRecDepth 100000 in
theorem A_X9_gapSpot (l : Launch) (hl0 : l.stackTraces = false) (D : va_G) (loc : Rf → Nat) (cy : Nat → ClassId)  (h : HD) : AM l D loc cy yX9_gapSpot cX9_gapSpot 2 (some .int) 0 16 [.ref (loc (7, 0, 0))] h ((jX9_gapSpot h).map (fun r => (.inr (some (.int r)), h))) := by
  refine am_start (y := yX9_gapSpot) (av := [.ref (loc (7, 0, 0))]) (nL := 2) (h := h) (RF := fun (r : Option Int32) => r.map (fun r => (.inr (some (.int r)), h))) (x := jX9_gapSpot h) hl0 (by decide +kernel) rfl ?_
  intro p e R s m below meth c A hC
  unfold jX9_gapSpot
  refine aw_iconst hC dX9_gapSpot_0 (v := 0) (by decide) ?_
  refine aw_istore_n hC dX9_gapSpot_1 (by decide) ?_
  refine aw_sub [0, 1] ?_
  exact L_X9_gapSpot_2 h  hC FU (0 : Int32)
set_option maxHeartbeats 4000000 in
set_option maxRecDepth 100000 in
theorem A_X9_turnNow (l : Launch) (hl0 : l.stackTraces = false) (D : va_G) (loc : Rf → Nat) (cy : Nat → ClassId)  (h : HD) : AM l D loc cy yX9_turnNow cX9_turnNow 1 (some .int) 1 37 [.ref (loc (7, 0, 0))] h ((jX9_turnNow h).map (fun r => (.inr (some (.int r)), h))) := by
  refine am_start (y := yX9_turnNow) (av := [.ref (loc (7, 0, 0))]) (nL := 1) (h := h) (RF := fun (r : Option Int32) => r.map (fun r => (.inr (some (.int r)), h))) (x := jX9_turnNow h) hl0 (by decide +kernel) rfl ?_
  intro p e R s m below meth c A hC
  unfold jX9_turnNow
  refine aw_aload_n hC dX9_turnNow_0 rfl ?_
  refine aw_gfR hC dX9_turnNow_1 fg_RX9_20 rfl rfl rm_7_0_0 ?_
  refine aw_iconst hC dX9_turnNow_4 (v := 0) (by decide) ?_
  refine aw_iald hC dX9_turnNow_5 rm_7_0_2 rfl rfl (by decide) (k := 0) (by decide) ?_
  refine aw_aload_n hC dX9_turnNow_6 rfl ?_
  refine aw_bind rfl (fun q1 hq1 => ?_)
  refine aw_cVi hC dX9_turnNow_7 cv_RX9_227 rfl rm_7_0_0 (am_some (inj := (fun r => (.inr (some (.int r)), h))) hq1 (A_X9_gapSpot _ (hC.2.2.2.2.2.2.2.2.2.2.2.2.1) _ _ _ h)) rfl rfl rfl rfl rfl ⟨rfl, rfl⟩ ?_
  refine aw_isub hC dX9_turnNow_10 ?_
  exact aw_iret hC dX9_turnNow_11 rfl rfl
set_option maxHeartbeats 4000000 in
set_option maxRecDepth 100000 in
theorem A_X9_turnedWish (l : Launch) (hl0 : l.stackTraces = false) (D : va_G) (loc : Rf → Nat) (cy : Nat → ClassId) (p1 : Int32) (p2 : Int32) (h : HD) : AM l D loc cy yX9_turnedWish cX9_turnedWish 3 (some .int) 2 58 [.ref (loc (7, 0, 0)), .int p1, .int p2] h ((jX9_turnedWish p1 p2 h).map (fun r => (.inr (some (.int r)), h))) := by
  refine am_start (y := yX9_turnedWish) (av := [.ref (loc (7, 0, 0)), .int p1, .int p2]) (nL := 3) (h := h) (RF := fun (r : Option Int32) => r.map (fun r => (.inr (some (.int r)), h))) (x := jX9_turnedWish p1 p2 h) hl0 (by decide +kernel) rfl ?_
  intro p e R s m below meth c A hC
  unfold jX9_turnedWish
  refine aw_aload_n hC dX9_turnedWish_0 rfl ?_
  refine aw_aload_n hC dX9_turnedWish_1 rfl ?_
  refine aw_iload_n hC dX9_turnedWish_2 rfl ?_
  refine aw_bind rfl (fun q1 hq1 => ?_)
  refine aw_cVi hC dX9_turnedWish_3 cv_RX9_221 rfl rm_7_0_0 (am_some (inj := (fun r => (.inr (some (.int r)), h))) hq1 (A_X9_wishOf _ (hC.2.2.2.2.2.2.2.2.2.2.2.2.1) _ _ _ p1 h)) rfl rfl rfl rfl rfl ⟨rfl, rfl⟩ ?_
  refine aw_iload_n hC dX9_turnedWish_6 rfl ?_
  refine aw_iadd hC dX9_turnedWish_7 ?_
  refine aw_bind rfl (fun q2 hq2 => ?_)
  refine aw_cVi hC dX9_turnedWish_8 cv_RX9_218 rfl rm_7_0_0 (am_some (inj := (fun r => (.inr (some (.int r)), h))) hq2 (A_X9_round _ (hC.2.2.2.2.2.2.2.2.2.2.2.2.1) _ _ _ (q1 + p2) h)) rfl rfl rfl rfl rfl ⟨rfl, rfl⟩ ?_
  exact aw_iret hC dX9_turnedWish_11 rfl rfl
set_option maxHeartbeats 4000000 in
set_option maxRecDepth 100000 in
theorem L_X9_lineFor_14 (p1 : Int32) (h : HD) (k51 : Option Int32) (hC : Cx p l e R s m args meth c D loc cy A cX9_lineFor 3 (some .int) RX9 0 16 0 0) (hk51 : AW p l e R s m args below meth c D loc cy A 3 (QM below D loc cy A args s) (fun (r : Option Int32) => r.map (fun r => (.inr (some (.int r)), h))) (0, 0) 51 [(0, .ref (loc (7, 0, 0))), (1, .int p1)] [] h (k51)) : ∀ (n14 : Nat) (x2 : Int32), AW p l e R s m args below meth c D loc cy A 3 (QM below D loc cy A args s) (fun (r : Option Int32) => r.map (fun r => (.inr (some (.int r)), h))) (0, 0) 14 [(0, .ref (loc (7, 0, 0))), (1, .int p1), (2, .int x2)] [] h (jX9_lineFor_L14 p1 h k51 n14 x2) := by
  intro n14
  induction n14 with
  | zero => intro x2; exact aw_none rfl
  | succ n14 ih14 =>
    intro x2
    rw [jX9_lineFor_L14]
    refine aw_iload_n hC dX9_lineFor_14 rfl ?_
    refine aw_aload_n hC dX9_lineFor_15 rfl ?_
    refine aw_gfR hC dX9_lineFor_16 fg_RX9_20 rfl rfl rm_7_0_0 ?_
    refine aw_iconst hC dX9_lineFor_19 (v := 1) (by decide) ?_
    refine aw_iald hC dX9_lineFor_20 rm_7_0_2 rfl rfl (by decide) (k := 1) (by decide) ?_
    refine aw_icmp_gt hC dX9_lineFor_21 (tgt := 51) (by decide) ?_ ?_
    · refine aw_sub [0, 1] ?_
      exact hk51
    · refine aw_iload_n hC dX9_lineFor_24 rfl ?_
      refine aw_iload_n hC dX9_lineFor_25 rfl ?_
      refine aw_icmp_gt hC dX9_lineFor_26 (tgt := 51) (by decide) ?_ ?_
      · refine aw_sub [0, 1] ?_
        exact hk51
      · refine aw_aload_n hC dX9_lineFor_29 rfl ?_
        refine aw_gfR hC dX9_lineFor_30 fg_RX9_63 rfl rfl rm_7_0_0 ?_
        refine aw_iload_n hC dX9_lineFor_33 rfl ?_
        refine aw_iload_n hC dX9_lineFor_34 rfl ?_
        refine aw_isub hC dX9_lineFor_35 ?_
        refine aw_guard rfl (fun g2 => ?_)
        refine aw_iald hC dX9_lineFor_36 rm_7_0_16 rfl rfl g2 rfl ?_
        refine aw_iconst hC dX9_lineFor_37 (v := -1) (by decide) ?_
        refine aw_icmp_ne hC dX9_lineFor_38 (tgt := 45) (by decide) ?_ ?_
        · refine aw_iinc hC dX9_lineFor_45 rfl (v := x2 + 1) (by first | rfl | decide) (by decide) ?_
          refine aw_goto hC dX9_lineFor_48 (tgt := 14) (by decide) ?_
          refine aw_sub [0, 1, 2] ?_
          exact ih14 (x2 + 1)
        · refine aw_iload_n hC dX9_lineFor_41 rfl ?_
          refine aw_iload_n hC dX9_lineFor_42 rfl ?_
          refine aw_isub hC dX9_lineFor_43 ?_
          exact aw_iret hC dX9_lineFor_44 rfl rfl
set_option maxHeartbeats 4000000 in
set_option maxRecDepth 100000 in
theorem L_X9_lineFor_53 (p1 : Int32) (h : HD) (hC : Cx p l e R s m args meth c D loc cy A cX9_lineFor 3 (some .int) RX9 0 16 0 0)  : ∀ (n53 : Nat) (x2 : Int32), AW p l e R s m args below meth c D loc cy A 3 (QM below D loc cy A args s) (fun (r : Option Int32) => r.map (fun r => (.inr (some (.int r)), h))) (0, 0) 53 [(0, .ref (loc (7, 0, 0))), (2, .int x2)] [] h (jX9_lineFor_L53 p1 h n53 x2) := by
  intro n53
  induction n53 with
  | zero => intro x2; exact aw_none rfl
  | succ n53 ih53 =>
    intro x2
    rw [jX9_lineFor_L53]
    refine aw_aload_n hC dX9_lineFor_53 rfl ?_
    refine aw_gfR hC dX9_lineFor_54 fg_RX9_63 rfl rfl rm_7_0_0 ?_
    refine aw_iload_n hC dX9_lineFor_57 rfl ?_
    refine aw_guard rfl (fun g3 => ?_)
    refine aw_iald hC dX9_lineFor_58 rm_7_0_16 rfl rfl g3 rfl ?_
    refine aw_iconst hC dX9_lineFor_59 (v := -1) (by decide) ?_
    refine aw_icmp_eq hC dX9_lineFor_60 (tgt := 69) (by decide) ?_ ?_
    · refine aw_iload_n hC dX9_lineFor_69 rfl ?_
      exact aw_iret hC dX9_lineFor_70 rfl rfl
    · refine aw_iinc hC dX9_lineFor_63 rfl (v := x2 + 1) (by first | rfl | decide) (by decide) ?_
      refine aw_goto hC dX9_lineFor_66 (tgt := 53) (by decide) ?_
      refine aw_sub [0, 2] ?_
      exact ih53 (x2 + 1)
set_option maxHeartbeats 4000000 in
set_option maxRecDepth 100000 in
theorem A_X9_lineFor (l : Launch) (hl0 : l.stackTraces = false) (D : va_G) (loc : Rf → Nat) (cy : Nat → ClassId) (p1 : Int32) (h : HD) : AM l D loc cy yX9_lineFor cX9_lineFor 3 (some .int) 0 16 [.ref (loc (7, 0, 0)), .int p1] h ((jX9_lineFor p1 h).map (fun r => (.inr (some (.int r)), h))) := by
  refine am_start (y := yX9_lineFor) (av := [.ref (loc (7, 0, 0)), .int p1]) (nL := 3) (h := h) (RF := fun (r : Option Int32) => r.map (fun r => (.inr (some (.int r)), h))) (x := jX9_lineFor p1 h) hl0 (by decide +kernel) rfl ?_
  intro p e R s m below meth c A hC
  unfold jX9_lineFor
  refine aw_aload_n hC dX9_lineFor_0 rfl ?_
  refine aw_gfR hC dX9_lineFor_1 fg_RX9_63 rfl rfl rm_7_0_0 ?_
  refine aw_iload_n hC dX9_lineFor_4 rfl ?_
  refine aw_guard rfl (fun g1 => ?_)
  refine aw_iald hC dX9_lineFor_5 rm_7_0_16 rfl rfl g1 rfl ?_
  refine aw_iconst hC dX9_lineFor_6 (v := -1) (by decide) ?_
  refine aw_icmp_ne hC dX9_lineFor_7 (tgt := 12) (by decide) ?_ ?_
  · refine aw_iconst hC dX9_lineFor_12 (v := 1) (by decide) ?_
    refine aw_istore_n hC dX9_lineFor_13 (by decide) ?_
    refine aw_sub [0, 1, 2] ?_
    refine L_X9_lineFor_14 p1 h _ hC ?_ FU (1 : Int32)
    · refine aw_iload_n hC dX9_lineFor_51 rfl ?_
      refine aw_istore_n hC dX9_lineFor_52 (by decide) ?_
      refine aw_sub [0, 2] ?_
      exact L_X9_lineFor_53 p1 h  hC FU p1
  · refine aw_iload_n hC dX9_lineFor_10 rfl ?_
    exact aw_iret hC dX9_lineFor_11 rfl rfl
set_option maxHeartbeats 4000000 in
set_option maxRecDepth 100000 in
theorem L_X9_parksByLine_17 (x1 : Int32) (k38 : HD → Option HD) (hC : Cx p l e R s m args meth c D loc cy A cX9_parksByLine 4 (none) RX9 4 103 0 0) (hk38 : ∀  (h2 : HD), AW p l e R s m args below meth c D loc cy A 4 (QM below D loc cy A args s) (fun (r : Option HD) => r.map (fun r => (.inr (none), r))) (0, 0) 38 [(0, .ref (loc (7, 0, 0))), (1, .int x1)] [] h2 (k38  h2)) : ∀ (n17 : Nat) (x2 : Int32) (h : HD), AW p l e R s m args below meth c D loc cy A 4 (QM below D loc cy A args s) (fun (r : Option HD) => r.map (fun r => (.inr (none), r))) (0, 0) 17 [(0, .ref (loc (7, 0, 0))), (1, .int x1), (2, .int x2)] [] h (jX9_parksByLine_L17 x1 k38 n17 x2 h) := by
  intro n17
  induction n17 with
  | zero => intro x2 h; exact aw_none rfl
  | succ n17 ih17 =>
    intro x2 h
    rw [jX9_parksByLine_L17]
    refine aw_iload_n hC dX9_parksByLine_17 rfl ?_
    refine aw_aload_n hC dX9_parksByLine_18 rfl ?_
    refine aw_bind rfl (fun q3 hq3 => ?_)
    refine aw_cVi hC dX9_parksByLine_19 cv_RX9_214 rfl rm_7_0_0 (am_some (inj := (fun r => (.inr (some (.int r)), h))) hq3 (A_X9_spots _ (hC.2.2.2.2.2.2.2.2.2.2.2.2.1) _ _ _ h)) rfl rfl rfl rfl rfl ⟨rfl, rfl⟩ ?_
    refine aw_icmp_ge hC dX9_parksByLine_22 (tgt := 38) (by decide) ?_ ?_
    · refine aw_sub [0, 1] ?_
      exact hk38 h
    · refine aw_aload_n hC dX9_parksByLine_25 rfl ?_
      refine aw_gfR hC dX9_parksByLine_26 fg_RX9_63 rfl rfl rm_7_0_0 ?_
      refine aw_iload_n hC dX9_parksByLine_29 rfl ?_
      refine aw_iconst hC dX9_parksByLine_30 (v := -1) (by decide) ?_
      refine aw_guard rfl (fun g5 => ?_)
      refine aw_iast hC dX9_parksByLine_31 rm_7_0_16 rfl rfl g5 rfl (fun h4 => ?_)
      refine aw_iinc hC dX9_parksByLine_32 rfl (v := x2 + 1) (by first | rfl | decide) (by decide) ?_
      refine aw_goto hC dX9_parksByLine_35 (tgt := 17) (by decide) ?_
      refine aw_sub [0, 1, 2] ?_
      exact ih17 (x2 + 1) h4
set_option maxHeartbeats 4000000 in
set_option maxRecDepth 100000 in
theorem L_X9_parksByLine_40 (x1 : Int32) (hC : Cx p l e R s m args meth c D loc cy A cX9_parksByLine 4 (none) RX9 4 103 0 0)  : ∀ (n40 : Nat) (x2 : Int32) (h : HD), AW p l e R s m args below meth c D loc cy A 4 (QM below D loc cy A args s) (fun (r : Option HD) => r.map (fun r => (.inr (none), r))) (0, 0) 40 [(0, .ref (loc (7, 0, 0))), (1, .int x1), (2, .int x2)] [] h (jX9_parksByLine_L40 x1 n40 x2 h) := by
  intro n40
  induction n40 with
  | zero => intro x2 h; exact aw_none rfl
  | succ n40 ih40 =>
    intro x2 h
    rw [jX9_parksByLine_L40]
    refine aw_iload_n hC dX9_parksByLine_40 rfl ?_
    refine aw_aload_n hC dX9_parksByLine_41 rfl ?_
    refine aw_gfR hC dX9_parksByLine_42 fg_RX9_20 rfl rfl rm_7_0_0 ?_
    refine aw_iconst hC dX9_parksByLine_45 (v := 0) (by decide) ?_
    refine aw_iald hC dX9_parksByLine_46 rm_7_0_2 rfl rfl (by decide) (k := 0) (by decide) ?_
    refine aw_icmp_ge hC dX9_parksByLine_47 (tgt := 87) (by decide) ?_ ?_
    · exact aw_vret hC dX9_parksByLine_87 rfl rfl
    · refine aw_aload_n hC dX9_parksByLine_50 rfl ?_
      refine aw_aload_n hC dX9_parksByLine_51 rfl ?_
      refine aw_iload_n hC dX9_parksByLine_52 rfl ?_
      refine aw_iload_n hC dX9_parksByLine_53 rfl ?_
      refine aw_bind rfl (fun q7 hq7 => ?_)
      refine aw_cVi hC dX9_parksByLine_54 cv_RX9_236 rfl rm_7_0_0 (am_some (inj := (fun r => (.inr (some (.int r)), h))) hq7 (A_X9_turnedWish _ (hC.2.2.2.2.2.2.2.2.2.2.2.2.1) _ _ _ x2 x1 h)) rfl rfl rfl rfl rfl ⟨rfl, rfl⟩ ?_
      refine aw_bind rfl (fun q8 hq8 => ?_)
      refine aw_cVi hC dX9_parksByLine_57 cv_RX9_239 rfl rm_7_0_0 (am_some (inj := (fun r => (.inr (some (.int r)), h))) hq8 (A_X9_lineFor _ (hC.2.2.2.2.2.2.2.2.2.2.2.2.1) _ _ _ q7 h)) rfl rfl rfl rfl rfl ⟨rfl, rfl⟩ ?_
      refine aw_istore_n hC dX9_parksByLine_60 (by decide) ?_
      refine aw_aload_n hC dX9_parksByLine_61 rfl ?_
      refine aw_gfR hC dX9_parksByLine_62 fg_RX9_63 rfl rfl rm_7_0_0 ?_
      refine aw_iload_n hC dX9_parksByLine_65 rfl ?_
      refine aw_iload_n hC dX9_parksByLine_66 rfl ?_
      refine aw_guard rfl (fun g10 => ?_)
      refine aw_iast hC dX9_parksByLine_67 rm_7_0_16 rfl rfl g10 rfl (fun h9 => ?_)
      refine aw_aload_n hC dX9_parksByLine_68 rfl ?_
      refine aw_gfR hC dX9_parksByLine_69 fg_RX9_66 rfl rfl rm_7_0_0 ?_
      refine aw_iload_n hC dX9_parksByLine_72 rfl ?_
      refine aw_aload_n hC dX9_parksByLine_73 rfl ?_
      refine aw_iload_n hC dX9_parksByLine_74 rfl ?_
      refine aw_iload_n hC dX9_parksByLine_75 rfl ?_
      refine aw_isub hC dX9_parksByLine_76 ?_
      refine aw_bind rfl (fun q11 hq11 => ?_)
      refine aw_cVi hC dX9_parksByLine_77 cv_RX9_218 rfl rm_7_0_0 (am_some (inj := (fun r => (.inr (some (.int r)), h9))) hq11 (A_X9_round _ (hC.2.2.2.2.2.2.2.2.2.2.2.2.1) _ _ _ (q8 - x1) h9)) rfl rfl rfl rfl rfl ⟨rfl, rfl⟩ ?_
      refine aw_guard rfl (fun g13 => ?_)
      refine aw_iast hC dX9_parksByLine_80 rm_7_0_17 rfl rfl g13 rfl (fun h12 => ?_)
      refine aw_iinc hC dX9_parksByLine_81 rfl (v := x2 + 1) (by first | rfl | decide) (by decide) ?_
      refine aw_goto hC dX9_parksByLine_84 (tgt := 40) (by decide) ?_
      refine aw_sub [0, 1, 2] ?_
      exact ih40 (x2 + 1) h12
set_option maxHeartbeats 4000000 in
set_option maxRecDepth 100000 in
theorem A_X9_parksByLine (l : Launch) (hl0 : l.stackTraces = false) (D : va_G) (loc : Rf → Nat) (cy : Nat → ClassId)  (h : HD) : AM l D loc cy yX9_parksByLine cX9_parksByLine 4 (none) 4 103 [.ref (loc (7, 0, 0))] h ((jX9_parksByLine h).map (fun r => (.inr (none), r))) := by
  refine am_start (y := yX9_parksByLine) (av := [.ref (loc (7, 0, 0))]) (nL := 4) (h := h) (RF := fun (r : Option HD) => r.map (fun r => (.inr (none), r))) (x := jX9_parksByLine h) hl0 (by decide +kernel) rfl ?_
  intro p e R s m below meth c A hC
  unfold jX9_parksByLine
  refine aw_aload_n hC dX9_parksByLine_0 rfl ?_
  refine aw_aload_n hC dX9_parksByLine_1 rfl ?_
  refine aw_gfR hC dX9_parksByLine_2 fg_RX9_20 rfl rfl rm_7_0_0 ?_
  refine aw_iconst hC dX9_parksByLine_5 (v := 0) (by decide) ?_
  refine aw_iald hC dX9_parksByLine_6 rm_7_0_2 rfl rfl (by decide) (k := 0) (by decide) ?_
  refine aw_bind rfl (fun q1 hq1 => ?_)
  refine aw_cVv hC dX9_parksByLine_7 cv_RX9_230 rfl rm_7_0_0 (am_some (inj := (fun r => (.inr (none), r))) hq1 (A_X9_parks _ (hC.2.2.2.2.2.2.2.2.2.2.2.2.1) _ _ _ (gI h (7, 0, 2) 0) h)) rfl rfl rfl rfl rfl ⟨rfl, rfl⟩ ?_
  refine aw_aload_n hC dX9_parksByLine_10 rfl ?_
  refine aw_bind rfl (fun q2 hq2 => ?_)
  refine aw_cVi hC dX9_parksByLine_11 cv_RX9_233 rfl rm_7_0_0 (am_some (inj := (fun r => (.inr (some (.int r)), q1))) hq2 (A_X9_turnNow _ (hC.2.2.2.2.2.2.2.2.2.2.2.2.1) _ _ _ q1)) rfl rfl rfl rfl rfl ⟨rfl, rfl⟩ ?_
  refine aw_istore_n hC dX9_parksByLine_14 (by decide) ?_
  refine aw_iconst hC dX9_parksByLine_15 (v := 0) (by decide) ?_
  refine aw_istore_n hC dX9_parksByLine_16 (by decide) ?_
  refine aw_sub [0, 1, 2] ?_
  refine L_X9_parksByLine_17 q2 _ hC ?_ FU (0 : Int32) q1
  · intro h6
    refine aw_iconst hC dX9_parksByLine_38 (v := 0) (by decide) ?_
    refine aw_istore_n hC dX9_parksByLine_39 (by decide) ?_
    refine aw_sub [0, 1, 2] ?_
    exact L_X9_parksByLine_40 q2  hC FU (0 : Int32) h6
set_option maxHeartbeats 4000000 in
set_option maxRecDepth 100000 in
theorem L_X9_luckyMany_4 (h : HD) (hC : Cx p l e R s m args meth c D loc cy A cX9_luckyMany 3 (some .int) RX9 1 36 0 0)  : ∀ (n4 : Nat) (x1 : Int32) (x2 : Int32), AW p l e R s m args below meth c D loc cy A 3 (QM below D loc cy A args s) (fun (r : Option Int32) => r.map (fun r => (.inr (some (.int r)), h))) (0, 0) 4 [(0, .ref (loc (7, 0, 0))), (1, .int x1), (2, .int x2)] [] h (jX9_luckyMany_L4 h n4 x1 x2) := by
  intro n4
  induction n4 with
  | zero => intro x1 x2; exact aw_none rfl
  | succ n4 ih4 =>
    intro x1 x2
    rw [jX9_luckyMany_L4]
    refine aw_iload_n hC dX9_luckyMany_4 rfl ?_
    refine aw_aload_n hC dX9_luckyMany_5 rfl ?_
    refine aw_gfR hC dX9_luckyMany_6 fg_RX9_20 rfl rfl rm_7_0_0 ?_
    refine aw_iconst hC dX9_luckyMany_9 (v := 0) (by decide) ?_
    refine aw_iald hC dX9_luckyMany_10 rm_7_0_2 rfl rfl (by decide) (k := 0) (by decide) ?_
    refine aw_icmp_ge hC dX9_luckyMany_11 (tgt := 40) (by decide) ?_ ?_
    · refine aw_iload_n hC dX9_luckyMany_40 rfl ?_
      exact aw_iret hC dX9_luckyMany_41 rfl rfl
    · refine aw_iload_n hC dX9_luckyMany_14 rfl ?_
      refine aw_aload_n hC dX9_luckyMany_15 rfl ?_
      refine aw_gfR hC dX9_luckyMany_16 fg_RX9_60 rfl rfl rm_7_0_0 ?_
      refine aw_iload_n hC dX9_luckyMany_19 rfl ?_
      refine aw_guard rfl (fun g1 => ?_)
      refine aw_iald hC dX9_luckyMany_20 rm_7_0_15 rfl rfl g1 rfl ?_
      refine aw_if_ne hC dX9_luckyMany_21 (tgt := 28) (by decide) ?_ ?_
      · refine aw_iconst hC dX9_luckyMany_28 (v := 0) (by decide) ?_
        refine aw_cSi hC dX9_luckyMany_29 cv_RX9_115 (A_X9_truth _ (hC.2.2.2.2.2.2.2.2.2.2.2.2.1) _ _ _ false h) rfl rfl rfl rfl rfl ⟨rfl, rfl⟩ ?_
        refine aw_iadd hC dX9_luckyMany_32 ?_
        refine aw_istore_n hC dX9_luckyMany_33 (by decide) ?_
        refine aw_iinc hC dX9_luckyMany_34 rfl (v := x2 + 1) (by first | rfl | decide) (by decide) ?_
        refine aw_goto hC dX9_luckyMany_37 (tgt := 4) (by decide) ?_
        refine aw_sub [0, 1, 2] ?_
        exact ih4 (x1 + (jX9_truth false h)) (x2 + 1)
      · refine aw_iconst hC dX9_luckyMany_24 (v := 1) (by decide) ?_
        refine aw_goto hC dX9_luckyMany_25 (tgt := 29) (by decide) ?_
        refine aw_cSi hC dX9_luckyMany_29 cv_RX9_115 (A_X9_truth _ (hC.2.2.2.2.2.2.2.2.2.2.2.2.1) _ _ _ true h) rfl rfl rfl rfl rfl ⟨rfl, rfl⟩ ?_
        refine aw_iadd hC dX9_luckyMany_32 ?_
        refine aw_istore_n hC dX9_luckyMany_33 (by decide) ?_
        refine aw_iinc hC dX9_luckyMany_34 rfl (v := x2 + 1) (by first | rfl | decide) (by decide) ?_
        refine aw_goto hC dX9_luckyMany_37 (tgt := 4) (by decide) ?_
        refine aw_sub [0, 1, 2] ?_
        exact ih4 (x1 + (jX9_truth true h)) (x2 + 1)
set_option maxHeartbeats 4000000 in
set_option maxRecDepth 100000 in
theorem A_X9_luckyMany (l : Launch) (hl0 : l.stackTraces = false) (D : va_G) (loc : Rf → Nat) (cy : Nat → ClassId)  (h : HD) : AM l D loc cy yX9_luckyMany cX9_luckyMany 3 (some .int) 1 36 [.ref (loc (7, 0, 0))] h ((jX9_luckyMany h).map (fun r => (.inr (some (.int r)), h))) := by
  refine am_start (y := yX9_luckyMany) (av := [.ref (loc (7, 0, 0))]) (nL := 3) (h := h) (RF := fun (r : Option Int32) => r.map (fun r => (.inr (some (.int r)), h))) (x := jX9_luckyMany h) hl0 (by decide +kernel) rfl ?_
  intro p e R s m below meth c A hC
  unfold jX9_luckyMany
  refine aw_iconst hC dX9_luckyMany_0 (v := 0) (by decide) ?_
  refine aw_istore_n hC dX9_luckyMany_1 (by decide) ?_
  refine aw_iconst hC dX9_luckyMany_2 (v := 0) (by decide) ?_
  refine aw_istore_n hC dX9_luckyMany_3 (by decide) ?_
  refine aw_sub [0, 1, 2] ?_
  exact L_X9_luckyMany_4 h  hC FU (0 : Int32) (0 : Int32)
set_option maxHeartbeats 4000000 in
set_option maxRecDepth 100000 in
theorem L_X9_area_4 (h : HD) (hC : Cx p l e R s m args meth c D loc cy A cX9_area 3 (some .int) RX9 0 16 0 0)  : ∀ (n4 : Nat) (x1 : Int32) (x2 : Int32), AW p l e R s m args below meth c D loc cy A 3 (QM below D loc cy A args s) (fun (r : Option Int32) => r.map (fun r => (.inr (some (.int r)), h))) (0, 0) 4 [(0, .ref (loc (7, 0, 0))), (1, .int x1), (2, .int x2)] [] h (jX9_area_L4 h n4 x1 x2) := by
  intro n4
  induction n4 with
  | zero => intro x1 x2; exact aw_none rfl
  | succ n4 ih4 =>
    intro x1 x2
    rw [jX9_area_L4]
    refine aw_iload_n hC dX9_area_4 rfl ?_
    refine aw_aload_n hC dX9_area_5 rfl ?_
    refine aw_gfR hC dX9_area_6 fg_RX9_20 rfl rfl rm_7_0_0 ?_
    refine aw_iconst hC dX9_area_9 (v := 0) (by decide) ?_
    refine aw_iald hC dX9_area_10 rm_7_0_2 rfl rfl (by decide) (k := 0) (by decide) ?_
    refine aw_icmp_ge hC dX9_area_11 (tgt := 29) (by decide) ?_ ?_
    · refine aw_iload_n hC dX9_area_29 rfl ?_
      exact aw_iret hC dX9_area_30 rfl rfl
    · refine aw_iload_n hC dX9_area_14 rfl ?_
      refine aw_aload_n hC dX9_area_15 rfl ?_
      refine aw_gfR hC dX9_area_16 fg_RX9_60 rfl rfl rm_7_0_0 ?_
      refine aw_iload_n hC dX9_area_19 rfl ?_
      refine aw_guard rfl (fun g1 => ?_)
      refine aw_iald hC dX9_area_20 rm_7_0_15 rfl rfl g1 rfl ?_
      refine aw_iadd hC dX9_area_21 ?_
      refine aw_istore_n hC dX9_area_22 (by decide) ?_
      refine aw_iinc hC dX9_area_23 rfl (v := x2 + 1) (by first | rfl | decide) (by decide) ?_
      refine aw_goto hC dX9_area_26 (tgt := 4) (by decide) ?_
      refine aw_sub [0, 1, 2] ?_
      exact ih4 (x1 + (gI h (7, 0, 15) x2.toNatClampNeg)) (x2 + 1)
set_option maxHeartbeats 4000000 in
set_option maxRecDepth 100000 in
theorem A_X9_area (l : Launch) (hl0 : l.stackTraces = false) (D : va_G) (loc : Rf → Nat) (cy : Nat → ClassId)  (h : HD) : AM l D loc cy yX9_area cX9_area 3 (some .int) 0 16 [.ref (loc (7, 0, 0))] h ((jX9_area h).map (fun r => (.inr (some (.int r)), h))) := by
  refine am_start (y := yX9_area) (av := [.ref (loc (7, 0, 0))]) (nL := 3) (h := h) (RF := fun (r : Option Int32) => r.map (fun r => (.inr (some (.int r)), h))) (x := jX9_area h) hl0 (by decide +kernel) rfl ?_
  intro p e R s m below meth c A hC
  unfold jX9_area
  refine aw_iconst hC dX9_area_0 (v := 0) (by decide) ?_
  refine aw_istore_n hC dX9_area_1 (by decide) ?_
  refine aw_iconst hC dX9_area_2 (v := 0) (by decide) ?_
  refine aw_istore_n hC dX9_area_3 (by decide) ?_
  refine aw_sub [0, 1, 2] ?_
  exact L_X9_area_4 h  hC FU (0 : Int32) (0 : Int32)
set_option maxHeartbeats 4000000 in
set_option maxRecDepth 100000 in
theorem L_X9_way_4 (h : HD) (hC : Cx p l e R s m args meth c D loc cy A cX9_way 3 (some .int) RX9 1 36 0 0)  : ∀ (n4 : Nat) (x1 : Int32) (x2 : Int32), AW p l e R s m args below meth c D loc cy A 3 (QM below D loc cy A args s) (fun (r : Option Int32) => r.map (fun r => (.inr (some (.int r)), h))) (0, 0) 4 [(0, .ref (loc (7, 0, 0))), (1, .int x1), (2, .int x2)] [] h (jX9_way_L4 h n4 x1 x2) := by
  intro n4
  induction n4 with
  | zero => intro x1 x2; exact aw_none rfl
  | succ n4 ih4 =>
    intro x1 x2
    rw [jX9_way_L4]
    refine aw_iload_n hC dX9_way_4 rfl ?_
    refine aw_aload_n hC dX9_way_5 rfl ?_
    refine aw_gfR hC dX9_way_6 fg_RX9_20 rfl rfl rm_7_0_0 ?_
    refine aw_iconst hC dX9_way_9 (v := 0) (by decide) ?_
    refine aw_iald hC dX9_way_10 rm_7_0_2 rfl rfl (by decide) (k := 0) (by decide) ?_
    refine aw_icmp_ge hC dX9_way_11 (tgt := 32) (by decide) ?_ ?_
    · refine aw_iload_n hC dX9_way_32 rfl ?_
      exact aw_iret hC dX9_way_33 rfl rfl
    · refine aw_iload_n hC dX9_way_14 rfl ?_
      refine aw_aload_n hC dX9_way_15 rfl ?_
      refine aw_gfR hC dX9_way_16 fg_RX9_60 rfl rfl rm_7_0_0 ?_
      refine aw_iload_n hC dX9_way_19 rfl ?_
      refine aw_guard rfl (fun g1 => ?_)
      refine aw_iald hC dX9_way_20 rm_7_0_15 rfl rfl g1 rfl ?_
      refine aw_cSi hC dX9_way_21 cv_RX9_242 (A_X9_plain _ (hC.2.2.2.2.2.2.2.2.2.2.2.2.1) _ _ _ (gI h (7, 0, 15) x2.toNatClampNeg) h) rfl rfl rfl rfl rfl ⟨rfl, rfl⟩ ?_
      refine aw_iadd hC dX9_way_24 ?_
      refine aw_istore_n hC dX9_way_25 (by decide) ?_
      refine aw_iinc hC dX9_way_26 rfl (v := x2 + 1) (by first | rfl | decide) (by decide) ?_
      refine aw_goto hC dX9_way_29 (tgt := 4) (by decide) ?_
      refine aw_sub [0, 1, 2] ?_
      exact ih4 (x1 + (jX9_plain (gI h (7, 0, 15) x2.toNatClampNeg) h)) (x2 + 1)
set_option maxHeartbeats 4000000 in
set_option maxRecDepth 100000 in
theorem A_X9_way (l : Launch) (hl0 : l.stackTraces = false) (D : va_G) (loc : Rf → Nat) (cy : Nat → ClassId)  (h : HD) : AM l D loc cy yX9_way cX9_way 3 (some .int) 1 36 [.ref (loc (7, 0, 0))] h ((jX9_way h).map (fun r => (.inr (some (.int r)), h))) := by
  refine am_start (y := yX9_way) (av := [.ref (loc (7, 0, 0))]) (nL := 3) (h := h) (RF := fun (r : Option Int32) => r.map (fun r => (.inr (some (.int r)), h))) (x := jX9_way h) hl0 (by decide +kernel) rfl ?_
  intro p e R s m below meth c A hC
  unfold jX9_way
  refine aw_iconst hC dX9_way_0 (v := 0) (by decide) ?_
  refine aw_istore_n hC dX9_way_1 (by decide) ?_
  refine aw_iconst hC dX9_way_2 (v := 0) (by decide) ?_
  refine aw_istore_n hC dX9_way_3 (by decide) ?_
  refine aw_sub [0, 1, 2] ?_
  exact L_X9_way_4 h  hC FU (0 : Int32) (0 : Int32)
set_option maxHeartbeats 4000000 in
set_option maxRecDepth 100000 in
theorem L_X9_isBreak_10 (p1 : Int32) (x2 : Int32) (h : HD) (k49 : Int32 → Option Bool) (hC : Cx p l e R s m args meth c D loc cy A cX9_isBreak 5 (some .boolean) RX9 3 80 0 0) (hk49 : ∀ (x3 : Int32), AW p l e R s m args below meth c D loc cy A 5 (QM below D loc cy A args s) (fun (r : Option Bool) => r.map (fun r => (.inr (some (.int (b2i r))), h))) (0, 0) 49 [(1, .int p1), (3, .int x3)] [] h (k49 x3)) : ∀ (n10 : Nat) (x3 : Int32) (x4 : Int32), AW p l e R s m args below meth c D loc cy A 5 (QM below D loc cy A args s) (fun (r : Option Bool) => r.map (fun r => (.inr (some (.int (b2i r))), h))) (0, 0) 10 [(0, .ref (loc (7, 0, 0))), (1, .int p1), (2, .int x2), (3, .int x3), (4, .int x4)] [] h (jX9_isBreak_L10 p1 x2 h k49 n10 x3 x4) := by
  intro n10
  induction n10 with
  | zero => intro x3 x4; exact aw_none rfl
  | succ n10 ih10 =>
    intro x3 x4
    rw [jX9_isBreak_L10]
    refine aw_iload hC dX9_isBreak_10 rfl ?_
    refine aw_aload_n hC dX9_isBreak_12 rfl ?_
    refine aw_gfR hC dX9_isBreak_13 fg_RX9_20 rfl rfl rm_7_0_0 ?_
    refine aw_iconst hC dX9_isBreak_16 (v := 0) (by decide) ?_
    refine aw_iald hC dX9_isBreak_17 rm_7_0_2 rfl rfl (by decide) (k := 0) (by decide) ?_
    refine aw_icmp_ge hC dX9_isBreak_18 (tgt := 49) (by decide) ?_ ?_
    · refine aw_sub [1, 3] ?_
      exact hk49 x3
    · refine aw_iload_n hC dX9_isBreak_21 rfl ?_
      refine aw_aload_n hC dX9_isBreak_22 rfl ?_
      refine aw_iload hC dX9_isBreak_23 rfl ?_
      refine aw_iload_n hC dX9_isBreak_25 rfl ?_
      refine aw_bind rfl (fun q2 hq2 => ?_)
      refine aw_cVi hC dX9_isBreak_26 cv_RX9_236 rfl rm_7_0_0 (am_some (inj := (fun r => (.inr (some (.int r)), h))) hq2 (A_X9_turnedWish _ (hC.2.2.2.2.2.2.2.2.2.2.2.2.1) _ _ _ x4 x2 h)) rfl rfl rfl rfl rfl ⟨rfl, rfl⟩ ?_
      refine aw_iload_n hC dX9_isBreak_29 rfl ?_
      refine aw_icmp_ge hC dX9_isBreak_30 (tgt := 37) (by decide) ?_ ?_
      · refine aw_iconst hC dX9_isBreak_37 (v := 0) (by decide) ?_
        refine aw_cSi hC dX9_isBreak_38 cv_RX9_115 (A_X9_truth _ (hC.2.2.2.2.2.2.2.2.2.2.2.2.1) _ _ _ false h) rfl rfl rfl rfl rfl ⟨rfl, rfl⟩ ?_
        refine aw_iadd hC dX9_isBreak_41 ?_
        refine aw_istore_n hC dX9_isBreak_42 (by decide) ?_
        refine aw_iinc hC dX9_isBreak_43 rfl (v := x4 + 1) (by first | rfl | decide) (by decide) ?_
        refine aw_goto hC dX9_isBreak_46 (tgt := 10) (by decide) ?_
        refine aw_sub [0, 1, 2, 3, 4] ?_
        exact ih10 (x3 + (jX9_truth false h)) (x4 + 1)
      · refine aw_iconst hC dX9_isBreak_33 (v := 1) (by decide) ?_
        refine aw_goto hC dX9_isBreak_34 (tgt := 38) (by decide) ?_
        refine aw_cSi hC dX9_isBreak_38 cv_RX9_115 (A_X9_truth _ (hC.2.2.2.2.2.2.2.2.2.2.2.2.1) _ _ _ true h) rfl rfl rfl rfl rfl ⟨rfl, rfl⟩ ?_
        refine aw_iadd hC dX9_isBreak_41 ?_
        refine aw_istore_n hC dX9_isBreak_42 (by decide) ?_
        refine aw_iinc hC dX9_isBreak_43 rfl (v := x4 + 1) (by first | rfl | decide) (by decide) ?_
        refine aw_goto hC dX9_isBreak_46 (tgt := 10) (by decide) ?_
        refine aw_sub [0, 1, 2, 3, 4] ?_
        exact ih10 (x3 + (jX9_truth true h)) (x4 + 1)
set_option maxHeartbeats 4000000 in
set_option maxRecDepth 100000 in
theorem A_X9_isBreak (l : Launch) (hl0 : l.stackTraces = false) (D : va_G) (loc : Rf → Nat) (cy : Nat → ClassId) (p1 : Int32) (h : HD) : AM l D loc cy yX9_isBreak cX9_isBreak 5 (some .boolean) 3 80 [.ref (loc (7, 0, 0)), .int p1] h ((jX9_isBreak p1 h).map (fun r => (.inr (some (.int (b2i r))), h))) := by
  refine am_start (y := yX9_isBreak) (av := [.ref (loc (7, 0, 0)), .int p1]) (nL := 5) (h := h) (RF := fun (r : Option Bool) => r.map (fun r => (.inr (some (.int (b2i r))), h))) (x := jX9_isBreak p1 h) hl0 (by decide +kernel) rfl ?_
  intro p e R s m below meth c A hC
  unfold jX9_isBreak
  refine aw_aload_n hC dX9_isBreak_0 rfl ?_
  refine aw_bind rfl (fun q1 hq1 => ?_)
  refine aw_cVi hC dX9_isBreak_1 cv_RX9_233 rfl rm_7_0_0 (am_some (inj := (fun r => (.inr (some (.int r)), h))) hq1 (A_X9_turnNow _ (hC.2.2.2.2.2.2.2.2.2.2.2.2.1) _ _ _ h)) rfl rfl rfl rfl rfl ⟨rfl, rfl⟩ ?_
  refine aw_istore_n hC dX9_isBreak_4 (by decide) ?_
  refine aw_iconst hC dX9_isBreak_5 (v := 0) (by decide) ?_
  refine aw_istore_n hC dX9_isBreak_6 (by decide) ?_
  refine aw_iconst hC dX9_isBreak_7 (v := 0) (by decide) ?_
  refine aw_istore hC dX9_isBreak_8 (by decide) ?_
  refine aw_sub [0, 1, 2, 3, 4] ?_
  refine L_X9_isBreak_10 p1 q1 h _ hC ?_ FU (0 : Int32) (0 : Int32)
  · intro y10_3
    refine aw_iload_n hC dX9_isBreak_49 rfl ?_
    refine aw_iload_n hC dX9_isBreak_50 rfl ?_
    refine aw_icmp_ne hC dX9_isBreak_51 (tgt := 58) (by decide) ?_ ?_
    · refine aw_iconst hC dX9_isBreak_58 (v := 0) (by decide) ?_
      exact aw_zret hC dX9_isBreak_59 rfl (show _ = b2i false from rfl) rfl
    · refine aw_iconst hC dX9_isBreak_54 (v := 1) (by decide) ?_
      refine aw_goto hC dX9_isBreak_55 (tgt := 59) (by decide) ?_
      exact aw_zret hC dX9_isBreak_59 rfl (show _ = b2i true from rfl) rfl
set_option maxHeartbeats 4000000 in
set_option maxRecDepth 100000 in
theorem L_X9_breaks_4 (h : HD) (hC : Cx p l e R s m args meth c D loc cy A cX9_breaks 3 (some .int) RX9 4 104 0 0)  : ∀ (n4 : Nat) (x1 : Int32) (x2 : Int32), AW p l e R s m args below meth c D loc cy A 3 (QM below D loc cy A args s) (fun (r : Option Int32) => r.map (fun r => (.inr (some (.int r)), h))) (0, 0) 4 [(0, .ref (loc (7, 0, 0))), (1, .int x1), (2, .int x2)] [] h (jX9_breaks_L4 h n4 x1 x2) := by
  intro n4
  induction n4 with
  | zero => intro x1 x2; exact aw_none rfl
  | succ n4 ih4 =>
    intro x1 x2
    rw [jX9_breaks_L4]
    refine aw_iload_n hC dX9_breaks_4 rfl ?_
    refine aw_aload_n hC dX9_breaks_5 rfl ?_
    refine aw_gfR hC dX9_breaks_6 fg_RX9_20 rfl rfl rm_7_0_0 ?_
    refine aw_iconst hC dX9_breaks_9 (v := 0) (by decide) ?_
    refine aw_iald hC dX9_breaks_10 rm_7_0_2 rfl rfl (by decide) (k := 0) (by decide) ?_
    refine aw_icmp_gt hC dX9_breaks_11 (tgt := 31) (by decide) ?_ ?_
    · refine aw_iload_n hC dX9_breaks_31 rfl ?_
      exact aw_iret hC dX9_breaks_32 rfl rfl
    · refine aw_iload_n hC dX9_breaks_14 rfl ?_
      refine aw_aload_n hC dX9_breaks_15 rfl ?_
      refine aw_iload_n hC dX9_breaks_16 rfl ?_
      refine aw_bind rfl (fun q1 hq1 => ?_)
      refine aw_cVb hC dX9_breaks_17 cv_RX9_245 rfl rm_7_0_0 (am_some (inj := (fun r => (.inr (some (.int (b2i r))), h))) hq1 (A_X9_isBreak _ (hC.2.2.2.2.2.2.2.2.2.2.2.2.1) _ _ _ x2 h)) rfl rfl rfl rfl rfl ⟨rfl, rfl⟩ ?_
      refine aw_cSi hC dX9_breaks_20 cv_RX9_115 (A_X9_truth _ (hC.2.2.2.2.2.2.2.2.2.2.2.2.1) _ _ _ q1 h) rfl rfl rfl rfl rfl ⟨rfl, rfl⟩ ?_
      refine aw_iadd hC dX9_breaks_23 ?_
      refine aw_istore_n hC dX9_breaks_24 (by decide) ?_
      refine aw_iinc hC dX9_breaks_25 rfl (v := x2 + 1) (by first | rfl | decide) (by decide) ?_
      refine aw_goto hC dX9_breaks_28 (tgt := 4) (by decide) ?_
      refine aw_sub [0, 1, 2] ?_
      exact ih4 (x1 + (jX9_truth q1 h)) (x2 + 1)
set_option maxHeartbeats 4000000 in
set_option maxRecDepth 100000 in
theorem A_X9_breaks (l : Launch) (hl0 : l.stackTraces = false) (D : va_G) (loc : Rf → Nat) (cy : Nat → ClassId)  (h : HD) : AM l D loc cy yX9_breaks cX9_breaks 3 (some .int) 4 104 [.ref (loc (7, 0, 0))] h ((jX9_breaks h).map (fun r => (.inr (some (.int r)), h))) := by
  refine am_start (y := yX9_breaks) (av := [.ref (loc (7, 0, 0))]) (nL := 3) (h := h) (RF := fun (r : Option Int32) => r.map (fun r => (.inr (some (.int r)), h))) (x := jX9_breaks h) hl0 (by decide +kernel) rfl ?_
  intro p e R s m below meth c A hC
  unfold jX9_breaks
  refine aw_iconst hC dX9_breaks_0 (v := 0) (by decide) ?_
  refine aw_istore_n hC dX9_breaks_1 (by decide) ?_
  refine aw_iconst hC dX9_breaks_2 (v := 1) (by decide) ?_
  refine aw_istore_n hC dX9_breaks_3 (by decide) ?_
  refine aw_sub [0, 1, 2] ?_
  exact L_X9_breaks_4 h  hC FU (0 : Int32) (1 : Int32)
set_option maxHeartbeats 4000000 in
set_option maxRecDepth 100000 in
theorem L_X9_wants_4 (p1 : Int32) (h : HD) (hC : Cx p l e R s m args meth c D loc cy A cX9_wants 4 (some .int) RX9 1 37 0 0)  : ∀ (n4 : Nat) (x2 : Int32) (x3 : Int32), AW p l e R s m args below meth c D loc cy A 4 (QM below D loc cy A args s) (fun (r : Option Int32) => r.map (fun r => (.inr (some (.int r)), h))) (0, 0) 4 [(0, .ref (loc (7, 0, 0))), (1, .int p1), (2, .int x2), (3, .int x3)] [] h (jX9_wants_L4 p1 h n4 x2 x3) := by
  intro n4
  induction n4 with
  | zero => intro x2 x3; exact aw_none rfl
  | succ n4 ih4 =>
    intro x2 x3
    rw [jX9_wants_L4]
    refine aw_iload_n hC dX9_wants_4 rfl ?_
    refine aw_aload_n hC dX9_wants_5 rfl ?_
    refine aw_gfR hC dX9_wants_6 fg_RX9_20 rfl rfl rm_7_0_0 ?_
    refine aw_iconst hC dX9_wants_9 (v := 0) (by decide) ?_
    refine aw_iald hC dX9_wants_10 rm_7_0_2 rfl rfl (by decide) (k := 0) (by decide) ?_
    refine aw_icmp_ge hC dX9_wants_11 (tgt := 40) (by decide) ?_ ?_
    · refine aw_iload_n hC dX9_wants_40 rfl ?_
      exact aw_iret hC dX9_wants_41 rfl rfl
    · refine aw_iload_n hC dX9_wants_14 rfl ?_
      refine aw_aload_n hC dX9_wants_15 rfl ?_
      refine aw_iload_n hC dX9_wants_16 rfl ?_
      refine aw_bind rfl (fun q1 hq1 => ?_)
      refine aw_cVi hC dX9_wants_17 cv_RX9_221 rfl rm_7_0_0 (am_some (inj := (fun r => (.inr (some (.int r)), h))) hq1 (A_X9_wishOf _ (hC.2.2.2.2.2.2.2.2.2.2.2.2.1) _ _ _ x3 h)) rfl rfl rfl rfl rfl ⟨rfl, rfl⟩ ?_
      refine aw_iload_n hC dX9_wants_20 rfl ?_
      refine aw_icmp_ne hC dX9_wants_21 (tgt := 28) (by decide) ?_ ?_
      · refine aw_iconst hC dX9_wants_28 (v := 0) (by decide) ?_
        refine aw_cSi hC dX9_wants_29 cv_RX9_115 (A_X9_truth _ (hC.2.2.2.2.2.2.2.2.2.2.2.2.1) _ _ _ false h) rfl rfl rfl rfl rfl ⟨rfl, rfl⟩ ?_
        refine aw_iadd hC dX9_wants_32 ?_
        refine aw_istore_n hC dX9_wants_33 (by decide) ?_
        refine aw_iinc hC dX9_wants_34 rfl (v := x3 + 1) (by first | rfl | decide) (by decide) ?_
        refine aw_goto hC dX9_wants_37 (tgt := 4) (by decide) ?_
        refine aw_sub [0, 1, 2, 3] ?_
        exact ih4 (x2 + (jX9_truth false h)) (x3 + 1)
      · refine aw_iconst hC dX9_wants_24 (v := 1) (by decide) ?_
        refine aw_goto hC dX9_wants_25 (tgt := 29) (by decide) ?_
        refine aw_cSi hC dX9_wants_29 cv_RX9_115 (A_X9_truth _ (hC.2.2.2.2.2.2.2.2.2.2.2.2.1) _ _ _ true h) rfl rfl rfl rfl rfl ⟨rfl, rfl⟩ ?_
        refine aw_iadd hC dX9_wants_32 ?_
        refine aw_istore_n hC dX9_wants_33 (by decide) ?_
        refine aw_iinc hC dX9_wants_34 rfl (v := x3 + 1) (by first | rfl | decide) (by decide) ?_
        refine aw_goto hC dX9_wants_37 (tgt := 4) (by decide) ?_
        refine aw_sub [0, 1, 2, 3] ?_
        exact ih4 (x2 + (jX9_truth true h)) (x3 + 1)
set_option maxHeartbeats 4000000 in
set_option maxRecDepth 100000 in
theorem A_X9_wants (l : Launch) (hl0 : l.stackTraces = false) (D : va_G) (loc : Rf → Nat) (cy : Nat → ClassId) (p1 : Int32) (h : HD) : AM l D loc cy yX9_wants cX9_wants 4 (some .int) 1 37 [.ref (loc (7, 0, 0)), .int p1] h ((jX9_wants p1 h).map (fun r => (.inr (some (.int r)), h))) := by
  refine am_start (y := yX9_wants) (av := [.ref (loc (7, 0, 0)), .int p1]) (nL := 4) (h := h) (RF := fun (r : Option Int32) => r.map (fun r => (.inr (some (.int r)), h))) (x := jX9_wants p1 h) hl0 (by decide +kernel) rfl ?_
  intro p e R s m below meth c A hC
  unfold jX9_wants
  refine aw_iconst hC dX9_wants_0 (v := 0) (by decide) ?_
  refine aw_istore_n hC dX9_wants_1 (by decide) ?_
  refine aw_iconst hC dX9_wants_2 (v := 0) (by decide) ?_
  refine aw_istore_n hC dX9_wants_3 (by decide) ?_
  refine aw_sub [0, 1, 2, 3] ?_
  exact L_X9_wants_4 p1 h  hC FU (0 : Int32) (0 : Int32)
set_option maxHeartbeats 4000000 in
set_option maxRecDepth 100000 in
theorem L_X9_preferred_4 (h : HD) (hC : Cx p l e R s m args meth c D loc cy A cX9_preferred 3 (some .int) RX9 2 60 0 0)  : ∀ (n4 : Nat) (x1 : Int32) (x2 : Int32), AW p l e R s m args below meth c D loc cy A 3 (QM below D loc cy A args s) (fun (r : Option Int32) => r.map (fun r => (.inr (some (.int r)), h))) (0, 0) 4 [(0, .ref (loc (7, 0, 0))), (1, .int x1), (2, .int x2)] [] h (jX9_preferred_L4 h n4 x1 x2) := by
  intro n4
  induction n4 with
  | zero => intro x1 x2; exact aw_none rfl
  | succ n4 ih4 =>
    intro x1 x2
    rw [jX9_preferred_L4]
    refine aw_iload_n hC dX9_preferred_4 rfl ?_
    refine aw_aload_n hC dX9_preferred_5 rfl ?_
    refine aw_bind rfl (fun q1 hq1 => ?_)
    refine aw_cVi hC dX9_preferred_6 cv_RX9_214 rfl rm_7_0_0 (am_some (inj := (fun r => (.inr (some (.int r)), h))) hq1 (A_X9_spots _ (hC.2.2.2.2.2.2.2.2.2.2.2.2.1) _ _ _ h)) rfl rfl rfl rfl rfl ⟨rfl, rfl⟩ ?_
    refine aw_icmp_ge hC dX9_preferred_9 (tgt := 37) (by decide) ?_ ?_
    · refine aw_iload_n hC dX9_preferred_37 rfl ?_
      exact aw_iret hC dX9_preferred_38 rfl rfl
    · refine aw_iload_n hC dX9_preferred_12 rfl ?_
      refine aw_aload_n hC dX9_preferred_13 rfl ?_
      refine aw_iload_n hC dX9_preferred_14 rfl ?_
      refine aw_bind rfl (fun q2 hq2 => ?_)
      refine aw_cVi hC dX9_preferred_15 cv_RX9_248 rfl rm_7_0_0 (am_some (inj := (fun r => (.inr (some (.int r)), h))) hq2 (A_X9_wants _ (hC.2.2.2.2.2.2.2.2.2.2.2.2.1) _ _ _ x2 h)) rfl rfl rfl rfl rfl ⟨rfl, rfl⟩ ?_
      refine aw_if_le hC dX9_preferred_18 (tgt := 25) (by decide) ?_ ?_
      · refine aw_iconst hC dX9_preferred_25 (v := 0) (by decide) ?_
        refine aw_cSi hC dX9_preferred_26 cv_RX9_115 (A_X9_truth _ (hC.2.2.2.2.2.2.2.2.2.2.2.2.1) _ _ _ false h) rfl rfl rfl rfl rfl ⟨rfl, rfl⟩ ?_
        refine aw_iadd hC dX9_preferred_29 ?_
        refine aw_istore_n hC dX9_preferred_30 (by decide) ?_
        refine aw_iinc hC dX9_preferred_31 rfl (v := x2 + 1) (by first | rfl | decide) (by decide) ?_
        refine aw_goto hC dX9_preferred_34 (tgt := 4) (by decide) ?_
        refine aw_sub [0, 1, 2] ?_
        exact ih4 (x1 + (jX9_truth false h)) (x2 + 1)
      · refine aw_iconst hC dX9_preferred_21 (v := 1) (by decide) ?_
        refine aw_goto hC dX9_preferred_22 (tgt := 26) (by decide) ?_
        refine aw_cSi hC dX9_preferred_26 cv_RX9_115 (A_X9_truth _ (hC.2.2.2.2.2.2.2.2.2.2.2.2.1) _ _ _ true h) rfl rfl rfl rfl rfl ⟨rfl, rfl⟩ ?_
        refine aw_iadd hC dX9_preferred_29 ?_
        refine aw_istore_n hC dX9_preferred_30 (by decide) ?_
        refine aw_iinc hC dX9_preferred_31 rfl (v := x2 + 1) (by first | rfl | decide) (by decide) ?_
        refine aw_goto hC dX9_preferred_34 (tgt := 4) (by decide) ?_
        refine aw_sub [0, 1, 2] ?_
        exact ih4 (x1 + (jX9_truth true h)) (x2 + 1)
set_option maxHeartbeats 4000000 in
set_option maxRecDepth 100000 in
theorem A_X9_preferred (l : Launch) (hl0 : l.stackTraces = false) (D : va_G) (loc : Rf → Nat) (cy : Nat → ClassId)  (h : HD) : AM l D loc cy yX9_preferred cX9_preferred 3 (some .int) 2 60 [.ref (loc (7, 0, 0))] h ((jX9_preferred h).map (fun r => (.inr (some (.int r)), h))) := by
  refine am_start (y := yX9_preferred) (av := [.ref (loc (7, 0, 0))]) (nL := 3) (h := h) (RF := fun (r : Option Int32) => r.map (fun r => (.inr (some (.int r)), h))) (x := jX9_preferred h) hl0 (by decide +kernel) rfl ?_
  intro p e R s m below meth c A hC
  unfold jX9_preferred
  refine aw_iconst hC dX9_preferred_0 (v := 0) (by decide) ?_
  refine aw_istore_n hC dX9_preferred_1 (by decide) ?_
  refine aw_iconst hC dX9_preferred_2 (v := 0) (by decide) ?_
  refine aw_istore_n hC dX9_preferred_3 (by decide) ?_
  refine aw_sub [0, 1, 2] ?_
  exact L_X9_preferred_4 h  hC FU (0 : Int32) (0 : Int32)
set_option maxHeartbeats 4000000 in
set_option maxRecDepth 100000 in
theorem A_X9_isTakenBy (l : Launch) (hl0 : l.stackTraces = false) (D : va_G) (loc : Rf → Nat) (cy : Nat → ClassId) (p1 : Int32) (p2 : Int32) (h : HD) : AM l D loc cy yX9_isTakenBy cX9_isTakenBy 3 (some .boolean) 1 41 [.ref (loc (7, 0, 0)), .int p1, .int p2] h ((jX9_isTakenBy p1 p2 h).map (fun r => (.inr (some (.int (b2i r))), h))) := by
  refine am_start (y := yX9_isTakenBy) (av := [.ref (loc (7, 0, 0)), .int p1, .int p2]) (nL := 3) (h := h) (RF := fun (r : Option Bool) => r.map (fun r => (.inr (some (.int (b2i r))), h))) (x := jX9_isTakenBy p1 p2 h) hl0 (by decide +kernel) rfl ?_
  intro p e R s m below meth c A hC
  unfold jX9_isTakenBy
  refine aw_aload_n hC dX9_isTakenBy_0 rfl ?_
  refine aw_gfR hC dX9_isTakenBy_1 fg_RX9_54 rfl rfl rm_7_0_0 ?_
  refine aw_iload_n hC dX9_isTakenBy_4 rfl ?_
  refine aw_guard rfl (fun g1 => ?_)
  refine aw_iald hC dX9_isTakenBy_5 rm_7_0_13 rfl rfl g1 rfl ?_
  refine aw_i2l hC dX9_isTakenBy_6 ?_
  refine aw_lconst hC dX9_isTakenBy_7 (v := 0) (by decide) ?_
  refine aw_iload_n hC dX9_isTakenBy_8 rfl ?_
  refine aw_i2l hC dX9_isTakenBy_9 ?_
  refine aw_cSb hC dX9_isTakenBy_10 cv_RX9_130 (A_X9_isIn _ (hC.2.2.2.2.2.2.2.2.2.2.2.2.1) _ _ _ ((gI h (7, 0, 13) p1.toNatClampNeg).toInt64) (0 : Int64) p2.toInt64 h) rfl rfl rfl rfl rfl ⟨rfl, rfl⟩ ?_
  exact aw_zret hC dX9_isTakenBy_13 rfl (show _ = b2i (jX9_isIn ((gI h (7, 0, 13) p1.toNatClampNeg).toInt64) (0 : Int64) p2.toInt64 h) from rfl) rfl
set_option maxHeartbeats 4000000 in
set_option maxRecDepth 100000 in
theorem L_X9_runOf_2 (p1 : Int32) (h : HD) (hC : Cx p l e R s m args meth c D loc cy A cX9_runOf 3 (some .int) RX9 2 63 0 0)  : ∀ (n2 : Nat) (x2 : Int32), AW p l e R s m args below meth c D loc cy A 3 (QM below D loc cy A args s) (fun (r : Option Int32) => r.map (fun r => (.inr (some (.int r)), h))) (0, 0) 2 [(0, .ref (loc (7, 0, 0))), (1, .int p1), (2, .int x2)] [] h (jX9_runOf_L2 p1 h n2 x2) := by
  intro n2
  induction n2 with
  | zero => intro x2; exact aw_none rfl
  | succ n2 ih2 =>
    intro x2
    rw [jX9_runOf_L2]
    refine aw_iload_n hC dX9_runOf_2 rfl ?_
    refine aw_aload_n hC dX9_runOf_3 rfl ?_
    refine aw_gfR hC dX9_runOf_4 fg_RX9_20 rfl rfl rm_7_0_0 ?_
    refine aw_iconst hC dX9_runOf_7 (v := 0) (by decide) ?_
    refine aw_iald hC dX9_runOf_8 rm_7_0_2 rfl rfl (by decide) (k := 0) (by decide) ?_
    refine aw_icmp_ge hC dX9_runOf_9 (tgt := 38) (by decide) ?_ ?_
    · refine aw_iload_n hC dX9_runOf_38 rfl ?_
      exact aw_iret hC dX9_runOf_39 rfl rfl
    · refine aw_aload_n hC dX9_runOf_12 rfl ?_
      refine aw_aload_n hC dX9_runOf_13 rfl ?_
      refine aw_aload_n hC dX9_runOf_14 rfl ?_
      refine aw_gfR hC dX9_runOf_15 fg_RX9_57 rfl rfl rm_7_0_0 ?_
      refine aw_iload_n hC dX9_runOf_18 rfl ?_
      refine aw_guard rfl (fun g1 => ?_)
      refine aw_iald hC dX9_runOf_19 rm_7_0_14 rfl rfl g1 rfl ?_
      refine aw_iload_n hC dX9_runOf_20 rfl ?_
      refine aw_isub hC dX9_runOf_21 ?_
      refine aw_bind rfl (fun q2 hq2 => ?_)
      refine aw_cVi hC dX9_runOf_22 cv_RX9_218 rfl rm_7_0_0 (am_some (inj := (fun r => (.inr (some (.int r)), h))) hq2 (A_X9_round _ (hC.2.2.2.2.2.2.2.2.2.2.2.2.1) _ _ _ ((gI h (7, 0, 14) p1.toNatClampNeg) - x2) h)) rfl rfl rfl rfl rfl ⟨rfl, rfl⟩ ?_
      refine aw_iload_n hC dX9_runOf_25 rfl ?_
      refine aw_bind rfl (fun q3 hq3 => ?_)
      refine aw_cVb hC dX9_runOf_26 cv_RX9_251 rfl rm_7_0_0 (am_some (inj := (fun r => (.inr (some (.int (b2i r))), h))) hq3 (A_X9_isTakenBy _ (hC.2.2.2.2.2.2.2.2.2.2.2.2.1) _ _ _ q2 p1 h)) rfl rfl rfl rfl rfl ⟨rfl, rfl⟩ ?_
      refine aw_if_eq_b hC dX9_runOf_29 (tgt := 38) (by decide) ?_ ?_
      · refine aw_iload_n hC dX9_runOf_38 rfl ?_
        exact aw_iret hC dX9_runOf_39 rfl rfl
      · refine aw_iinc hC dX9_runOf_32 rfl (v := x2 + 1) (by first | rfl | decide) (by decide) ?_
        refine aw_goto hC dX9_runOf_35 (tgt := 2) (by decide) ?_
        refine aw_sub [0, 1, 2] ?_
        exact ih2 (x2 + 1)
set_option maxHeartbeats 4000000 in
set_option maxRecDepth 100000 in
theorem A_X9_runOf (l : Launch) (hl0 : l.stackTraces = false) (D : va_G) (loc : Rf → Nat) (cy : Nat → ClassId) (p1 : Int32) (h : HD) : AM l D loc cy yX9_runOf cX9_runOf 3 (some .int) 2 63 [.ref (loc (7, 0, 0)), .int p1] h ((jX9_runOf p1 h).map (fun r => (.inr (some (.int r)), h))) := by
  refine am_start (y := yX9_runOf) (av := [.ref (loc (7, 0, 0)), .int p1]) (nL := 3) (h := h) (RF := fun (r : Option Int32) => r.map (fun r => (.inr (some (.int r)), h))) (x := jX9_runOf p1 h) hl0 (by decide +kernel) rfl ?_
  intro p e R s m below meth c A hC
  unfold jX9_runOf
  refine aw_iconst hC dX9_runOf_0 (v := 0) (by decide) ?_
  refine aw_istore_n hC dX9_runOf_1 (by decide) ?_
  refine aw_sub [0, 1, 2] ?_
  exact L_X9_runOf_2 p1 h  hC FU (0 : Int32)
set_option maxHeartbeats 4000000 in
set_option maxRecDepth 100000 in
theorem L_X9_carNamed_2 (p1 : Int64) (h : HD) (hC : Cx p l e R s m args meth c D loc cy A cX9_carNamed 4 (some .int) RX9 0 16 0 0)  : ∀ (n2 : Nat) (x3 : Int32), AW p l e R s m args below meth c D loc cy A 4 (QM below D loc cy A args s) (fun (r : Option Int32) => r.map (fun r => (.inr (some (.int r)), h))) (0, 0) 2 [(0, .ref (loc (7, 0, 0))), (1, .long p1), (3, .int x3)] [] h (jX9_carNamed_L2 p1 h n2 x3) := by
  intro n2
  induction n2 with
  | zero => intro x3; exact aw_none rfl
  | succ n2 ih2 =>
    intro x3
    rw [jX9_carNamed_L2]
    refine aw_iload_n hC dX9_carNamed_2 rfl ?_
    refine aw_aload_n hC dX9_carNamed_3 rfl ?_
    refine aw_gfR hC dX9_carNamed_4 fg_RX9_20 rfl rfl rm_7_0_0 ?_
    refine aw_iconst hC dX9_carNamed_7 (v := 0) (by decide) ?_
    refine aw_iald hC dX9_carNamed_8 rm_7_0_2 rfl rfl (by decide) (k := 0) (by decide) ?_
    refine aw_icmp_ge hC dX9_carNamed_9 (tgt := 31) (by decide) ?_ ?_
    · refine aw_iconst hC dX9_carNamed_31 (v := -1) (by decide) ?_
      exact aw_iret hC dX9_carNamed_32 rfl rfl
    · refine aw_aload_n hC dX9_carNamed_12 rfl ?_
      refine aw_gfR hC dX9_carNamed_13 fg_RX9_35 rfl rfl rm_7_0_0 ?_
      refine aw_iload_n hC dX9_carNamed_16 rfl ?_
      refine aw_guard rfl (fun g1 => ?_)
      refine aw_lald hC dX9_carNamed_17 rm_7_0_7 rfl rfl g1 rfl ?_
      refine aw_lload_n hC dX9_carNamed_18 rfl ?_
      refine aw_lcmp hC dX9_carNamed_19 ?_
      refine aw_if_ne hC dX9_carNamed_20 (tgt := 25) (by decide) ?_ ?_
      · refine aw_iinc hC dX9_carNamed_25 rfl (v := x3 + 1) (by first | rfl | decide) (by decide) ?_
        refine aw_goto hC dX9_carNamed_28 (tgt := 2) (by decide) ?_
        refine aw_sub [0, 1, 3] ?_
        exact ih2 (x3 + 1)
      · refine aw_iload_n hC dX9_carNamed_23 rfl ?_
        exact aw_iret hC dX9_carNamed_24 rfl rfl
set_option maxHeartbeats 4000000 in
set_option maxRecDepth 100000 in
theorem A_X9_carNamed (l : Launch) (hl0 : l.stackTraces = false) (D : va_G) (loc : Rf → Nat) (cy : Nat → ClassId) (p1 : Int64) (h : HD) : AM l D loc cy yX9_carNamed cX9_carNamed 4 (some .int) 0 16 [.ref (loc (7, 0, 0)), .long p1] h ((jX9_carNamed p1 h).map (fun r => (.inr (some (.int r)), h))) := by
  refine am_start (y := yX9_carNamed) (av := [.ref (loc (7, 0, 0)), .long p1]) (nL := 4) (h := h) (RF := fun (r : Option Int32) => r.map (fun r => (.inr (some (.int r)), h))) (x := jX9_carNamed p1 h) hl0 (by decide +kernel) rfl ?_
  intro p e R s m below meth c A hC
  unfold jX9_carNamed
  refine aw_iconst hC dX9_carNamed_0 (v := 0) (by decide) ?_
  refine aw_istore_n hC dX9_carNamed_1 (by decide) ?_
  refine aw_sub [0, 1, 3] ?_
  exact L_X9_carNamed_2 p1 h  hC FU (0 : Int32)
set_option maxHeartbeats 4000000 in
set_option maxRecDepth 100000 in
theorem A_X9_mustName (l : Launch) (hl0 : l.stackTraces = false) (D : va_G) (loc : Rf → Nat) (cy : Nat → ClassId)  (h : HD) : AM l D loc cy yX9_mustName cX9_mustName 1 (none) 1 37 [.ref (loc (7, 0, 0))] h ((jX9_mustName h).map (fun r => (.inr (none), r))) := by
  refine am_start (y := yX9_mustName) (av := [.ref (loc (7, 0, 0))]) (nL := 1) (h := h) (RF := fun (r : Option HD) => r.map (fun r => (.inr (none), r))) (x := jX9_mustName h) hl0 (by decide +kernel) rfl ?_
  intro p e R s m below meth c A hC
  unfold jX9_mustName
  refine aw_aload_n hC dX9_mustName_0 rfl ?_
  refine aw_cVb hC dX9_mustName_1 cv_RX9_167 rfl rm_7_0_0 (A_X9_isGood _ (hC.2.2.2.2.2.2.2.2.2.2.2.2.1) _ _ _ h) rfl rfl rfl rfl rfl ⟨rfl, rfl⟩ ?_
  refine aw_if_eq_b hC dX9_mustName_4 (tgt := 20) (by decide) ?_ ?_
  · exact aw_vret hC dX9_mustName_20 rfl rfl
  · refine aw_aload_n hC dX9_mustName_7 rfl ?_
    refine aw_gfI hC dX9_mustName_8 fg_RX9_154 rfl rm_7_0_0 ?_
    refine aw_iconst hC dX9_mustName_11 (v := 1) (by decide) ?_
    refine aw_icmp_eq hC dX9_mustName_12 (tgt := 20) (by decide) ?_ ?_
    · exact aw_vret hC dX9_mustName_20 rfl rfl
    · refine aw_aload_n hC dX9_mustName_15 rfl ?_
      refine aw_iconst hC dX9_mustName_16 (v := 1) (by decide) ?_
      refine aw_bind rfl (fun q1 hq1 => ?_)
      refine aw_cVv hC dX9_mustName_17 cv_RX9_174 rfl rm_7_0_0 (am_some (inj := (fun r => (.inr (none), r))) hq1 (A_X9_wrong _ (hC.2.2.2.2.2.2.2.2.2.2.2.2.1) _ _ _ (1 : Int32) h)) rfl rfl rfl rfl rfl ⟨rfl, rfl⟩ ?_
      exact aw_vret hC dX9_mustName_20 rfl rfl
set_option maxHeartbeats 4000000 in
set_option maxRecDepth 100000 in
theorem A_X9_nameHere (l : Launch) (hl0 : l.stackTraces = false) (D : va_G) (loc : Rf → Nat) (cy : Nat → ClassId)  (h : HD) : AM l D loc cy yX9_nameHere cX9_nameHere 3 (some .long) 2 59 [.ref (loc (7, 0, 0))] h ((jX9_nameHere h).map (fun r => (.inr (some (.long r.1)), r.2))) := by
  refine am_start (y := yX9_nameHere) (av := [.ref (loc (7, 0, 0))]) (nL := 3) (h := h) (RF := fun (r : Option (Int64 × HD)) => r.map (fun r => (.inr (some (.long r.1)), r.2))) (x := jX9_nameHere h) hl0 (by decide +kernel) rfl ?_
  intro p e R s m below meth c A hC
  unfold jX9_nameHere
  refine aw_aload_n hC dX9_nameHere_0 rfl ?_
  refine aw_bind rfl (fun q1 hq1 => ?_)
  refine aw_cVv hC dX9_nameHere_1 cv_RX9_255 rfl rm_7_0_0 (am_some (inj := (fun r => (.inr (none), r))) hq1 (A_X9_mustName _ (hC.2.2.2.2.2.2.2.2.2.2.2.2.1) _ _ _ h)) rfl rfl rfl rfl rfl ⟨rfl, rfl⟩ ?_
  refine aw_aload_n hC dX9_nameHere_4 rfl ?_
  refine aw_gfJ hC dX9_nameHere_5 fg_RX9_147 rfl rm_7_0_0 ?_
  refine aw_lstore_n hC dX9_nameHere_8 (by decide) ?_
  refine aw_aload_n hC dX9_nameHere_9 rfl ?_
  refine aw_cVb hC dX9_nameHere_10 cv_RX9_167 rfl rm_7_0_0 (A_X9_isGood _ (hC.2.2.2.2.2.2.2.2.2.2.2.2.1) _ _ _ q1) rfl rfl rfl rfl rfl ⟨rfl, rfl⟩ ?_
  refine aw_if_eq_b hC dX9_nameHere_13 (tgt := 20) (by decide) ?_ ?_
  · refine aw_lload_n hC dX9_nameHere_20 rfl ?_
    exact aw_lret hC dX9_nameHere_21 rfl rfl
  · refine aw_aload_n hC dX9_nameHere_16 rfl ?_
    refine aw_bind rfl (fun q2 hq2 => ?_)
    refine aw_cVv hC dX9_nameHere_17 cv_RX9_177 rfl rm_7_0_0 (am_some (inj := (fun r => (.inr (none), r))) hq2 (A_X9_goOnRead _ (hC.2.2.2.2.2.2.2.2.2.2.2.2.1) _ _ _ q1)) rfl rfl rfl rfl rfl ⟨rfl, rfl⟩ ?_
    refine aw_lload_n hC dX9_nameHere_20 rfl ?_
    exact aw_lret hC dX9_nameHere_21 rfl rfl
end PRF
