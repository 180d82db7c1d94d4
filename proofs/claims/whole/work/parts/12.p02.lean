section PRF
variable {p : Program} {l : Launch} {e : Env} {R : Room} {s : State} {m : MethodId} {args : Array Value} {below : List Frame} {meth : Method} {c : Code} {D : va_G} {loc : Rf → Nat} {cy : Nat → ClassId} {A : Nat → Prop}
set_option maxHeartbeats 4000000 in
set_option maxRecDepth 100000 in
theorem A_X4_turnedPreferenceOf (l : Launch) (hl0 : l.stackTraces = false) (D : va_G) (loc : Rf → Nat) (cy : Nat → ClassId) (o : Nat) (ho : o < 2) (p1 : Int32) (h : HD) : AM l D loc cy yX4_turnedPreferenceOf cX4_turnedPreferenceOf 2 (some .int) 2 59 [.ref (loc (2, o, 0)), .int p1] h ((jX4_turnedPreferenceOf o p1 h).map (fun r => (.inr (some (.int r)), h))) := by
  refine am_start (y := yX4_turnedPreferenceOf) (av := [.ref (loc (2, o, 0)), .int p1]) (nL := 2) (h := h) (RF := fun (r : Option Int32) => r.map (fun r => (.inr (some (.int r)), h))) (x := jX4_turnedPreferenceOf o p1 h) hl0 (by decide +kernel) rfl ?_
  intro p e R s m below meth c A hC
  unfold jX4_turnedPreferenceOf
  refine aw_aload_n hC dX4_turnedPreferenceOf_0 rfl ?_
  refine aw_iload_n hC dX4_turnedPreferenceOf_1 rfl ?_
  refine aw_cVb hC dX4_turnedPreferenceOf_2 cv_RX4_90 rfl (rv_2_0 ho) (A_X4_hasCome _ (hC.2.2.2.2.2.2.2.2.2.2.2.2.1) _ _ _ o ho p1 h) rfl rfl rfl rfl rfl ⟨rfl, rfl⟩ ?_
  refine aw_if_eq_b hC dX4_turnedPreferenceOf_5 (tgt := 29) (by decide) ?_ ?_
  · refine aw_iconst hC dX4_turnedPreferenceOf_29 (v := -1) (by decide) ?_
    exact aw_iret hC dX4_turnedPreferenceOf_30 rfl rfl
  · refine aw_aload_n hC dX4_turnedPreferenceOf_8 rfl ?_
    refine aw_gfR hC dX4_turnedPreferenceOf_9 fg_RX4_9 rfl rfl (rv_2_0 ho) ?_
    refine aw_iload_n hC dX4_turnedPreferenceOf_12 rfl ?_
    refine aw_guard rfl (fun g1 => ?_)
    refine aw_iald hC dX4_turnedPreferenceOf_13 (rv_2_1 ho) rfl rfl g1 rfl ?_
    refine aw_aload_n hC dX4_turnedPreferenceOf_14 rfl ?_
    refine aw_cVi hC dX4_turnedPreferenceOf_15 cv_RX4_96 rfl (rv_2_0 ho) (A_X4_turnNumber _ (hC.2.2.2.2.2.2.2.2.2.2.2.2.1) _ _ _ o ho h) rfl rfl rfl rfl rfl ⟨rfl, rfl⟩ ?_
    refine aw_iadd hC dX4_turnedPreferenceOf_18 ?_
    refine aw_aload_n hC dX4_turnedPreferenceOf_19 rfl ?_
    refine aw_gfI hC dX4_turnedPreferenceOf_20 fg_RX4_24 rfl (rv_2_0 ho) ?_
    refine aw_bind rfl (fun q2 hq2 => ?_)
    refine aw_cNi hC dX4_turnedPreferenceOf_23 cv_RX4_83 (am_some (inj := (fun r => (.inr (some (.int r)), h))) hq2 (A_X8_wrapped _ (hC.2.2.2.2.2.2.2.2.2.2.2.2.1) _ _ _ ((gI h (2, o, 1) p1.toNatClampNeg) + (jX4_turnNumber o h)) (gI h (2, o, 0) 4) h)) rfl rfl rfl rfl rfl ⟨rfl, rfl⟩ ?_
    refine aw_goto hC dX4_turnedPreferenceOf_26 (tgt := 30) (by decide) ?_
    exact aw_iret hC dX4_turnedPreferenceOf_30 rfl rfl
set_option maxHeartbeats 4000000 in
set_option maxRecDepth 100000 in
theorem L_X4_isBreak_4 (o : Nat) (ho : o < 2) (p1 : Int32) (h : HD) (k30 : Int32 → Option Bool) (hC : Cx p l e R s m args meth c D loc cy A cX4_isBreak 4 (some .boolean) RX4 3 80 0 0) (hk30 : ∀ (x2 : Int32), AW p l e R s m args below meth c D loc cy A 4 (QM below D loc cy A args s) (fun (r : Option Bool) => r.map (fun r => (.inr (some (.int (b2i r))), h))) (0, 0) 30 [(1, .int p1), (2, .int x2)] [] h (k30 x2)) : ∀ (n4 : Nat) (x2 : Int32) (x3 : Int32), AW p l e R s m args below meth c D loc cy A 4 (QM below D loc cy A args s) (fun (r : Option Bool) => r.map (fun r => (.inr (some (.int (b2i r))), h))) (0, 0) 4 [(0, .ref (loc (2, o, 0))), (1, .int p1), (2, .int x2), (3, .int x3)] [] h (jX4_isBreak_L4 o p1 h k30 n4 x2 x3) := by
  intro n4
  induction n4 with
  | zero => intro x2 x3; exact aw_none rfl
  | succ n4 ih4 =>
    intro x2 x3
    rw [jX4_isBreak_L4]
    refine aw_iload_n hC dX4_isBreak_4 rfl ?_
    refine aw_aload_n hC dX4_isBreak_5 rfl ?_
    refine aw_gfI hC dX4_isBreak_6 fg_RX4_35 rfl (rv_2_0 ho) ?_
    refine aw_icmp_ge hC dX4_isBreak_9 (tgt := 30) (by decide) ?_ ?_
    · refine aw_sub [1, 2] ?_
      exact hk30 x2
    · refine aw_aload_n hC dX4_isBreak_12 rfl ?_
      refine aw_iload_n hC dX4_isBreak_13 rfl ?_
      refine aw_bind rfl (fun q1 hq1 => ?_)
      refine aw_cVi hC dX4_isBreak_14 cv_RX4_64 rfl (rv_2_0 ho) (am_some (inj := (fun r => (.inr (some (.int r)), h))) hq1 (A_X4_turnedPreferenceOf _ (hC.2.2.2.2.2.2.2.2.2.2.2.2.1) _ _ _ o ho x3 h)) rfl rfl rfl rfl rfl ⟨rfl, rfl⟩ ?_
      refine aw_iload_n hC dX4_isBreak_17 rfl ?_
      refine aw_icmp_ge hC dX4_isBreak_18 (tgt := 24) (by decide) ?_ ?_
      · refine aw_iinc hC dX4_isBreak_24 rfl (v := x3 + 1) (by first | rfl | decide) (by decide) ?_
        refine aw_goto hC dX4_isBreak_27 (tgt := 4) (by decide) ?_
        refine aw_sub [0, 1, 2, 3] ?_
        exact ih4 x2 (x3 + 1)
      · refine aw_iinc hC dX4_isBreak_21 rfl (v := x2 + 1) (by first | rfl | decide) (by decide) ?_
        refine aw_iinc hC dX4_isBreak_24 rfl (v := x3 + 1) (by first | rfl | decide) (by decide) ?_
        refine aw_goto hC dX4_isBreak_27 (tgt := 4) (by decide) ?_
        refine aw_sub [0, 1, 2, 3] ?_
        exact ih4 (x2 + 1) (x3 + 1)
set_option maxHeartbeats 4000000 in
set_option maxRecDepth 100000 in
theorem A_X4_isBreak (l : Launch) (hl0 : l.stackTraces = false) (D : va_G) (loc : Rf → Nat) (cy : Nat → ClassId) (o : Nat) (ho : o < 2) (p1 : Int32) (h : HD) : AM l D loc cy yX4_isBreak cX4_isBreak 4 (some .boolean) 3 80 [.ref (loc (2, o, 0)), .int p1] h ((jX4_isBreak o p1 h).map (fun r => (.inr (some (.int (b2i r))), h))) := by
  refine am_start (y := yX4_isBreak) (av := [.ref (loc (2, o, 0)), .int p1]) (nL := 4) (h := h) (RF := fun (r : Option Bool) => r.map (fun r => (.inr (some (.int (b2i r))), h))) (x := jX4_isBreak o p1 h) hl0 (by decide +kernel) rfl ?_
  intro p e R s m below meth c A hC
  unfold jX4_isBreak
  refine aw_iconst hC dX4_isBreak_0 (v := 0) (by decide) ?_
  refine aw_istore_n hC dX4_isBreak_1 (by decide) ?_
  refine aw_iconst hC dX4_isBreak_2 (v := 0) (by decide) ?_
  refine aw_istore_n hC dX4_isBreak_3 (by decide) ?_
  refine aw_sub [0, 1, 2, 3] ?_
  refine L_X4_isBreak_4 o ho p1 h _ hC ?_ FU (0 : Int32) (0 : Int32)
  · intro y4_2
    refine aw_iload_n hC dX4_isBreak_30 rfl ?_
    refine aw_iload_n hC dX4_isBreak_31 rfl ?_
    refine aw_icmp_ne hC dX4_isBreak_32 (tgt := 39) (by decide) ?_ ?_
    · refine aw_iconst hC dX4_isBreak_39 (v := 0) (by decide) ?_
      exact aw_zret hC dX4_isBreak_40 rfl (show _ = b2i false from rfl) rfl
    · refine aw_iconst hC dX4_isBreak_35 (v := 1) (by decide) ?_
      refine aw_goto hC dX4_isBreak_36 (tgt := 40) (by decide) ?_
      exact aw_zret hC dX4_isBreak_40 rfl (show _ = b2i true from rfl) rfl
set_option maxHeartbeats 4000000 in
set_option maxRecDepth 100000 in
theorem L_X4_breaks_4 (o : Nat) (ho : o < 2) (h : HD) (hC : Cx p l e R s m args meth c D loc cy A cX4_breaks 3 (some .int) RX4 4 103 0 0)  : ∀ (n4 : Nat) (x1 : Int32) (x2 : Int32), AW p l e R s m args below meth c D loc cy A 3 (QM below D loc cy A args s) (fun (r : Option Int32) => r.map (fun r => (.inr (some (.int r)), h))) (0, 0) 4 [(0, .ref (loc (2, o, 0))), (1, .int x1), (2, .int x2)] [] h (jX4_breaks_L4 o h n4 x1 x2) := by
  intro n4
  induction n4 with
  | zero => intro x1 x2; exact aw_none rfl
  | succ n4 ih4 =>
    intro x1 x2
    rw [jX4_breaks_L4]
    refine aw_iload_n hC dX4_breaks_4 rfl ?_
    refine aw_aload_n hC dX4_breaks_5 rfl ?_
    refine aw_gfI hC dX4_breaks_6 fg_RX4_35 rfl (rv_2_0 ho) ?_
    refine aw_icmp_gt hC dX4_breaks_9 (tgt := 29) (by decide) ?_ ?_
    · refine aw_iload_n hC dX4_breaks_29 rfl ?_
      exact aw_iret hC dX4_breaks_30 rfl rfl
    · refine aw_aload_n hC dX4_breaks_12 rfl ?_
      refine aw_iload_n hC dX4_breaks_13 rfl ?_
      refine aw_bind rfl (fun q1 hq1 => ?_)
      refine aw_cVb hC dX4_breaks_14 cv_RX4_120 rfl (rv_2_0 ho) (am_some (inj := (fun r => (.inr (some (.int (b2i r))), h))) hq1 (A_X4_isBreak _ (hC.2.2.2.2.2.2.2.2.2.2.2.2.1) _ _ _ o ho x2 h)) rfl rfl rfl rfl rfl ⟨rfl, rfl⟩ ?_
      refine aw_if_eq_b hC dX4_breaks_17 (tgt := 23) (by decide) ?_ ?_
      · refine aw_iinc hC dX4_breaks_23 rfl (v := x2 + 1) (by first | rfl | decide) (by decide) ?_
        refine aw_goto hC dX4_breaks_26 (tgt := 4) (by decide) ?_
        refine aw_sub [0, 1, 2] ?_
        exact ih4 x1 (x2 + 1)
      · refine aw_iinc hC dX4_breaks_20 rfl (v := x1 + 1) (by first | rfl | decide) (by decide) ?_
        refine aw_iinc hC dX4_breaks_23 rfl (v := x2 + 1) (by first | rfl | decide) (by decide) ?_
        refine aw_goto hC dX4_breaks_26 (tgt := 4) (by decide) ?_
        refine aw_sub [0, 1, 2] ?_
        exact ih4 (x1 + 1) (x2 + 1)
set_option maxHeartbeats 4000000 in
set_option maxRecDepth 100000 in
theorem A_X4_breaks (l : Launch) (hl0 : l.stackTraces = false) (D : va_G) (loc : Rf → Nat) (cy : Nat → ClassId) (o : Nat) (ho : o < 2) (h : HD) : AM l D loc cy yX4_breaks cX4_breaks 3 (some .int) 4 103 [.ref (loc (2, o, 0))] h ((jX4_breaks o h).map (fun r => (.inr (some (.int r)), h))) := by
  refine am_start (y := yX4_breaks) (av := [.ref (loc (2, o, 0))]) (nL := 3) (h := h) (RF := fun (r : Option Int32) => r.map (fun r => (.inr (some (.int r)), h))) (x := jX4_breaks o h) hl0 (by decide +kernel) rfl ?_
  intro p e R s m below meth c A hC
  unfold jX4_breaks
  refine aw_iconst hC dX4_breaks_0 (v := 0) (by decide) ?_
  refine aw_istore_n hC dX4_breaks_1 (by decide) ?_
  refine aw_iconst hC dX4_breaks_2 (v := 1) (by decide) ?_
  refine aw_istore_n hC dX4_breaks_3 (by decide) ?_
  refine aw_sub [0, 1, 2] ?_
  exact L_X4_breaks_4 o ho h  hC FU (0 : Int32) (1 : Int32)
set_option maxHeartbeats 4000000 in
set_option maxRecDepth 100000 in
theorem L_X2_wishesFor_4 (o : Nat) (ho : o < 10) (p1 : Int32) (h : HD) (hC : Cx p l e R s m args meth c D loc cy A cX2_wishesFor 4 (some .int) RX2 2 58 0 0)  : ∀ (n4 : Nat) (x2 : Int32) (x3 : Int32), AW p l e R s m args below meth c D loc cy A 4 (QM below D loc cy A args s) (fun (r : Option Int32) => r.map (fun r => (.inr (some (.int r)), h))) (0, 0) 4 [(0, .ref (loc (1, o, 0))), (1, .int p1), (2, .int x2), (3, .int x3)] [] h (jX2_wishesFor_L4 o p1 h n4 x2 x3) := by
  intro n4
  induction n4 with
  | zero => intro x2 x3; exact aw_none rfl
  | succ n4 ih4 =>
    intro x2 x3
    rw [jX2_wishesFor_L4]
    refine aw_iload_n hC dX2_wishesFor_4 rfl ?_
    refine aw_aload_n hC dX2_wishesFor_5 rfl ?_
    refine aw_gfI hC dX2_wishesFor_6 fg_RX2_19 rfl (rv_1_0 ho) ?_
    refine aw_icmp_ge hC dX2_wishesFor_9 (tgt := 30) (by decide) ?_ ?_
    · refine aw_iload_n hC dX2_wishesFor_30 rfl ?_
      exact aw_iret hC dX2_wishesFor_31 rfl rfl
    · refine aw_aload_n hC dX2_wishesFor_12 rfl ?_
      refine aw_iload_n hC dX2_wishesFor_13 rfl ?_
      refine aw_bind rfl (fun q1 hq1 => ?_)
      refine aw_cVi hC dX2_wishesFor_14 cv_RX2_34 rfl (rv_1_0 ho) (am_some (inj := (fun r => (.inr (some (.int r)), h))) hq1 (A_X2_preferenceOf _ (hC.2.2.2.2.2.2.2.2.2.2.2.2.1) _ _ _ o ho x3 h)) rfl rfl rfl rfl rfl ⟨rfl, rfl⟩ ?_
      refine aw_iload_n hC dX2_wishesFor_17 rfl ?_
      refine aw_icmp_ne hC dX2_wishesFor_18 (tgt := 24) (by decide) ?_ ?_
      · refine aw_iinc hC dX2_wishesFor_24 rfl (v := x3 + 1) (by first | rfl | decide) (by decide) ?_
        refine aw_goto hC dX2_wishesFor_27 (tgt := 4) (by decide) ?_
        refine aw_sub [0, 1, 2, 3] ?_
        exact ih4 x2 (x3 + 1)
      · refine aw_iinc hC dX2_wishesFor_21 rfl (v := x2 + 1) (by first | rfl | decide) (by decide) ?_
        refine aw_iinc hC dX2_wishesFor_24 rfl (v := x3 + 1) (by first | rfl | decide) (by decide) ?_
        refine aw_goto hC dX2_wishesFor_27 (tgt := 4) (by decide) ?_
        refine aw_sub [0, 1, 2, 3] ?_
        exact ih4 (x2 + 1) (x3 + 1)
set_option maxHeartbeats 4000000 in
set_option maxRecDepth 100000 in
theorem A_X2_wishesFor (l : Launch) (hl0 : l.stackTraces = false) (D : va_G) (loc : Rf → Nat) (cy : Nat → ClassId) (o : Nat) (ho : o < 10) (p1 : Int32) (h : HD) : AM l D loc cy yX2_wishesFor cX2_wishesFor 4 (some .int) 2 58 [.ref (loc (1, o, 0)), .int p1] h ((jX2_wishesFor o p1 h).map (fun r => (.inr (some (.int r)), h))) := by
  refine am_start (y := yX2_wishesFor) (av := [.ref (loc (1, o, 0)), .int p1]) (nL := 4) (h := h) (RF := fun (r : Option Int32) => r.map (fun r => (.inr (some (.int r)), h))) (x := jX2_wishesFor o p1 h) hl0 (by decide +kernel) rfl ?_
  intro p e R s m below meth c A hC
  unfold jX2_wishesFor
  refine aw_iconst hC dX2_wishesFor_0 (v := 0) (by decide) ?_
  refine aw_istore_n hC dX2_wishesFor_1 (by decide) ?_
  refine aw_iconst hC dX2_wishesFor_2 (v := 0) (by decide) ?_
  refine aw_istore_n hC dX2_wishesFor_3 (by decide) ?_
  refine aw_sub [0, 1, 2, 3] ?_
  exact L_X2_wishesFor_4 o ho p1 h  hC FU (0 : Int32) (0 : Int32)
set_option maxHeartbeats 4000000 in
set_option maxRecDepth 100000 in
theorem L_X2_preferredSpots_4 (o : Nat) (ho : o < 10) (h : HD) (hC : Cx p l e R s m args meth c D loc cy A cX2_preferredSpots 3 (some .int) RX2 3 81 0 0)  : ∀ (n4 : Nat) (x1 : Int32) (x2 : Int32), AW p l e R s m args below meth c D loc cy A 3 (QM below D loc cy A args s) (fun (r : Option Int32) => r.map (fun r => (.inr (some (.int r)), h))) (0, 0) 4 [(0, .ref (loc (1, o, 0))), (1, .int x1), (2, .int x2)] [] h (jX2_preferredSpots_L4 o h n4 x1 x2) := by
  intro n4
  induction n4 with
  | zero => intro x1 x2; exact aw_none rfl
  | succ n4 ih4 =>
    intro x1 x2
    rw [jX2_preferredSpots_L4]
    refine aw_iload_n hC dX2_preferredSpots_4 rfl ?_
    refine aw_aload_n hC dX2_preferredSpots_5 rfl ?_
    refine aw_gfI hC dX2_preferredSpots_6 fg_RX2_19 rfl (rv_1_0 ho) ?_
    refine aw_icmp_gt hC dX2_preferredSpots_9 (tgt := 29) (by decide) ?_ ?_
    · refine aw_iload_n hC dX2_preferredSpots_29 rfl ?_
      exact aw_iret hC dX2_preferredSpots_30 rfl rfl
    · refine aw_aload_n hC dX2_preferredSpots_12 rfl ?_
      refine aw_iload_n hC dX2_preferredSpots_13 rfl ?_
      refine aw_bind rfl (fun q1 hq1 => ?_)
      refine aw_cVi hC dX2_preferredSpots_14 cv_RX2_38 rfl (rv_1_0 ho) (am_some (inj := (fun r => (.inr (some (.int r)), h))) hq1 (A_X2_wishesFor _ (hC.2.2.2.2.2.2.2.2.2.2.2.2.1) _ _ _ o ho x2 h)) rfl rfl rfl rfl rfl ⟨rfl, rfl⟩ ?_
      refine aw_if_le hC dX2_preferredSpots_17 (tgt := 23) (by decide) ?_ ?_
      · refine aw_iinc hC dX2_preferredSpots_23 rfl (v := x2 + 1) (by first | rfl | decide) (by decide) ?_
        refine aw_goto hC dX2_preferredSpots_26 (tgt := 4) (by decide) ?_
        refine aw_sub [0, 1, 2] ?_
        exact ih4 x1 (x2 + 1)
      · refine aw_iinc hC dX2_preferredSpots_20 rfl (v := x1 + 1) (by first | rfl | decide) (by decide) ?_
        refine aw_iinc hC dX2_preferredSpots_23 rfl (v := x2 + 1) (by first | rfl | decide) (by decide) ?_
        refine aw_goto hC dX2_preferredSpots_26 (tgt := 4) (by decide) ?_
        refine aw_sub [0, 1, 2] ?_
        exact ih4 (x1 + 1) (x2 + 1)
set_option maxHeartbeats 4000000 in
set_option maxRecDepth 100000 in
theorem A_X2_preferredSpots (l : Launch) (hl0 : l.stackTraces = false) (D : va_G) (loc : Rf → Nat) (cy : Nat → ClassId) (o : Nat) (ho : o < 10) (h : HD) : AM l D loc cy yX2_preferredSpots cX2_preferredSpots 3 (some .int) 3 81 [.ref (loc (1, o, 0))] h ((jX2_preferredSpots o h).map (fun r => (.inr (some (.int r)), h))) := by
  refine am_start (y := yX2_preferredSpots) (av := [.ref (loc (1, o, 0))]) (nL := 3) (h := h) (RF := fun (r : Option Int32) => r.map (fun r => (.inr (some (.int r)), h))) (x := jX2_preferredSpots o h) hl0 (by decide +kernel) rfl ?_
  intro p e R s m below meth c A hC
  unfold jX2_preferredSpots
  refine aw_iconst hC dX2_preferredSpots_0 (v := 0) (by decide) ?_
  refine aw_istore_n hC dX2_preferredSpots_1 (by decide) ?_
  refine aw_iconst hC dX2_preferredSpots_2 (v := 0) (by decide) ?_
  refine aw_istore_n hC dX2_preferredSpots_3 (by decide) ?_
  refine aw_sub [0, 1, 2] ?_
  exact L_X2_preferredSpots_4 o ho h  hC FU (0 : Int32) (0 : Int32)
set_option maxHeartbeats 4000000 in
set_option maxRecDepth 100000 in
theorem A_X8_settingOf (l : Launch) (hl0 : l.stackTraces = false) (D : va_G) (loc : Rf → Nat) (cy : Nat → ClassId) (r1 : Nat) (hr1 : r1 < 10) (p2 : Int32) (h : HD) : AM l D loc cy yX8_settingOf cX8_settingOf 3 (some .int) 6 148 [.ref (loc (6, 0, 0)), .ref (loc (1, r1, 0)), .int p2] h ((jX8_settingOf r1 p2 h).map (fun r => (.inr (some (.int r.1)), r.2))) := by
  refine am_start (y := yX8_settingOf) (av := [.ref (loc (6, 0, 0)), .ref (loc (1, r1, 0)), .int p2]) (nL := 3) (h := h) (RF := fun (r : Option (Int32 × HD)) => r.map (fun r => (.inr (some (.int r.1)), r.2))) (x := jX8_settingOf r1 p2 h) hl0 (by decide +kernel) rfl ?_
  intro p e R s m below meth c A hC
  unfold jX8_settingOf
  refine aw_aload_n hC dX8_settingOf_0 rfl ?_
  refine aw_gfR hC dX8_settingOf_1 fg_RX8_62 rfl rfl rm_6_0_0 ?_
  refine aw_aload_n hC dX8_settingOf_4 rfl ?_
  refine aw_aload_n hC dX8_settingOf_5 rfl ?_
  refine aw_cVi hC dX8_settingOf_6 cv_RX8_138 rfl (rv_1_0 hr1) (A_X2_count _ (hC.2.2.2.2.2.2.2.2.2.2.2.2.1) _ _ _ r1 hr1 h) rfl rfl rfl rfl rfl ⟨rfl, rfl⟩ ?_
  refine aw_bind rfl (fun q1 hq1 => ?_)
  refine aw_cVv hC dX8_settingOf_9 cv_RX8_301 rfl rm_2_0_0 (am_some (inj := (fun r => (.inr (none), r))) hq1 (A_X4_comeRound _ (hC.2.2.2.2.2.2.2.2.2.2.2.2.1) _ _ _ 0 (by decide) r1 hr1 (jX2_count r1 h) h)) rfl rfl rfl rfl rfl ⟨rfl, rfl⟩ ?_
  refine aw_iload_n hC dX8_settingOf_12 rfl ?_
  refine aw_tabIn hC dX8_settingOf_13 0 (by decide) (by decide) (off := 51) rfl (tgt := 64) (by decide) ?_ (fun n2 => ?_)
  · refine aw_aload_n hC dX8_settingOf_64 rfl ?_
    refine aw_cVi hC dX8_settingOf_65 cv_RX8_138 rfl (rv_1_0 hr1) (A_X2_count _ (hC.2.2.2.2.2.2.2.2.2.2.2.2.1) _ _ _ r1 hr1 q1) rfl rfl rfl rfl rfl ⟨rfl, rfl⟩ ?_
    exact aw_iret hC dX8_settingOf_68 rfl rfl
  refine aw_tabIn hC dX8_settingOf_13 1 (by decide) (by decide) (off := 56) rfl (tgt := 69) (by decide) ?_ (fun n3 => ?_)
  · refine aw_aload_n hC dX8_settingOf_69 rfl ?_
    refine aw_cVi hC dX8_settingOf_70 cv_RX8_305 rfl (rv_1_0 hr1) (A_X2_spots _ (hC.2.2.2.2.2.2.2.2.2.2.2.2.1) _ _ _ r1 hr1 q1) rfl rfl rfl rfl rfl ⟨rfl, rfl⟩ ?_
    exact aw_iret hC dX8_settingOf_73 rfl rfl
  refine aw_tabIn hC dX8_settingOf_13 2 (by decide) (by decide) (off := 61) rfl (tgt := 74) (by decide) ?_ (fun n4 => ?_)
  · refine aw_aload_n hC dX8_settingOf_74 rfl ?_
    refine aw_cVi hC dX8_settingOf_75 cv_RX8_312 rfl (rv_1_0 hr1) (A_X2_back _ (hC.2.2.2.2.2.2.2.2.2.2.2.2.1) _ _ _ r1 hr1 q1) rfl rfl rfl rfl rfl ⟨rfl, rfl⟩ ?_
    exact aw_iret hC dX8_settingOf_78 rfl rfl
  refine aw_tabIn hC dX8_settingOf_13 3 (by decide) (by decide) (off := 66) rfl (tgt := 79) (by decide) ?_ (fun n5 => ?_)
  · refine aw_aload_n hC dX8_settingOf_79 rfl ?_
    refine aw_gfR hC dX8_settingOf_80 fg_RX8_62 rfl rfl rm_6_0_0 ?_
    refine aw_cVi hC dX8_settingOf_83 cv_RX8_314 rfl rm_2_0_0 (A_X4_freeSpot _ (hC.2.2.2.2.2.2.2.2.2.2.2.2.1) _ _ _ 0 (by decide) q1) rfl rfl rfl rfl rfl ⟨rfl, rfl⟩ ?_
    exact aw_iret hC dX8_settingOf_86 rfl rfl
  refine aw_tabIn hC dX8_settingOf_13 4 (by decide) (by decide) (off := 74) rfl (tgt := 87) (by decide) ?_ (fun n7 => ?_)
  · refine aw_aload_n hC dX8_settingOf_87 rfl ?_
    refine aw_gfR hC dX8_settingOf_88 fg_RX8_62 rfl rfl rm_6_0_0 ?_
    refine aw_bind rfl (fun q6 hq6 => ?_)
    refine aw_cVi hC dX8_settingOf_91 cv_RX8_317 rfl rm_2_0_0 (am_some (inj := (fun r => (.inr (some (.int r)), q1))) hq6 (A_X4_luckyCars _ (hC.2.2.2.2.2.2.2.2.2.2.2.2.1) _ _ _ 0 (by decide) q1)) rfl rfl rfl rfl rfl ⟨rfl, rfl⟩ ?_
    exact aw_iret hC dX8_settingOf_94 rfl rfl
  refine aw_tabIn hC dX8_settingOf_13 5 (by decide) (by decide) (off := 82) rfl (tgt := 95) (by decide) ?_ (fun n9 => ?_)
  · refine aw_aload_n hC dX8_settingOf_95 rfl ?_
    refine aw_gfR hC dX8_settingOf_96 fg_RX8_62 rfl rfl rm_6_0_0 ?_
    refine aw_bind rfl (fun q8 hq8 => ?_)
    refine aw_cVi hC dX8_settingOf_99 cv_RX8_289 rfl rm_2_0_0 (am_some (inj := (fun r => (.inr (some (.int r)), q1))) hq8 (A_X4_area _ (hC.2.2.2.2.2.2.2.2.2.2.2.2.1) _ _ _ 0 (by decide) q1)) rfl rfl rfl rfl rfl ⟨rfl, rfl⟩ ?_
    exact aw_iret hC dX8_settingOf_102 rfl rfl
  refine aw_tabIn hC dX8_settingOf_13 6 (by decide) (by decide) (off := 90) rfl (tgt := 103) (by decide) ?_ (fun n11 => ?_)
  · refine aw_aload_n hC dX8_settingOf_103 rfl ?_
    refine aw_gfR hC dX8_settingOf_104 fg_RX8_62 rfl rfl rm_6_0_0 ?_
    refine aw_bind rfl (fun q10 hq10 => ?_)
    refine aw_cVi hC dX8_settingOf_107 cv_RX8_320 rfl rm_2_0_0 (am_some (inj := (fun r => (.inr (some (.int r)), q1))) hq10 (A_X4_wayOfAll _ (hC.2.2.2.2.2.2.2.2.2.2.2.2.1) _ _ _ 0 (by decide) q1)) rfl rfl rfl rfl rfl ⟨rfl, rfl⟩ ?_
    exact aw_iret hC dX8_settingOf_110 rfl rfl
  refine aw_tabIn hC dX8_settingOf_13 7 (by decide) (by decide) (off := 98) rfl (tgt := 111) (by decide) ?_ (fun n12 => ?_)
  · refine aw_aload_n hC dX8_settingOf_111 rfl ?_
    refine aw_gfR hC dX8_settingOf_112 fg_RX8_62 rfl rfl rm_6_0_0 ?_
    refine aw_cVi hC dX8_settingOf_115 cv_RX8_295 rfl rm_2_0_0 (A_X4_turnNumber _ (hC.2.2.2.2.2.2.2.2.2.2.2.2.1) _ _ _ 0 (by decide) q1) rfl rfl rfl rfl rfl ⟨rfl, rfl⟩ ?_
    exact aw_iret hC dX8_settingOf_118 rfl rfl
  refine aw_tabIn hC dX8_settingOf_13 8 (by decide) (by decide) (off := 106) rfl (tgt := 119) (by decide) ?_ (fun n14 => ?_)
  · refine aw_aload_n hC dX8_settingOf_119 rfl ?_
    refine aw_gfR hC dX8_settingOf_120 fg_RX8_62 rfl rfl rm_6_0_0 ?_
    refine aw_bind rfl (fun q13 hq13 => ?_)
    refine aw_cVi hC dX8_settingOf_123 cv_RX8_323 rfl rm_2_0_0 (am_some (inj := (fun r => (.inr (some (.int r)), q1))) hq13 (A_X4_breaks _ (hC.2.2.2.2.2.2.2.2.2.2.2.2.1) _ _ _ 0 (by decide) q1)) rfl rfl rfl rfl rfl ⟨rfl, rfl⟩ ?_
    exact aw_iret hC dX8_settingOf_126 rfl rfl
  refine aw_tabOut hC dX8_settingOf_13 ((tab_out 9 rfl (lt_s (lt_s (lt_s (lt_s (lt_s (lt_s (lt_s (lt_s (lt_s lt_0 n2) n3) n4) n5) n7) n9) n11) n12) n14)).imp id (fun z => by omega)) (tgt := 127) (by decide) ?_
  refine aw_aload_n hC dX8_settingOf_127 rfl ?_
  refine aw_bind rfl (fun q15 hq15 => ?_)
  refine aw_cVi hC dX8_settingOf_128 cv_RX8_326 rfl (rv_1_0 hr1) (am_some (inj := (fun r => (.inr (some (.int r)), q1))) hq15 (A_X2_preferredSpots _ (hC.2.2.2.2.2.2.2.2.2.2.2.2.1) _ _ _ r1 hr1 q1)) rfl rfl rfl rfl rfl ⟨rfl, rfl⟩ ?_
  exact aw_iret hC dX8_settingOf_131 rfl rfl
set_option maxHeartbeats 4000000 in
set_option maxRecDepth 100000 in
theorem A_X8_setting (l : Launch) (hl0 : l.stackTraces = false) (D : va_G) (loc : Rf → Nat) (cy : Nat → ClassId) (p1 : Int32) (h : HD) : AX l D loc cy yX8_setting (Cond.code yX8_setting cX8_setting 2 (some .int) :: LW) 7 170 1 6 [.ref (loc (6, 0, 0)), .int p1] h ((jX8_setting p1 h).map (fun r => (xi (fun v => some (.int v)) r.1, r.2))) := by
  refine ax_start (y := yX8_setting) (av := [.ref (loc (6, 0, 0)), .int p1]) (nL := 2) (h := h) (RF := fun (r : Option ((Nat ⊕ Int32) × HD)) => r.map (fun r => (xi (fun v => some (.int v)) r.1, r.2))) (x := jX8_setting p1 h) hl0 (by decide +kernel) rfl ?_
  intro p e R s m below meth c A hxt hC
  unfold jX8_setting
  refine aw_aload_n hC dX8_setting_0 rfl ?_
  refine aw_iload_n hC dX8_setting_1 rfl ?_
  refine aw_bind rfl (fun q1 hq1 => ?_)
  refine aw_cXv hC hxt dX8_setting_2 cv_RX8_227 rfl rm_6_0_0 (ax_some (inj := (fun r => (xi (fun _ => none) r, h))) hq1 (A_X8_needSetting _ (hC.2.2.2.2.2.2.2.2.2.2.2.2.1) _ _ _ p1 h)) rfl rfl rfl rfl rfl ⟨rfl, rfl⟩ rfl rfl (fun _ => rfl) (fun v2 => ?_)
  refine aw_aload_n hC dX8_setting_5 rfl ?_
  refine aw_aload_n hC dX8_setting_6 rfl ?_
  refine aw_gfR hC dX8_setting_7 fg_RX8_42 rfl rfl rm_6_0_0 ?_
  refine aw_iload_n hC dX8_setting_10 rfl ?_
  refine aw_bind rfl (fun q3 hq3 => ?_)
  refine aw_cVi hC dX8_setting_11 cv_RX8_230 rfl rm_6_0_0 (am_some (inj := (fun r => (.inr (some (.int r.1)), r.2))) hq3 (A_X8_settingOf _ (hC.2.2.2.2.2.2.2.2.2.2.2.2.1) _ _ _ 0 (by decide) p1 h)) rfl rfl rfl rfl rfl ⟨rfl, rfl⟩ ?_
  exact aw_ireX hC dX8_setting_14 rfl rfl rfl rfl
set_option maxHeartbeats 4000000 in
set_option maxRecDepth 100000 in
theorem A_X8_needCar (l : Launch) (hl0 : l.stackTraces = false) (D : va_G) (loc : Rf → Nat) (cy : Nat → ClassId) (p1 : Int32) (h : HD) : AX l D loc cy yX8_needCar (Cond.code yX8_needCar cX8_needCar 2 (none) :: LW) 6 100 1 6 [.ref (loc (6, 0, 0)), .int p1] h ((jX8_needCar p1 h).map (fun r => (xi (fun _ => none) r, h))) := by
  refine ax_start (y := yX8_needCar) (av := [.ref (loc (6, 0, 0)), .int p1]) (nL := 2) (h := h) (RF := fun (r : Option (Nat ⊕ Unit)) => r.map (fun r => (xi (fun _ => none) r, h))) (x := jX8_needCar p1 h) hl0 (by decide +kernel) rfl ?_
  intro p e R s m below meth c A hxt hC
  unfold jX8_needCar
  refine aw_aload_n hC dX8_needCar_0 rfl ?_
  refine aw_gfR hC dX8_needCar_1 fg_RX8_42 rfl rfl rm_6_0_0 ?_
  refine aw_iload_n hC dX8_needCar_4 rfl ?_
  refine aw_cVb hC dX8_needCar_5 cv_RX8_331 rfl rm_1_0_0 (A_X2_hasCar _ (hC.2.2.2.2.2.2.2.2.2.2.2.2.1) _ _ _ 0 (by decide) p1 h) rfl rfl rfl rfl rfl ⟨rfl, rfl⟩ ?_
  refine aw_if_ne_b hC dX8_needCar_8 (tgt := 22) (by decide) ?_ ?_
  · exact aw_vreX hC dX8_needCar_22 rfl rfl rfl rfl
  · exact aw_throw2w (text := "there is no such car") (sid := 336) hC hxt dX8_needCar_11 dX8_needCar_14 dX8_needCar_15 dX8_needCar_18 dX8_needCar_21 tw5_192 tw1_24 (by decide +kernel) rfl rfl rfl rfl rfl rfl rfl
set_option maxHeartbeats 4000000 in
set_option maxRecDepth 100000 in
theorem A_X2_nameOf (l : Launch) (hl0 : l.stackTraces = false) (D : va_G) (loc : Rf → Nat) (cy : Nat → ClassId) (o : Nat) (ho : o < 10) (p1 : Int32) (h : HD) : AM l D loc cy yX2_nameOf cX2_nameOf 2 (some .long) 1 37 [.ref (loc (1, o, 0)), .int p1] h ((jX2_nameOf o p1 h).map (fun r => (.inr (some (.long r)), h))) := by
  refine am_start (y := yX2_nameOf) (av := [.ref (loc (1, o, 0)), .int p1]) (nL := 2) (h := h) (RF := fun (r : Option Int64) => r.map (fun r => (.inr (some (.long r)), h))) (x := jX2_nameOf o p1 h) hl0 (by decide +kernel) rfl ?_
  intro p e R s m below meth c A hC
  unfold jX2_nameOf
  refine aw_aload_n hC dX2_nameOf_0 rfl ?_
  refine aw_iload_n hC dX2_nameOf_1 rfl ?_
  refine aw_cVb hC dX2_nameOf_2 cv_RX2_26 rfl (rv_1_0 ho) (A_X2_hasCar _ (hC.2.2.2.2.2.2.2.2.2.2.2.2.1) _ _ _ o ho p1 h) rfl rfl rfl rfl rfl ⟨rfl, rfl⟩ ?_
  refine aw_if_eq_b hC dX2_nameOf_5 (tgt := 17) (by decide) ?_ ?_
  · refine aw_lconst hC dX2_nameOf_17 (v := 0) (by decide) ?_
    exact aw_lret hC dX2_nameOf_18 rfl rfl
  · refine aw_aload_n hC dX2_nameOf_8 rfl ?_
    refine aw_gfR hC dX2_nameOf_9 fg_RX2_9 rfl rfl (rv_1_0 ho) ?_
    refine aw_iload_n hC dX2_nameOf_12 rfl ?_
    refine aw_guard rfl (fun g1 => ?_)
    refine aw_lald hC dX2_nameOf_13 (rv_1_1 ho) rfl rfl g1 rfl ?_
    refine aw_goto hC dX2_nameOf_14 (tgt := 18) (by decide) ?_
    exact aw_lret hC dX2_nameOf_18 rfl rfl
set_option maxHeartbeats 4000000 in
set_option maxRecDepth 100000 in
theorem A_X8_letterOf (l : Launch) (hl0 : l.stackTraces = false) (D : va_G) (loc : Rf → Nat) (cy : Nat → ClassId) (p1 : Int64) (p2 : Int32) (h : HD) : AM l D loc cy yX8_letterOf cX8_letterOf 3 (some .int) 0 16 [.long p1, .int p2] h (some (.inr (some (.int (jX8_letterOf p1 p2 h))), h)) := by
  refine am_start (y := yX8_letterOf) (av := [.long p1, .int p2]) (nL := 3) (h := h) (RF := fun (r : Int32) => some (.inr (some (.int r)), h)) (x := jX8_letterOf p1 p2 h) hl0 (by decide +kernel) rfl ?_
  intro p e R s m below meth c A hC
  unfold jX8_letterOf
  refine aw_iload_n hC dX8_letterOf_0 rfl ?_
  refine aw_if_lt hC dX8_letterOf_1 (tgt := 10) (by decide) ?_ ?_
  · refine aw_iconst hC dX8_letterOf_10 (v := 0) (by decide) ?_
    exact aw_iret hC dX8_letterOf_11 rfl rfl
  · refine aw_iload_n hC dX8_letterOf_4 rfl ?_
    refine aw_bipush hC dX8_letterOf_5 (v := 8) (by decide) ?_
    refine aw_icmp_lt hC dX8_letterOf_7 (tgt := 12) (by decide) ?_ ?_
    · refine aw_lload_n hC dX8_letterOf_12 rfl ?_
      refine aw_iconst hC dX8_letterOf_13 (v := 5) (by decide) ?_
      refine aw_bipush hC dX8_letterOf_14 (v := 7) (by decide) ?_
      refine aw_iload_n hC dX8_letterOf_16 rfl ?_
      refine aw_isub hC dX8_letterOf_17 ?_
      refine aw_imul hC dX8_letterOf_18 ?_
      refine aw_lshr hC dX8_letterOf_19 ?_
      refine aw_l2i hC dX8_letterOf_20 ?_
      refine aw_bipush hC dX8_letterOf_21 (v := 31) (by decide) ?_
      refine aw_iand hC dX8_letterOf_23 ?_
      exact aw_iret hC dX8_letterOf_24 rfl rfl
    · refine aw_iconst hC dX8_letterOf_10 (v := 0) (by decide) ?_
      exact aw_iret hC dX8_letterOf_11 rfl rfl
set_option maxHeartbeats 4000000 in
set_option maxRecDepth 100000 in
theorem A_X8_letter (l : Launch) (hl0 : l.stackTraces = false) (D : va_G) (loc : Rf → Nat) (cy : Nat → ClassId) (p1 : Int32) (p2 : Int32) (h : HD) : AX l D loc cy yX8_letter (Cond.code yX8_letter cX8_letter 3 (some .int) :: LW) 7 121 1 6 [.ref (loc (6, 0, 0)), .int p1, .int p2] h ((jX8_letter p1 p2 h).map (fun r => (xi (fun v => some (.int v)) r, h))) := by
  refine ax_start (y := yX8_letter) (av := [.ref (loc (6, 0, 0)), .int p1, .int p2]) (nL := 3) (h := h) (RF := fun (r : Option (Nat ⊕ Int32)) => r.map (fun r => (xi (fun v => some (.int v)) r, h))) (x := jX8_letter p1 p2 h) hl0 (by decide +kernel) rfl ?_
  intro p e R s m below meth c A hxt hC
  unfold jX8_letter
  refine aw_aload_n hC dX8_letter_0 rfl ?_
  refine aw_iload_n hC dX8_letter_1 rfl ?_
  refine aw_bind rfl (fun q1 hq1 => ?_)
  refine aw_cXv hC hxt dX8_letter_2 cv_RX8_234 rfl rm_6_0_0 (ax_some (inj := (fun r => (xi (fun _ => none) r, h))) hq1 (A_X8_needCar _ (hC.2.2.2.2.2.2.2.2.2.2.2.2.1) _ _ _ p1 h)) rfl rfl rfl rfl rfl ⟨rfl, rfl⟩ rfl rfl (fun _ => rfl) (fun v2 => ?_)
  refine aw_aload_n hC dX8_letter_5 rfl ?_
  refine aw_gfR hC dX8_letter_6 fg_RX8_42 rfl rfl rm_6_0_0 ?_
  refine aw_iload_n hC dX8_letter_9 rfl ?_
  refine aw_bind rfl (fun q3 hq3 => ?_)
  refine aw_cVj hC dX8_letter_10 cv_RX8_237 rfl rm_1_0_0 (am_some (inj := (fun r => (.inr (some (.long r)), h))) hq3 (A_X2_nameOf _ (hC.2.2.2.2.2.2.2.2.2.2.2.2.1) _ _ _ 0 (by decide) p1 h)) rfl rfl rfl rfl rfl ⟨rfl, rfl⟩ ?_
  refine aw_iload_n hC dX8_letter_13 rfl ?_
  refine aw_cSi hC dX8_letter_14 cv_RX8_241 (A_X8_letterOf _ (hC.2.2.2.2.2.2.2.2.2.2.2.2.1) _ _ _ q3 p2 h) rfl rfl rfl rfl rfl ⟨rfl, rfl⟩ ?_
  exact aw_ireX hC dX8_letter_17 rfl rfl rfl rfl
set_option maxHeartbeats 4000000 in
set_option maxRecDepth 100000 in
theorem A_X8_parked (l : Launch) (hl0 : l.stackTraces = false) (D : va_G) (loc : Rf → Nat) (cy : Nat → ClassId)  (h : HD) : AM l D loc cy yX8_parked cX8_parked 1 (some (.object "ParkingCircle$Parking")) 6 148 [.ref (loc (6, 0, 0))] h ((jX8_parked h).map (fun r => (.inr (some (.ref (loc (2, 0, 0)))), r))) := by
  refine am_start (y := yX8_parked) (av := [.ref (loc (6, 0, 0))]) (nL := 1) (h := h) (RF := fun (r : Option HD) => r.map (fun r => (.inr (some (.ref (loc (2, 0, 0)))), r))) (x := jX8_parked h) hl0 (by decide +kernel) rfl ?_
  intro p e R s m below meth c A hC
  unfold jX8_parked
  refine aw_aload_n hC dX8_parked_0 rfl ?_
  refine aw_gfR hC dX8_parked_1 fg_RX8_62 rfl rfl rm_6_0_0 ?_
  refine aw_aload_n hC dX8_parked_4 rfl ?_
  refine aw_gfR hC dX8_parked_5 fg_RX8_42 rfl rfl rm_6_0_0 ?_
  refine aw_aload_n hC dX8_parked_8 rfl ?_
  refine aw_gfR hC dX8_parked_9 fg_RX8_42 rfl rfl rm_6_0_0 ?_
  refine aw_cVi hC dX8_parked_12 cv_RX8_138 rfl rm_1_0_0 (A_X2_count _ (hC.2.2.2.2.2.2.2.2.2.2.2.2.1) _ _ _ 0 (by decide) h) rfl rfl rfl rfl rfl ⟨rfl, rfl⟩ ?_
  refine aw_bind rfl (fun q1 hq1 => ?_)
  refine aw_cVv hC dX8_parked_15 cv_RX8_301 rfl rm_2_0_0 (am_some (inj := (fun r => (.inr (none), r))) hq1 (A_X4_comeRound _ (hC.2.2.2.2.2.2.2.2.2.2.2.2.1) _ _ _ 0 (by decide) 0 (by decide) (jX2_count 0 h) h)) rfl rfl rfl rfl rfl ⟨rfl, rfl⟩ ?_
  refine aw_aload_n hC dX8_parked_18 rfl ?_
  refine aw_gfR hC dX8_parked_19 fg_RX8_62 rfl rfl rm_6_0_0 ?_
  exact aw_aret hC dX8_parked_22 rfl (Or.inl ⟨_, rfl⟩) (Or.inr ⟨_, rfl⟩) rfl
set_option maxHeartbeats 4000000 in
set_option maxRecDepth 100000 in
theorem A_X4_spotOf (l : Launch) (hl0 : l.stackTraces = false) (D : va_G) (loc : Rf → Nat) (cy : Nat → ClassId) (o : Nat) (ho : o < 2) (p1 : Int32) (h : HD) : AM l D loc cy yX4_spotOf cX4_spotOf 2 (some .int) 1 37 [.ref (loc (2, o, 0)), .int p1] h ((jX4_spotOf o p1 h).map (fun r => (.inr (some (.int r)), h))) := by
  refine am_start (y := yX4_spotOf) (av := [.ref (loc (2, o, 0)), .int p1]) (nL := 2) (h := h) (RF := fun (r : Option Int32) => r.map (fun r => (.inr (some (.int r)), h))) (x := jX4_spotOf o p1 h) hl0 (by decide +kernel) rfl ?_
  intro p e R s m below meth c A hC
  unfold jX4_spotOf
  refine aw_aload_n hC dX4_spotOf_0 rfl ?_
  refine aw_iload_n hC dX4_spotOf_1 rfl ?_
  refine aw_cVb hC dX4_spotOf_2 cv_RX4_90 rfl (rv_2_0 ho) (A_X4_hasCome _ (hC.2.2.2.2.2.2.2.2.2.2.2.2.1) _ _ _ o ho p1 h) rfl rfl rfl rfl rfl ⟨rfl, rfl⟩ ?_
  refine aw_if_eq_b hC dX4_spotOf_5 (tgt := 17) (by decide) ?_ ?_
  · refine aw_iconst hC dX4_spotOf_17 (v := -1) (by decide) ?_
    exact aw_iret hC dX4_spotOf_18 rfl rfl
  · refine aw_aload_n hC dX4_spotOf_8 rfl ?_
    refine aw_gfR hC dX4_spotOf_9 fg_RX4_15 rfl rfl (rv_2_0 ho) ?_
    refine aw_iload_n hC dX4_spotOf_12 rfl ?_
    refine aw_guard rfl (fun g1 => ?_)
    refine aw_iald hC dX4_spotOf_13 (rv_2_2 ho) rfl rfl g1 rfl ?_
    refine aw_goto hC dX4_spotOf_14 (tgt := 18) (by decide) ?_
    exact aw_iret hC dX4_spotOf_18 rfl rfl
set_option maxHeartbeats 4000000 in
set_option maxRecDepth 100000 in
theorem A_X4_takerOf (l : Launch) (hl0 : l.stackTraces = false) (D : va_G) (loc : Rf → Nat) (cy : Nat → ClassId) (o : Nat) (ho : o < 2) (p1 : Int32) (h : HD) : AM l D loc cy yX4_takerOf cX4_takerOf 2 (some .int) 1 37 [.ref (loc (2, o, 0)), .int p1] h ((jX4_takerOf o p1 h).map (fun r => (.inr (some (.int r)), h))) := by
  refine am_start (y := yX4_takerOf) (av := [.ref (loc (2, o, 0)), .int p1]) (nL := 2) (h := h) (RF := fun (r : Option Int32) => r.map (fun r => (.inr (some (.int r)), h))) (x := jX4_takerOf o p1 h) hl0 (by decide +kernel) rfl ?_
  intro p e R s m below meth c A hC
  unfold jX4_takerOf
  refine aw_aload_n hC dX4_takerOf_0 rfl ?_
  refine aw_iload_n hC dX4_takerOf_1 rfl ?_
  refine aw_cVb hC dX4_takerOf_2 cv_RX4_87 rfl (rv_2_0 ho) (A_X4_isSpot _ (hC.2.2.2.2.2.2.2.2.2.2.2.2.1) _ _ _ o ho p1 h) rfl rfl rfl rfl rfl ⟨rfl, rfl⟩ ?_
  refine aw_if_eq_b hC dX4_takerOf_5 (tgt := 17) (by decide) ?_ ?_
  · refine aw_iconst hC dX4_takerOf_17 (v := -1) (by decide) ?_
    exact aw_iret hC dX4_takerOf_18 rfl rfl
  · refine aw_aload_n hC dX4_takerOf_8 rfl ?_
    refine aw_gfR hC dX4_takerOf_9 fg_RX4_21 rfl rfl (rv_2_0 ho) ?_
    refine aw_iload_n hC dX4_takerOf_12 rfl ?_
    refine aw_guard rfl (fun g1 => ?_)
    refine aw_iald hC dX4_takerOf_13 (rv_2_4 ho) rfl rfl g1 rfl ?_
    refine aw_goto hC dX4_takerOf_14 (tgt := 18) (by decide) ?_
    exact aw_iret hC dX4_takerOf_18 rfl rfl
set_option maxHeartbeats 4000000 in
set_option maxRecDepth 100000 in
theorem A_X4_isTakenBy (l : Launch) (hl0 : l.stackTraces = false) (D : va_G) (loc : Rf → Nat) (cy : Nat → ClassId) (o : Nat) (ho : o < 2) (p1 : Int32) (p2 : Int32) (h : HD) : AM l D loc cy yX4_isTakenBy cX4_isTakenBy 4 (some .boolean) 2 58 [.ref (loc (2, o, 0)), .int p1, .int p2] h ((jX4_isTakenBy o p1 p2 h).map (fun r => (.inr (some (.int (b2i r))), h))) := by
  refine am_start (y := yX4_isTakenBy) (av := [.ref (loc (2, o, 0)), .int p1, .int p2]) (nL := 4) (h := h) (RF := fun (r : Option Bool) => r.map (fun r => (.inr (some (.int (b2i r))), h))) (x := jX4_isTakenBy o p1 p2 h) hl0 (by decide +kernel) rfl ?_
  intro p e R s m below meth c A hC
  unfold jX4_isTakenBy
  refine aw_aload_n hC dX4_isTakenBy_0 rfl ?_
  refine aw_iload_n hC dX4_isTakenBy_1 rfl ?_
  refine aw_bind rfl (fun q1 hq1 => ?_)
  refine aw_cVi hC dX4_isTakenBy_2 cv_RX4_103 rfl (rv_2_0 ho) (am_some (inj := (fun r => (.inr (some (.int r)), h))) hq1 (A_X4_takerOf _ (hC.2.2.2.2.2.2.2.2.2.2.2.2.1) _ _ _ o ho p1 h)) rfl rfl rfl rfl rfl ⟨rfl, rfl⟩ ?_
  refine aw_istore_n hC dX4_isTakenBy_5 (by decide) ?_
  refine aw_iload_n hC dX4_isTakenBy_6 rfl ?_
  refine aw_iconst hC dX4_isTakenBy_7 (v := -1) (by decide) ?_
  refine aw_icmp_eq hC dX4_isTakenBy_8 (tgt := 20) (by decide) ?_ ?_
  · refine aw_iconst hC dX4_isTakenBy_20 (v := 0) (by decide) ?_
    exact aw_zret hC dX4_isTakenBy_21 rfl (show _ = b2i false from rfl) rfl
  · refine aw_iload_n hC dX4_isTakenBy_11 rfl ?_
    refine aw_iload_n hC dX4_isTakenBy_12 rfl ?_
    refine aw_icmp_gt hC dX4_isTakenBy_13 (tgt := 20) (by decide) ?_ ?_
    · refine aw_iconst hC dX4_isTakenBy_20 (v := 0) (by decide) ?_
      exact aw_zret hC dX4_isTakenBy_21 rfl (show _ = b2i false from rfl) rfl
    · refine aw_iconst hC dX4_isTakenBy_16 (v := 1) (by decide) ?_
      refine aw_goto hC dX4_isTakenBy_17 (tgt := 21) (by decide) ?_
      exact aw_zret hC dX4_isTakenBy_21 rfl (show _ = b2i true from rfl) rfl
set_option maxHeartbeats 4000000 in
set_option maxRecDepth 100000 in
theorem L_X4_runOf_8 (o : Nat) (ho : o < 2) (p1 : Int32) (x2 : Int32) (h : HD) (hC : Cx p l e R s m args meth c D loc cy A cX4_runOf 4 (some .int) RX4 3 81 0 0)  : ∀ (n8 : Nat) (x3 : Int32), AW p l e R s m args below meth c D loc cy A 4 (QM below D loc cy A args s) (fun (r : Option Int32) => r.map (fun r => (.inr (some (.int r)), h))) (0, 0) 8 [(0, .ref (loc (2, o, 0))), (1, .int p1), (2, .int x2), (3, .int x3)] [] h (jX4_runOf_L8 o p1 x2 h n8 x3) := by
  intro n8
  induction n8 with
  | zero => intro x3; exact aw_none rfl
  | succ n8 ih8 =>
    intro x3
    rw [jX4_runOf_L8]
    refine aw_iload_n hC dX4_runOf_8 rfl ?_
    refine aw_aload_n hC dX4_runOf_9 rfl ?_
    refine aw_gfI hC dX4_runOf_10 fg_RX4_24 rfl (rv_2_0 ho) ?_
    refine aw_icmp_ge hC dX4_runOf_13 (tgt := 40) (by decide) ?_ ?_
    · refine aw_iload_n hC dX4_runOf_40 rfl ?_
      exact aw_iret hC dX4_runOf_41 rfl rfl
    · refine aw_aload_n hC dX4_runOf_16 rfl ?_
      refine aw_iload_n hC dX4_runOf_17 rfl ?_
      refine aw_iload_n hC dX4_runOf_18 rfl ?_
      refine aw_isub hC dX4_runOf_19 ?_
      refine aw_aload_n hC dX4_runOf_20 rfl ?_
      refine aw_gfI hC dX4_runOf_21 fg_RX4_24 rfl (rv_2_0 ho) ?_
      refine aw_bind rfl (fun q2 hq2 => ?_)
      refine aw_cNi hC dX4_runOf_24 cv_RX4_83 (am_some (inj := (fun r => (.inr (some (.int r)), h))) hq2 (A_X8_wrapped _ (hC.2.2.2.2.2.2.2.2.2.2.2.2.1) _ _ _ (x2 - x3) (gI h (2, o, 0) 4) h)) rfl rfl rfl rfl rfl ⟨rfl, rfl⟩ ?_
      refine aw_iload_n hC dX4_runOf_27 rfl ?_
      refine aw_bind rfl (fun q3 hq3 => ?_)
      refine aw_cVb hC dX4_runOf_28 cv_RX4_99 rfl (rv_2_0 ho) (am_some (inj := (fun r => (.inr (some (.int (b2i r))), h))) hq3 (A_X4_isTakenBy _ (hC.2.2.2.2.2.2.2.2.2.2.2.2.1) _ _ _ o ho q2 p1 h)) rfl rfl rfl rfl rfl ⟨rfl, rfl⟩ ?_
      refine aw_if_eq_b hC dX4_runOf_31 (tgt := 40) (by decide) ?_ ?_
      · refine aw_iload_n hC dX4_runOf_40 rfl ?_
        exact aw_iret hC dX4_runOf_41 rfl rfl
      · refine aw_iinc hC dX4_runOf_34 rfl (v := x3 + 1) (by first | rfl | decide) (by decide) ?_
        refine aw_goto hC dX4_runOf_37 (tgt := 8) (by decide) ?_
        refine aw_sub [0, 1, 2, 3] ?_
        exact ih8 (x3 + 1)
set_option maxHeartbeats 4000000 in
set_option maxRecDepth 100000 in
theorem A_X4_runOf (l : Launch) (hl0 : l.stackTraces = false) (D : va_G) (loc : Rf → Nat) (cy : Nat → ClassId) (o : Nat) (ho : o < 2) (p1 : Int32) (h : HD) : AM l D loc cy yX4_runOf cX4_runOf 4 (some .int) 3 81 [.ref (loc (2, o, 0)), .int p1] h ((jX4_runOf o p1 h).map (fun r => (.inr (some (.int r)), h))) := by
  refine am_start (y := yX4_runOf) (av := [.ref (loc (2, o, 0)), .int p1]) (nL := 4) (h := h) (RF := fun (r : Option Int32) => r.map (fun r => (.inr (some (.int r)), h))) (x := jX4_runOf o p1 h) hl0 (by decide +kernel) rfl ?_
  intro p e R s m below meth c A hC
  unfold jX4_runOf
  refine aw_aload_n hC dX4_runOf_0 rfl ?_
  refine aw_iload_n hC dX4_runOf_1 rfl ?_
  refine aw_bind rfl (fun q1 hq1 => ?_)
  refine aw_cVi hC dX4_runOf_2 cv_RX4_93 rfl (rv_2_0 ho) (am_some (inj := (fun r => (.inr (some (.int r)), h))) hq1 (A_X4_spotOf _ (hC.2.2.2.2.2.2.2.2.2.2.2.2.1) _ _ _ o ho p1 h)) rfl rfl rfl rfl rfl ⟨rfl, rfl⟩ ?_
  refine aw_istore_n hC dX4_runOf_5 (by decide) ?_
  refine aw_iconst hC dX4_runOf_6 (v := 0) (by decide) ?_
  refine aw_istore_n hC dX4_runOf_7 (by decide) ?_
  refine aw_sub [0, 1, 2, 3] ?_
  exact L_X4_runOf_8 o ho p1 q1 h  hC FU (0 : Int32)
set_option maxHeartbeats 4000000 in
set_option maxRecDepth 100000 in
theorem A_X8_car (l : Launch) (hl0 : l.stackTraces = false) (D : va_G) (loc : Rf → Nat) (cy : Nat → ClassId) (p1 : Int32) (p2 : Int32) (h : HD) : AX l D loc cy yX8_car (Cond.code yX8_car cX8_car 4 (some .int) :: LW) 7 168 2 12 [.ref (loc (6, 0, 0)), .int p1, .int p2] h ((jX8_car p1 p2 h).map (fun r => (xi (fun v => some (.int v)) r.1, r.2))) := by
  refine ax_start (y := yX8_car) (av := [.ref (loc (6, 0, 0)), .int p1, .int p2]) (nL := 4) (h := h) (RF := fun (r : Option ((Nat ⊕ Int32) × HD)) => r.map (fun r => (xi (fun v => some (.int v)) r.1, r.2))) (x := jX8_car p1 p2 h) hl0 (by decide +kernel) rfl ?_
  intro p e R s m below meth c A hxt hC
  unfold jX8_car
  refine aw_aload_n hC dX8_car_0 rfl ?_
  refine aw_iload_n hC dX8_car_1 rfl ?_
  refine aw_bind rfl (fun q1 hq1 => ?_)
  refine aw_cXv hC hxt dX8_car_2 cv_RX8_234 rfl rm_6_0_0 (ax_some (inj := (fun r => (xi (fun _ => none) r, h))) hq1 (A_X8_needCar _ (hC.2.2.2.2.2.2.2.2.2.2.2.2.1) _ _ _ p1 h)) rfl rfl rfl rfl rfl ⟨rfl, rfl⟩ rfl rfl (fun _ => rfl) (fun v2 => ?_)
  refine aw_aload_n hC dX8_car_5 rfl ?_
  refine aw_bind rfl (fun q3 hq3 => ?_)
  refine aw_cVr hC dX8_car_6 cv_RX8_245 rfl rm_6_0_0 (am_some (inj := (fun r => (.inr (some (.ref (loc (2, 0, 0)))), r))) hq3 (A_X8_parked _ (hC.2.2.2.2.2.2.2.2.2.2.2.2.1) _ _ _ h)) rfl rfl rfl rfl rfl ⟨rfl, rfl⟩ ?_
  refine aw_astore_n hC dX8_car_9 (by decide) ?_
  refine aw_iload_n hC dX8_car_10 rfl ?_
  refine aw_tabIn hC dX8_car_11 0 (by decide) (by decide) (off := 37) rfl (tgt := 48) (by decide) ?_ (fun n5 => ?_)
  · refine aw_aload_n hC dX8_car_48 rfl ?_
    refine aw_gfR hC dX8_car_49 fg_RX8_42 rfl rfl rm_6_0_0 ?_
    refine aw_iload_n hC dX8_car_52 rfl ?_
    refine aw_bind rfl (fun q4 hq4 => ?_)
    refine aw_cVi hC dX8_car_53 cv_RX8_249 rfl rm_1_0_0 (am_some (inj := (fun r => (.inr (some (.int r)), q3))) hq4 (A_X2_preferenceOf _ (hC.2.2.2.2.2.2.2.2.2.2.2.2.1) _ _ _ 0 (by decide) p1 q3)) rfl rfl rfl rfl rfl ⟨rfl, rfl⟩ ?_
    exact aw_ireX hC dX8_car_56 rfl rfl rfl rfl
  refine aw_tabIn hC dX8_car_11 1 (by decide) (by decide) (off := 46) rfl (tgt := 57) (by decide) ?_ (fun n7 => ?_)
  · refine aw_aload_n hC dX8_car_57 rfl ?_
    refine aw_iload_n hC dX8_car_58 rfl ?_
    refine aw_bind rfl (fun q6 hq6 => ?_)
    refine aw_cVi hC dX8_car_59 cv_RX8_253 rfl rm_2_0_0 (am_some (inj := (fun r => (.inr (some (.int r)), q3))) hq6 (A_X4_spotOf _ (hC.2.2.2.2.2.2.2.2.2.2.2.2.1) _ _ _ 0 (by decide) p1 q3)) rfl rfl rfl rfl rfl ⟨rfl, rfl⟩ ?_
    exact aw_ireX hC dX8_car_62 rfl rfl rfl rfl
  refine aw_tabIn hC dX8_car_11 2 (by decide) (by decide) (off := 52) rfl (tgt := 63) (by decide) ?_ (fun n9 => ?_)
  · refine aw_aload_n hC dX8_car_63 rfl ?_
    refine aw_iload_n hC dX8_car_64 rfl ?_
    refine aw_bind rfl (fun q8 hq8 => ?_)
    refine aw_cVi hC dX8_car_65 cv_RX8_256 rfl rm_2_0_0 (am_some (inj := (fun r => (.inr (some (.int r)), q3))) hq8 (A_X4_movedOf _ (hC.2.2.2.2.2.2.2.2.2.2.2.2.1) _ _ _ 0 (by decide) p1 q3)) rfl rfl rfl rfl rfl ⟨rfl, rfl⟩ ?_
    exact aw_ireX hC dX8_car_68 rfl rfl rfl rfl
  refine aw_tabIn hC dX8_car_11 3 (by decide) (by decide) (off := 58) rfl (tgt := 69) (by decide) ?_ (fun n11 => ?_)
  · refine aw_aload_n hC dX8_car_69 rfl ?_
    refine aw_iload_n hC dX8_car_70 rfl ?_
    refine aw_bind rfl (fun q10 hq10 => ?_)
    refine aw_cVb hC dX8_car_71 cv_RX8_259 rfl rm_2_0_0 (am_some (inj := (fun r => (.inr (some (.int (b2i r))), q3))) hq10 (A_X4_isLucky _ (hC.2.2.2.2.2.2.2.2.2.2.2.2.1) _ _ _ 0 (by decide) p1 q3)) rfl rfl rfl rfl rfl ⟨rfl, rfl⟩ ?_
    refine aw_if_eq_b hC dX8_car_74 (tgt := 81) (by decide) ?_ ?_
    · refine aw_iconst hC dX8_car_81 (v := 0) (by decide) ?_
      exact aw_ireX hC dX8_car_82 rfl rfl rfl rfl
    · refine aw_iconst hC dX8_car_77 (v := 1) (by decide) ?_
      refine aw_goto hC dX8_car_78 (tgt := 82) (by decide) ?_
      exact aw_ireX hC dX8_car_82 rfl rfl rfl rfl
  refine aw_tabIn hC dX8_car_11 4 (by decide) (by decide) (off := 72) rfl (tgt := 83) (by decide) ?_ (fun n13 => ?_)
  · refine aw_aload_n hC dX8_car_83 rfl ?_
    refine aw_iload_n hC dX8_car_84 rfl ?_
    refine aw_bind rfl (fun q12 hq12 => ?_)
    refine aw_cVi hC dX8_car_85 cv_RX8_262 rfl rm_2_0_0 (am_some (inj := (fun r => (.inr (some (.int r)), q3))) hq12 (A_X4_runOf _ (hC.2.2.2.2.2.2.2.2.2.2.2.2.1) _ _ _ 0 (by decide) p1 q3)) rfl rfl rfl rfl rfl ⟨rfl, rfl⟩ ?_
    exact aw_ireX hC dX8_car_88 rfl rfl rfl rfl
  refine aw_tabIn hC dX8_car_11 5 (by decide) (by decide) (off := 78) rfl (tgt := 89) (by decide) ?_ (fun n15 => ?_)
  · refine aw_aload_n hC dX8_car_89 rfl ?_
    refine aw_iload_n hC dX8_car_90 rfl ?_
    refine aw_bind rfl (fun q14 hq14 => ?_)
    refine aw_cVi hC dX8_car_91 cv_RX8_265 rfl rm_2_0_0 (am_some (inj := (fun r => (.inr (some (.int r)), q3))) hq14 (A_X4_turnedPreferenceOf _ (hC.2.2.2.2.2.2.2.2.2.2.2.2.1) _ _ _ 0 (by decide) p1 q3)) rfl rfl rfl rfl rfl ⟨rfl, rfl⟩ ?_
    exact aw_ireX hC dX8_car_94 rfl rfl rfl rfl
  refine aw_tabOut hC dX8_car_11 ((tab_out 6 rfl (lt_s (lt_s (lt_s (lt_s (lt_s (lt_s lt_0 n5) n7) n9) n11) n13) n15)).imp id (fun z => by omega)) (tgt := 95) (by decide) ?_
  exact aw_throw1w (text := "a car has no such number") (sid := 268) hC hxt dX8_car_95 dX8_car_98 dX8_car_99 dX8_car_102 dX8_car_105 tw4_48 tw1_13 (by decide +kernel) rfl rfl rfl rfl rfl rfl rfl
set_option maxHeartbeats 4000000 in
set_option maxRecDepth 100000 in
theorem A_X2_hasSpot (l : Launch) (hl0 : l.stackTraces = false) (D : va_G) (loc : Rf → Nat) (cy : Nat → ClassId) (o : Nat) (ho : o < 10) (p1 : Int32) (h : HD) : AM l D loc cy yX2_hasSpot cX2_hasSpot 2 (some .boolean) 0 16 [.ref (loc (1, o, 0)), .int p1] h (some (.inr (some (.int (b2i (jX2_hasSpot o p1 h)))), h)) := by
  refine am_start (y := yX2_hasSpot) (av := [.ref (loc (1, o, 0)), .int p1]) (nL := 2) (h := h) (RF := fun (r : Bool) => some (.inr (some (.int (b2i r))), h)) (x := jX2_hasSpot o p1 h) hl0 (by decide +kernel) rfl ?_
  intro p e R s m below meth c A hC
  unfold jX2_hasSpot
  refine aw_iload_n hC dX2_hasSpot_0 rfl ?_
  refine aw_if_lt hC dX2_hasSpot_1 (tgt := 16) (by decide) ?_ ?_
  · refine aw_iconst hC dX2_hasSpot_16 (v := 0) (by decide) ?_
    exact aw_zret hC dX2_hasSpot_17 rfl (show _ = b2i false from rfl) rfl
  · refine aw_iload_n hC dX2_hasSpot_4 rfl ?_
    refine aw_aload_n hC dX2_hasSpot_5 rfl ?_
    refine aw_gfI hC dX2_hasSpot_6 fg_RX2_19 rfl (rv_1_0 ho) ?_
    refine aw_icmp_gt hC dX2_hasSpot_9 (tgt := 16) (by decide) ?_ ?_
    · refine aw_iconst hC dX2_hasSpot_16 (v := 0) (by decide) ?_
      exact aw_zret hC dX2_hasSpot_17 rfl (show _ = b2i false from rfl) rfl
    · refine aw_iconst hC dX2_hasSpot_12 (v := 1) (by decide) ?_
      refine aw_goto hC dX2_hasSpot_13 (tgt := 17) (by decide) ?_
      exact aw_zret hC dX2_hasSpot_17 rfl (show _ = b2i true from rfl) rfl
set_option maxHeartbeats 4000000 in
set_option maxRecDepth 100000 in
theorem A_X8_needSpot (l : Launch) (hl0 : l.stackTraces = false) (D : va_G) (loc : Rf → Nat) (cy : Nat → ClassId) (p1 : Int32) (h : HD) : AX l D loc cy yX8_needSpot (Cond.code yX8_needSpot cX8_needSpot 2 (none) :: LW) 6 100 1 6 [.ref (loc (6, 0, 0)), .int p1] h ((jX8_needSpot p1 h).map (fun r => (xi (fun _ => none) r, h))) := by
  refine ax_start (y := yX8_needSpot) (av := [.ref (loc (6, 0, 0)), .int p1]) (nL := 2) (h := h) (RF := fun (r : Option (Nat ⊕ Unit)) => r.map (fun r => (xi (fun _ => none) r, h))) (x := jX8_needSpot p1 h) hl0 (by decide +kernel) rfl ?_
  intro p e R s m below meth c A hxt hC
  unfold jX8_needSpot
  refine aw_aload_n hC dX8_needSpot_0 rfl ?_
  refine aw_gfR hC dX8_needSpot_1 fg_RX8_42 rfl rfl rm_6_0_0 ?_
  refine aw_iload_n hC dX8_needSpot_4 rfl ?_
  refine aw_cVb hC dX8_needSpot_5 cv_RX8_339 rfl rm_1_0_0 (A_X2_hasSpot _ (hC.2.2.2.2.2.2.2.2.2.2.2.2.1) _ _ _ 0 (by decide) p1 h) rfl rfl rfl rfl rfl ⟨rfl, rfl⟩ ?_
  refine aw_if_ne_b hC dX8_needSpot_8 (tgt := 22) (by decide) ?_ ?_
  · exact aw_vreX hC dX8_needSpot_22 rfl rfl rfl rfl
  · exact aw_throw2w (text := "there is no such spot") (sid := 342) hC hxt dX8_needSpot_11 dX8_needSpot_14 dX8_needSpot_15 dX8_needSpot_18 dX8_needSpot_21 tw5_192 tw1_24 (by decide +kernel) rfl rfl rfl rfl rfl rfl rfl
set_option maxHeartbeats 4000000 in
set_option maxRecDepth 100000 in
theorem A_X8_who (l : Launch) (hl0 : l.stackTraces = false) (D : va_G) (loc : Rf → Nat) (cy : Nat → ClassId) (p1 : Int32) (h : HD) : AX l D loc cy yX8_who (Cond.code yX8_who cX8_who 2 (some .int) :: LW) 7 168 1 6 [.ref (loc (6, 0, 0)), .int p1] h ((jX8_who p1 h).map (fun r => (xi (fun v => some (.int v)) r.1, r.2))) := by
  refine ax_start (y := yX8_who) (av := [.ref (loc (6, 0, 0)), .int p1]) (nL := 2) (h := h) (RF := fun (r : Option ((Nat ⊕ Int32) × HD)) => r.map (fun r => (xi (fun v => some (.int v)) r.1, r.2))) (x := jX8_who p1 h) hl0 (by decide +kernel) rfl ?_
  intro p e R s m below meth c A hxt hC
  unfold jX8_who
  refine aw_aload_n hC dX8_who_0 rfl ?_
  refine aw_iload_n hC dX8_who_1 rfl ?_
  refine aw_bind rfl (fun q1 hq1 => ?_)
  refine aw_cXv hC hxt dX8_who_2 cv_RX8_270 rfl rm_6_0_0 (ax_some (inj := (fun r => (xi (fun _ => none) r, h))) hq1 (A_X8_needSpot _ (hC.2.2.2.2.2.2.2.2.2.2.2.2.1) _ _ _ p1 h)) rfl rfl rfl rfl rfl ⟨rfl, rfl⟩ rfl rfl (fun _ => rfl) (fun v2 => ?_)
  refine aw_aload_n hC dX8_who_5 rfl ?_
  refine aw_bind rfl (fun q3 hq3 => ?_)
  refine aw_cVr hC dX8_who_6 cv_RX8_245 rfl rm_6_0_0 (am_some (inj := (fun r => (.inr (some (.ref (loc (2, 0, 0)))), r))) hq3 (A_X8_parked _ (hC.2.2.2.2.2.2.2.2.2.2.2.2.1) _ _ _ h)) rfl rfl rfl rfl rfl ⟨rfl, rfl⟩ ?_
  refine aw_iload_n hC dX8_who_9 rfl ?_
  refine aw_bind rfl (fun q4 hq4 => ?_)
  refine aw_cVi hC dX8_who_10 cv_RX8_273 rfl rm_2_0_0 (am_some (inj := (fun r => (.inr (some (.int r)), q3))) hq4 (A_X4_takerOf _ (hC.2.2.2.2.2.2.2.2.2.2.2.2.1) _ _ _ 0 (by decide) p1 q3)) rfl rfl rfl rfl rfl ⟨rfl, rfl⟩ ?_
  exact aw_ireX hC dX8_who_13 rfl rfl rfl rfl
set_option maxHeartbeats 4000000 in
set_option maxRecDepth 100000 in
theorem A_X8_wanted (l : Launch) (hl0 : l.stackTraces = false) (D : va_G) (loc : Rf → Nat) (cy : Nat → ClassId) (p1 : Int32) (h : HD) : AX l D loc cy yX8_wanted (Cond.code yX8_wanted cX8_wanted 2 (some .int) :: LW) 7 121 1 6 [.ref (loc (6, 0, 0)), .int p1] h ((jX8_wanted p1 h).map (fun r => (xi (fun v => some (.int v)) r, h))) := by
  refine ax_start (y := yX8_wanted) (av := [.ref (loc (6, 0, 0)), .int p1]) (nL := 2) (h := h) (RF := fun (r : Option (Nat ⊕ Int32)) => r.map (fun r => (xi (fun v => some (.int v)) r, h))) (x := jX8_wanted p1 h) hl0 (by decide +kernel) rfl ?_
  intro p e R s m below meth c A hxt hC
  unfold jX8_wanted
  refine aw_aload_n hC dX8_wanted_0 rfl ?_
  refine aw_iload_n hC dX8_wanted_1 rfl ?_
  refine aw_bind rfl (fun q1 hq1 => ?_)
  refine aw_cXv hC hxt dX8_wanted_2 cv_RX8_270 rfl rm_6_0_0 (ax_some (inj := (fun r => (xi (fun _ => none) r, h))) hq1 (A_X8_needSpot _ (hC.2.2.2.2.2.2.2.2.2.2.2.2.1) _ _ _ p1 h)) rfl rfl rfl rfl rfl ⟨rfl, rfl⟩ rfl rfl (fun _ => rfl) (fun v2 => ?_)
  refine aw_aload_n hC dX8_wanted_5 rfl ?_
  refine aw_gfR hC dX8_wanted_6 fg_RX8_42 rfl rfl rm_6_0_0 ?_
  refine aw_iload_n hC dX8_wanted_9 rfl ?_
  refine aw_bind rfl (fun q3 hq3 => ?_)
  refine aw_cVi hC dX8_wanted_10 cv_RX8_276 rfl rm_1_0_0 (am_some (inj := (fun r => (.inr (some (.int r)), h))) hq3 (A_X2_wishesFor _ (hC.2.2.2.2.2.2.2.2.2.2.2.2.1) _ _ _ 0 (by decide) p1 h)) rfl rfl rfl rfl rfl ⟨rfl, rfl⟩ ?_
  exact aw_ireX hC dX8_wanted_13 rfl rfl rfl rfl
set_option maxHeartbeats 4000000 in
set_option maxRecDepth 100000 in
theorem L_X2_rankOf_22 (o : Nat) (ho : o < 10) (p1 : Int32) (x2 : Int32) (h : HD) (hC : Cx p l e R s m args meth c D loc cy A cX2_rankOf 5 (some .int) RX2 1 37 0 0)  : ∀ (n22 : Nat) (x3 : Int32) (x4 : Int32), AW p l e R s m args below meth c D loc cy A 5 (QM below D loc cy A args s) (fun (r : Option Int32) => r.map (fun r => (.inr (some (.int r)), h))) (0, 0) 22 [(0, .ref (loc (1, o, 0))), (1, .int p1), (2, .int x2), (3, .int x3), (4, .int x4)] [] h (jX2_rankOf_L22 o p1 x2 h n22 x3 x4) := by
  intro n22
  induction n22 with
  | zero => intro x3 x4; exact aw_none rfl
  | succ n22 ih22 =>
    intro x3 x4
    rw [jX2_rankOf_L22]
    refine aw_iload hC dX2_rankOf_22 rfl ?_
    refine aw_aload_n hC dX2_rankOf_24 rfl ?_
    refine aw_gfI hC dX2_rankOf_25 fg_RX2_19 rfl (rv_1_0 ho) ?_
    refine aw_icmp_ge hC dX2_rankOf_28 (tgt := 75) (by decide) ?_ ?_
    · refine aw_iload_n hC dX2_rankOf_75 rfl ?_
      exact aw_iret hC dX2_rankOf_76 rfl rfl
    · refine aw_iload hC dX2_rankOf_31 rfl ?_
      refine aw_bipush hC dX2_rankOf_33 (v := 11) (by decide) ?_
      refine aw_icmp_ge hC dX2_rankOf_35 (tgt := 75) (by decide) ?_ ?_
      · refine aw_iload_n hC dX2_rankOf_75 rfl ?_
        exact aw_iret hC dX2_rankOf_76 rfl rfl
      · refine aw_aload_n hC dX2_rankOf_38 rfl ?_
        refine aw_gfR hC dX2_rankOf_39 fg_RX2_15 rfl rfl (rv_1_0 ho) ?_
        refine aw_iload hC dX2_rankOf_42 rfl ?_
        refine aw_guard rfl (fun g2 => ?_)
        refine aw_iald hC dX2_rankOf_44 (rv_1_2 ho) rfl rfl g2 rfl ?_
        refine aw_iload_n hC dX2_rankOf_45 rfl ?_
        refine aw_icmp_lt hC dX2_rankOf_46 (tgt := 66) (by decide) ?_ ?_
        · refine aw_iinc hC dX2_rankOf_66 rfl (v := x3 + 1) (by first | rfl | decide) (by decide) ?_
          refine aw_iinc hC dX2_rankOf_69 rfl (v := x4 + 1) (by first | rfl | decide) (by decide) ?_
          refine aw_goto hC dX2_rankOf_72 (tgt := 22) (by decide) ?_
          refine aw_sub [0, 1, 2, 3, 4] ?_
          exact ih22 (x3 + 1) (x4 + 1)
        · refine aw_aload_n hC dX2_rankOf_49 rfl ?_
          refine aw_gfR hC dX2_rankOf_50 fg_RX2_15 rfl rfl (rv_1_0 ho) ?_
          refine aw_iload hC dX2_rankOf_53 rfl ?_
          refine aw_guard rfl (fun g3 => ?_)
          refine aw_iald hC dX2_rankOf_55 (rv_1_2 ho) rfl rfl g3 rfl ?_
          refine aw_iload_n hC dX2_rankOf_56 rfl ?_
          refine aw_icmp_ne hC dX2_rankOf_57 (tgt := 69) (by decide) ?_ ?_
          · refine aw_iinc hC dX2_rankOf_69 rfl (v := x4 + 1) (by first | rfl | decide) (by decide) ?_
            refine aw_goto hC dX2_rankOf_72 (tgt := 22) (by decide) ?_
            refine aw_sub [0, 1, 2, 3, 4] ?_
            exact ih22 x3 (x4 + 1)
          · refine aw_iload hC dX2_rankOf_60 rfl ?_
            refine aw_iload_n hC dX2_rankOf_62 rfl ?_
            refine aw_icmp_ge hC dX2_rankOf_63 (tgt := 69) (by decide) ?_ ?_
            · refine aw_iinc hC dX2_rankOf_69 rfl (v := x4 + 1) (by first | rfl | decide) (by decide) ?_
              refine aw_goto hC dX2_rankOf_72 (tgt := 22) (by decide) ?_
              refine aw_sub [0, 1, 2, 3, 4] ?_
              exact ih22 x3 (x4 + 1)
            · refine aw_iinc hC dX2_rankOf_66 rfl (v := x3 + 1) (by first | rfl | decide) (by decide) ?_
              refine aw_iinc hC dX2_rankOf_69 rfl (v := x4 + 1) (by first | rfl | decide) (by decide) ?_
              refine aw_goto hC dX2_rankOf_72 (tgt := 22) (by decide) ?_
              refine aw_sub [0, 1, 2, 3, 4] ?_
              exact ih22 (x3 + 1) (x4 + 1)
set_option maxHeartbeats 4000000 in
set_option maxRecDepth 100000 in
theorem A_X2_rankOf (l : Launch) (hl0 : l.stackTraces = false) (D : va_G) (loc : Rf → Nat) (cy : Nat → ClassId) (o : Nat) (ho : o < 10) (p1 : Int32) (h : HD) : AM l D loc cy yX2_rankOf cX2_rankOf 5 (some .int) 1 37 [.ref (loc (1, o, 0)), .int p1] h ((jX2_rankOf o p1 h).map (fun r => (.inr (some (.int r)), h))) := by
  refine am_start (y := yX2_rankOf) (av := [.ref (loc (1, o, 0)), .int p1]) (nL := 5) (h := h) (RF := fun (r : Option Int32) => r.map (fun r => (.inr (some (.int r)), h))) (x := jX2_rankOf o p1 h) hl0 (by decide +kernel) rfl ?_
  intro p e R s m below meth c A hC
  unfold jX2_rankOf
  refine aw_aload_n hC dX2_rankOf_0 rfl ?_
  refine aw_iload_n hC dX2_rankOf_1 rfl ?_
  refine aw_cVb hC dX2_rankOf_2 cv_RX2_26 rfl (rv_1_0 ho) (A_X2_hasCar _ (hC.2.2.2.2.2.2.2.2.2.2.2.2.1) _ _ _ o ho p1 h) rfl rfl rfl rfl rfl ⟨rfl, rfl⟩ ?_
  refine aw_if_ne_b hC dX2_rankOf_5 (tgt := 10) (by decide) ?_ ?_
  · refine aw_aload_n hC dX2_rankOf_10 rfl ?_
    refine aw_gfR hC dX2_rankOf_11 fg_RX2_15 rfl rfl (rv_1_0 ho) ?_
    refine aw_iload_n hC dX2_rankOf_14 rfl ?_
    refine aw_guard rfl (fun g1 => ?_)
    refine aw_iald hC dX2_rankOf_15 (rv_1_2 ho) rfl rfl g1 rfl ?_
    refine aw_istore_n hC dX2_rankOf_16 (by decide) ?_
    refine aw_iconst hC dX2_rankOf_17 (v := 0) (by decide) ?_
    refine aw_istore_n hC dX2_rankOf_18 (by decide) ?_
    refine aw_iconst hC dX2_rankOf_19 (v := 0) (by decide) ?_
    refine aw_istore hC dX2_rankOf_20 (by decide) ?_
    refine aw_sub [0, 1, 2, 3, 4] ?_
    exact L_X2_rankOf_22 o ho p1 (gI h (1, o, 2) p1.toNatClampNeg) h  hC FU (0 : Int32) (0 : Int32)
  · refine aw_iconst hC dX2_rankOf_8 (v := -1) (by decide) ?_
    exact aw_iret hC dX2_rankOf_9 rfl rfl
set_option maxHeartbeats 4000000 in
set_option maxRecDepth 100000 in
theorem L_X8_ranked_2 (p1 : Int32) (h : HD) (hC : Cx p l e R s m args meth c D loc cy A cX8_ranked 3 (some .int) RX8 2 61 0 0)  : ∀ (n2 : Nat) (x2 : Int32), AW p l e R s m args below meth c D loc cy A 3 (QM below D loc cy A args s) (fun (r : Option Int32) => r.map (fun r => (.inr (some (.int r)), h))) (0, 0) 2 [(0, .ref (loc (6, 0, 0))), (1, .int p1), (2, .int x2)] [] h (jX8_ranked_L2 p1 h n2 x2) := by
  intro n2
  induction n2 with
  | zero => intro x2; exact aw_none rfl
  | succ n2 ih2 =>
    intro x2
    rw [jX8_ranked_L2]
    refine aw_iload_n hC dX8_ranked_2 rfl ?_
    refine aw_aload_n hC dX8_ranked_3 rfl ?_
    refine aw_gfR hC dX8_ranked_4 fg_RX8_42 rfl rfl rm_6_0_0 ?_
    refine aw_cVi hC dX8_ranked_7 cv_RX8_138 rfl rm_1_0_0 (A_X2_count _ (hC.2.2.2.2.2.2.2.2.2.2.2.2.1) _ _ _ 0 (by decide) h) rfl rfl rfl rfl rfl ⟨rfl, rfl⟩ ?_
    refine aw_icmp_ge hC dX8_ranked_10 (tgt := 33) (by decide) ?_ ?_
    · refine aw_iconst hC dX8_ranked_33 (v := -1) (by decide) ?_
      exact aw_iret hC dX8_ranked_34 rfl rfl
    · refine aw_aload_n hC dX8_ranked_13 rfl ?_
      refine aw_gfR hC dX8_ranked_14 fg_RX8_42 rfl rfl rm_6_0_0 ?_
      refine aw_iload_n hC dX8_ranked_17 rfl ?_
      refine aw_bind rfl (fun q1 hq1 => ?_)
      refine aw_cVi hC dX8_ranked_18 cv_RX8_279 rfl rm_1_0_0 (am_some (inj := (fun r => (.inr (some (.int r)), h))) hq1 (A_X2_rankOf _ (hC.2.2.2.2.2.2.2.2.2.2.2.2.1) _ _ _ 0 (by decide) x2 h)) rfl rfl rfl rfl rfl ⟨rfl, rfl⟩ ?_
      refine aw_iload_n hC dX8_ranked_21 rfl ?_
      refine aw_icmp_ne hC dX8_ranked_22 (tgt := 27) (by decide) ?_ ?_
      · refine aw_iinc hC dX8_ranked_27 rfl (v := x2 + 1) (by first | rfl | decide) (by decide) ?_
        refine aw_goto hC dX8_ranked_30 (tgt := 2) (by decide) ?_
        refine aw_sub [0, 1, 2] ?_
        exact ih2 (x2 + 1)
      · refine aw_iload_n hC dX8_ranked_25 rfl ?_
        exact aw_iret hC dX8_ranked_26 rfl rfl
set_option maxHeartbeats 4000000 in
set_option maxRecDepth 100000 in
theorem A_X8_ranked (l : Launch) (hl0 : l.stackTraces = false) (D : va_G) (loc : Rf → Nat) (cy : Nat → ClassId) (p1 : Int32) (h : HD) : AM l D loc cy yX8_ranked cX8_ranked 3 (some .int) 2 61 [.ref (loc (6, 0, 0)), .int p1] h ((jX8_ranked p1 h).map (fun r => (.inr (some (.int r)), h))) := by
  refine am_start (y := yX8_ranked) (av := [.ref (loc (6, 0, 0)), .int p1]) (nL := 3) (h := h) (RF := fun (r : Option Int32) => r.map (fun r => (.inr (some (.int r)), h))) (x := jX8_ranked p1 h) hl0 (by decide +kernel) rfl ?_
  intro p e R s m below meth c A hC
  unfold jX8_ranked
  refine aw_iconst hC dX8_ranked_0 (v := 0) (by decide) ?_
  refine aw_istore_n hC dX8_ranked_1 (by decide) ?_
  refine aw_sub [0, 1, 2] ?_
  exact L_X8_ranked_2 p1 h  hC FU (0 : Int32)
set_option maxHeartbeats 4000000 in
set_option maxRecDepth 100000 in
theorem L_X4_comeInLine_15 (o : Nat) (ho : o < 2) (r1 : Nat) (hr1 : r1 < 2) (k38 : HD → Option HD) (hC : Cx p l e R s m args meth c D loc cy A cX4_comeInLine 3 (none) RX4 5 125 0 0) (hk38 : ∀  (h2 : HD), AW p l e R s m args below meth c D loc cy A 3 (QM below D loc cy A args s) (fun (r : Option HD) => r.map (fun r => (.inr (none), r))) (0, 0) 38 [(0, .ref (loc (2, o, 0)))] [] h2 (k38  h2)) : ∀ (n15 : Nat) (x2 : Int32) (h : HD), AW p l e R s m args below meth c D loc cy A 3 (QM below D loc cy A args s) (fun (r : Option HD) => r.map (fun r => (.inr (none), r))) (0, 0) 15 [(0, .ref (loc (2, o, 0))), (1, .ref (loc (2, r1, 0))), (2, .int x2)] [] h (jX4_comeInLine_L15 o r1 k38 n15 x2 h) := by
  intro n15
  induction n15 with
  | zero => intro x2 h; exact aw_none rfl
  | succ n15 ih15 =>
    intro x2 h
    rw [jX4_comeInLine_L15]
    refine aw_iload_n hC dX4_comeInLine_15 rfl ?_
    refine aw_aload_n hC dX4_comeInLine_16 rfl ?_
    refine aw_gfI hC dX4_comeInLine_17 fg_RX4_35 rfl (rv_2_0 hr1) ?_
    refine aw_icmp_ge hC dX4_comeInLine_20 (tgt := 38) (by decide) ?_ ?_
    · refine aw_sub [0] ?_
      exact hk38 h
    · refine aw_aload_n hC dX4_comeInLine_23 rfl ?_
      refine aw_aload_n hC dX4_comeInLine_24 rfl ?_
      refine aw_iload_n hC dX4_comeInLine_25 rfl ?_
      refine aw_bind rfl (fun q2 hq2 => ?_)
      refine aw_cVi hC dX4_comeInLine_26 cv_RX4_64 rfl (rv_2_0 hr1) (am_some (inj := (fun r => (.inr (some (.int r)), h))) hq2 (A_X4_turnedPreferenceOf _ (hC.2.2.2.2.2.2.2.2.2.2.2.2.1) _ _ _ r1 hr1 x2 h)) rfl rfl rfl rfl rfl ⟨rfl, rfl⟩ ?_
      refine aw_bind rfl (fun q3 hq3 => ?_)
      refine aw_cVv hC dX4_comeInLine_29 cv_RX4_57 rfl (rv_2_0 ho) (am_some (inj := (fun r => (.inr (none), r))) hq3 (A_X4_bring _ (hC.2.2.2.2.2.2.2.2.2.2.2.2.1) _ _ _ o ho q2 h)) rfl rfl rfl rfl rfl ⟨rfl, rfl⟩ ?_
      refine aw_iinc hC dX4_comeInLine_32 rfl (v := x2 + 1) (by first | rfl | decide) (by decide) ?_
      refine aw_goto hC dX4_comeInLine_35 (tgt := 15) (by decide) ?_
      refine aw_sub [0, 1, 2] ?_
      exact ih15 (x2 + 1) q3
set_option maxHeartbeats 4000000 in
set_option maxRecDepth 100000 in
theorem A_X4_comeInLine (l : Launch) (hl0 : l.stackTraces = false) (D : va_G) (loc : Rf → Nat) (cy : Nat → ClassId) (o : Nat) (ho : o < 2) (r1 : Nat) (hr1 : r1 < 2) (h : HD) : AM l D loc cy yX4_comeInLine cX4_comeInLine 3 (none) 5 125 [.ref (loc (2, o, 0)), .ref (loc (2, r1, 0))] h ((jX4_comeInLine o r1 h).map (fun r => (.inr (none), r))) := by
  refine am_start (y := yX4_comeInLine) (av := [.ref (loc (2, o, 0)), .ref (loc (2, r1, 0))]) (nL := 3) (h := h) (RF := fun (r : Option HD) => r.map (fun r => (.inr (none), r))) (x := jX4_comeInLine o r1 h) hl0 (by decide +kernel) rfl ?_
  intro p e R s m below meth c A hC
  unfold jX4_comeInLine
  refine aw_aload_n hC dX4_comeInLine_0 rfl ?_
  refine aw_aload_n hC dX4_comeInLine_1 rfl ?_
  refine aw_gfI hC dX4_comeInLine_2 fg_RX4_35 rfl (rv_2_0 hr1) ?_
  refine aw_aload_n hC dX4_comeInLine_5 rfl ?_
  refine aw_gfI hC dX4_comeInLine_6 fg_RX4_28 rfl (rv_2_0 hr1) ?_
  refine aw_iconst hC dX4_comeInLine_9 (v := 0) (by decide) ?_
  refine aw_bind rfl (fun q1 hq1 => ?_)
  refine aw_cVv hC dX4_comeInLine_10 cv_RX4_49 rfl (rv_2_0 ho) (am_some (inj := (fun r => (.inr (none), r))) hq1 (A_X4_open _ (hC.2.2.2.2.2.2.2.2.2.2.2.2.1) _ _ _ o ho (gI h (2, r1, 0) 7) (gI h (2, r1, 0) 5) false h)) rfl rfl rfl rfl rfl ⟨rfl, rfl⟩ ?_
  refine aw_iconst hC dX4_comeInLine_13 (v := 0) (by decide) ?_
  refine aw_istore_n hC dX4_comeInLine_14 (by decide) ?_
  refine aw_sub [0, 1, 2] ?_
  refine L_X4_comeInLine_15 o ho r1 hr1 _ hC ?_ FU (0 : Int32) q1
  · intro h4
    refine aw_aload_n hC dX4_comeInLine_38 rfl ?_
    refine aw_bind rfl (fun q5 hq5 => ?_)
    refine aw_cVv hC dX4_comeInLine_39 cv_RX4_61 rfl (rv_2_0 ho) (am_some (inj := (fun r => (.inr (none), r))) hq5 (A_X4_findFree _ (hC.2.2.2.2.2.2.2.2.2.2.2.2.1) _ _ _ o ho h4)) rfl rfl rfl rfl rfl ⟨rfl, rfl⟩ ?_
    exact aw_vret hC dX4_comeInLine_42 rfl rfl
set_option maxHeartbeats 4000000 in
set_option maxRecDepth 100000 in
theorem A_X8_spotInLine (l : Launch) (hl0 : l.stackTraces = false) (D : va_G) (loc : Rf → Nat) (cy : Nat → ClassId) (p1 : Int32) (h : HD) : AM l D loc cy yX8_spotInLine cX8_spotInLine 3 (some .int) 2 59 [.ref (loc (6, 0, 0)), .int p1] h ((jX8_spotInLine p1 h).map (fun r => (.inr (some (.int r)), h))) := by
  refine am_start (y := yX8_spotInLine) (av := [.ref (loc (6, 0, 0)), .int p1]) (nL := 3) (h := h) (RF := fun (r : Option Int32) => r.map (fun r => (.inr (some (.int r)), h))) (x := jX8_spotInLine p1 h) hl0 (by decide +kernel) rfl ?_
  intro p e R s m below meth c A hC
  unfold jX8_spotInLine
  refine aw_aload_n hC dX8_spotInLine_0 rfl ?_
  refine aw_gfR hC dX8_spotInLine_1 fg_RX8_66 rfl rfl rm_6_0_0 ?_
  refine aw_iload_n hC dX8_spotInLine_4 rfl ?_
  refine aw_bind rfl (fun q1 hq1 => ?_)
  refine aw_cVi hC dX8_spotInLine_5 cv_RX8_253 rfl rm_2_1_0 (am_some (inj := (fun r => (.inr (some (.int r)), h))) hq1 (A_X4_spotOf _ (hC.2.2.2.2.2.2.2.2.2.2.2.2.1) _ _ _ 1 (by decide) p1 h)) rfl rfl rfl rfl rfl ⟨rfl, rfl⟩ ?_
  refine aw_istore_n hC dX8_spotInLine_8 (by decide) ?_
  refine aw_iload_n hC dX8_spotInLine_9 rfl ?_
  refine aw_iconst hC dX8_spotInLine_10 (v := -1) (by decide) ?_
  refine aw_icmp_ne hC dX8_spotInLine_11 (tgt := 18) (by decide) ?_ ?_
  · refine aw_iload_n hC dX8_spotInLine_18 rfl ?_
    refine aw_aload_n hC dX8_spotInLine_19 rfl ?_
    refine aw_gfR hC dX8_spotInLine_20 fg_RX8_62 rfl rfl rm_6_0_0 ?_
    refine aw_cVi hC dX8_spotInLine_23 cv_RX8_295 rfl rm_2_0_0 (A_X4_turnNumber _ (hC.2.2.2.2.2.2.2.2.2.2.2.2.1) _ _ _ 0 (by decide) h) rfl rfl rfl rfl rfl ⟨rfl, rfl⟩ ?_
    refine aw_isub hC dX8_spotInLine_26 ?_
    refine aw_aload_n hC dX8_spotInLine_27 rfl ?_
    refine aw_gfR hC dX8_spotInLine_28 fg_RX8_42 rfl rfl rm_6_0_0 ?_
    refine aw_cVi hC dX8_spotInLine_31 cv_RX8_305 rfl rm_1_0_0 (A_X2_spots _ (hC.2.2.2.2.2.2.2.2.2.2.2.2.1) _ _ _ 0 (by decide) h) rfl rfl rfl rfl rfl ⟨rfl, rfl⟩ ?_
    refine aw_bind rfl (fun q2 hq2 => ?_)
    refine aw_cSi hC dX8_spotInLine_34 cv_RX8_308 (am_some (inj := (fun r => (.inr (some (.int r)), h))) hq2 (A_X8_wrapped _ (hC.2.2.2.2.2.2.2.2.2.2.2.2.1) _ _ _ (q1 - (jX4_turnNumber 0 h)) (jX2_spots 0 h) h)) rfl rfl rfl rfl rfl ⟨rfl, rfl⟩ ?_
    exact aw_iret hC dX8_spotInLine_37 rfl rfl
  · refine aw_iconst hC dX8_spotInLine_14 (v := -1) (by decide) ?_
    refine aw_goto hC dX8_spotInLine_15 (tgt := 37) (by decide) ?_
    exact aw_iret hC dX8_spotInLine_37 rfl rfl
set_option maxHeartbeats 4000000 in
set_option maxRecDepth 100000 in
theorem A_X8_spotByLine (l : Launch) (hl0 : l.stackTraces = false) (D : va_G) (loc : Rf → Nat) (cy : Nat → ClassId) (p1 : Int32) (h : HD) : AX l D loc cy yX8_spotByLine (Cond.code yX8_spotByLine cX8_spotByLine 2 (some .int) :: LW) 7 168 1 6 [.ref (loc (6, 0, 0)), .int p1] h ((jX8_spotByLine p1 h).map (fun r => (xi (fun v => some (.int v)) r.1, r.2))) := by
  refine ax_start (y := yX8_spotByLine) (av := [.ref (loc (6, 0, 0)), .int p1]) (nL := 2) (h := h) (RF := fun (r : Option ((Nat ⊕ Int32) × HD)) => r.map (fun r => (xi (fun v => some (.int v)) r.1, r.2))) (x := jX8_spotByLine p1 h) hl0 (by decide +kernel) rfl ?_
  intro p e R s m below meth c A hxt hC
  unfold jX8_spotByLine
  refine aw_aload_n hC dX8_spotByLine_0 rfl ?_
  refine aw_iload_n hC dX8_spotByLine_1 rfl ?_
  refine aw_bind rfl (fun q1 hq1 => ?_)
  refine aw_cXv hC hxt dX8_spotByLine_2 cv_RX8_234 rfl rm_6_0_0 (ax_some (inj := (fun r => (xi (fun _ => none) r, h))) hq1 (A_X8_needCar _ (hC.2.2.2.2.2.2.2.2.2.2.2.2.1) _ _ _ p1 h)) rfl rfl rfl rfl rfl ⟨rfl, rfl⟩ rfl rfl (fun _ => rfl) (fun v2 => ?_)
  refine aw_aload_n hC dX8_spotByLine_5 rfl ?_
  refine aw_gfR hC dX8_spotByLine_6 fg_RX8_66 rfl rfl rm_6_0_0 ?_
  refine aw_aload_n hC dX8_spotByLine_9 rfl ?_
  refine aw_bind rfl (fun q3 hq3 => ?_)
  refine aw_cVr hC dX8_spotByLine_10 cv_RX8_245 rfl rm_6_0_0 (am_some (inj := (fun r => (.inr (some (.ref (loc (2, 0, 0)))), r))) hq3 (A_X8_parked _ (hC.2.2.2.2.2.2.2.2.2.2.2.2.1) _ _ _ h)) rfl rfl rfl rfl rfl ⟨rfl, rfl⟩ ?_
  refine aw_bind rfl (fun q4 hq4 => ?_)
  refine aw_cVv hC dX8_spotByLine_13 cv_RX8_282 rfl rm_2_1_0 (am_some (inj := (fun r => (.inr (none), r))) hq4 (A_X4_comeInLine _ (hC.2.2.2.2.2.2.2.2.2.2.2.2.1) _ _ _ 1 (by decide) 0 (by decide) q3)) rfl rfl rfl rfl rfl ⟨rfl, rfl⟩ ?_
  refine aw_aload_n hC dX8_spotByLine_16 rfl ?_
  refine aw_iload_n hC dX8_spotByLine_17 rfl ?_
  refine aw_bind rfl (fun q5 hq5 => ?_)
  refine aw_cVi hC dX8_spotByLine_18 cv_RX8_286 rfl rm_6_0_0 (am_some (inj := (fun r => (.inr (some (.int r)), q4))) hq5 (A_X8_spotInLine _ (hC.2.2.2.2.2.2.2.2.2.2.2.2.1) _ _ _ p1 q4)) rfl rfl rfl rfl rfl ⟨rfl, rfl⟩ ?_
  exact aw_ireX hC dX8_spotByLine_21 rfl rfl rfl rfl
set_option maxHeartbeats 4000000 in
set_option maxRecDepth 100000 in
theorem L_X4_areaByPreferences_16 (o : Nat) (ho : o < 2) (h : HD) (hC : Cx p l e R s m args meth c D loc cy A cX4_areaByPreferences 3 (some .int) RX4 3 80 0 0)  : ∀ (n16 : Nat) (x1 : Int32) (x2 : Int32), AW p l e R s m args below meth c D loc cy A 3 (QM below D loc cy A args s) (fun (r : Option Int32) => r.map (fun r => (.inr (some (.int r)), h))) (0, 0) 16 [(0, .ref (loc (2, o, 0))), (1, .int x1), (2, .int x2)] [] h (jX4_areaByPreferences_L16 o h n16 x1 x2) := by
  intro n16
  induction n16 with
  | zero => intro x1 x2; exact aw_none rfl
  | succ n16 ih16 =>
    intro x1 x2
    rw [jX4_areaByPreferences_L16]
    refine aw_iload_n hC dX4_areaByPreferences_16 rfl ?_
    refine aw_aload_n hC dX4_areaByPreferences_17 rfl ?_
    refine aw_gfI hC dX4_areaByPreferences_18 fg_RX4_35 rfl (rv_2_0 ho) ?_
    refine aw_icmp_ge hC dX4_areaByPreferences_21 (tgt := 38) (by decide) ?_ ?_
    · refine aw_iload_n hC dX4_areaByPreferences_38 rfl ?_
      exact aw_iret hC dX4_areaByPreferences_39 rfl rfl
    · refine aw_iload_n hC dX4_areaByPreferences_24 rfl ?_
      refine aw_aload_n hC dX4_areaByPreferences_25 rfl ?_
      refine aw_iload_n hC dX4_areaByPreferences_26 rfl ?_
      refine aw_bind rfl (fun q1 hq1 => ?_)
      refine aw_cVi hC dX4_areaByPreferences_27 cv_RX4_64 rfl (rv_2_0 ho) (am_some (inj := (fun r => (.inr (some (.int r)), h))) hq1 (A_X4_turnedPreferenceOf _ (hC.2.2.2.2.2.2.2.2.2.2.2.2.1) _ _ _ o ho x2 h)) rfl rfl rfl rfl rfl ⟨rfl, rfl⟩ ?_
      refine aw_isub hC dX4_areaByPreferences_30 ?_
      refine aw_istore_n hC dX4_areaByPreferences_31 (by decide) ?_
      refine aw_iinc hC dX4_areaByPreferences_32 rfl (v := x2 + 1) (by first | rfl | decide) (by decide) ?_
      refine aw_goto hC dX4_areaByPreferences_35 (tgt := 16) (by decide) ?_
      refine aw_sub [0, 1, 2] ?_
      exact ih16 (x1 - q1) (x2 + 1)
set_option maxHeartbeats 4000000 in
set_option maxRecDepth 100000 in
theorem A_X4_areaByPreferences (l : Launch) (hl0 : l.stackTraces = false) (D : va_G) (loc : Rf → Nat) (cy : Nat → ClassId) (o : Nat) (ho : o < 2) (h : HD) : AM l D loc cy yX4_areaByPreferences cX4_areaByPreferences 3 (some .int) 3 80 [.ref (loc (2, o, 0))] h ((jX4_areaByPreferences o h).map (fun r => (.inr (some (.int r)), h))) := by
  refine am_start (y := yX4_areaByPreferences) (av := [.ref (loc (2, o, 0))]) (nL := 3) (h := h) (RF := fun (r : Option Int32) => r.map (fun r => (.inr (some (.int r)), h))) (x := jX4_areaByPreferences o h) hl0 (by decide +kernel) rfl ?_
  intro p e R s m below meth c A hC
  unfold jX4_areaByPreferences
  refine aw_aload_n hC dX4_areaByPreferences_0 rfl ?_
  refine aw_gfI hC dX4_areaByPreferences_1 fg_RX4_35 rfl (rv_2_0 ho) ?_
  refine aw_aload_n hC dX4_areaByPreferences_4 rfl ?_
  refine aw_gfI hC dX4_areaByPreferences_5 fg_RX4_35 rfl (rv_2_0 ho) ?_
  refine aw_iconst hC dX4_areaByPreferences_8 (v := 1) (by decide) ?_
  refine aw_isub hC dX4_areaByPreferences_9 ?_
  refine aw_imul hC dX4_areaByPreferences_10 ?_
  refine aw_iconst hC dX4_areaByPreferences_11 (v := 2) (by decide) ?_
  refine aw_idiv hC dX4_areaByPreferences_12 (by decide) ?_
  refine aw_istore_n hC dX4_areaByPreferences_13 (by decide) ?_
  refine aw_iconst hC dX4_areaByPreferences_14 (v := 0) (by decide) ?_
  refine aw_istore_n hC dX4_areaByPreferences_15 (by decide) ?_
  refine aw_sub [0, 1, 2] ?_
  exact L_X4_areaByPreferences_16 o ho h  hC FU (((gI h (2, o, 0) 7) * ((gI h (2, o, 0) 7) - (1 : Int32))) / (2 : Int32)) (0 : Int32)
set_option maxHeartbeats 4000000 in
set_option maxRecDepth 100000 in
theorem L_X8_gap_36 (h : HD) (hC : Cx p l e R s m args meth c D loc cy A cX8_gap 3 (some .int) RX8 7 168 0 0)  : ∀ (n36 : Nat) (x1 : Int32) (x2 : Int32), AW p l e R s m args below meth c D loc cy A 3 (QM below D loc cy A args s) (fun (r : Option (Int32 × HD)) => r.map (fun r => (.inr (some (.int r.1)), r.2))) (0, 0) 36 [(0, .ref (loc (6, 0, 0))), (1, .int x1), (2, .int x2)] [] h (jX8_gap_L36 h n36 x1 x2) := by
  intro n36
  induction n36 with
  | zero => intro x1 x2; exact aw_none rfl
  | succ n36 ih36 =>
    intro x1 x2
    rw [jX8_gap_L36]
    refine aw_iload_n hC dX8_gap_36 rfl ?_
    refine aw_aload_n hC dX8_gap_37 rfl ?_
    refine aw_gfR hC dX8_gap_38 fg_RX8_42 rfl rfl rm_6_0_0 ?_
    refine aw_cVi hC dX8_gap_41 cv_RX8_138 rfl rm_1_0_0 (A_X2_count _ (hC.2.2.2.2.2.2.2.2.2.2.2.2.1) _ _ _ 0 (by decide) h) rfl rfl rfl rfl rfl ⟨rfl, rfl⟩ ?_
    refine aw_icmp_ge hC dX8_gap_44 (tgt := 72) (by decide) ?_ ?_
    · refine aw_iload_n hC dX8_gap_72 rfl ?_
      exact aw_iret hC dX8_gap_73 rfl rfl
    · refine aw_aload_n hC dX8_gap_47 rfl ?_
      refine aw_iload_n hC dX8_gap_48 rfl ?_
      refine aw_bind rfl (fun q5 hq5 => ?_)
      refine aw_cVi hC dX8_gap_49 cv_RX8_286 rfl rm_6_0_0 (am_some (inj := (fun r => (.inr (some (.int r)), h))) hq5 (A_X8_spotInLine _ (hC.2.2.2.2.2.2.2.2.2.2.2.2.1) _ _ _ x2 h)) rfl rfl rfl rfl rfl ⟨rfl, rfl⟩ ?_
      refine aw_aload_n hC dX8_gap_52 rfl ?_
      refine aw_gfR hC dX8_gap_53 fg_RX8_62 rfl rfl rm_6_0_0 ?_
      refine aw_iload_n hC dX8_gap_56 rfl ?_
      refine aw_bind rfl (fun q6 hq6 => ?_)
      refine aw_cVi hC dX8_gap_57 cv_RX8_253 rfl rm_2_0_0 (am_some (inj := (fun r => (.inr (some (.int r)), h))) hq6 (A_X4_spotOf _ (hC.2.2.2.2.2.2.2.2.2.2.2.2.1) _ _ _ 0 (by decide) x2 h)) rfl rfl rfl rfl rfl ⟨rfl, rfl⟩ ?_
      refine aw_icmp_eq hC dX8_gap_60 (tgt := 66) (by decide) ?_ ?_
      · refine aw_iinc hC dX8_gap_66 rfl (v := x2 + 1) (by first | rfl | decide) (by decide) ?_
        refine aw_goto hC dX8_gap_69 (tgt := 36) (by decide) ?_
        refine aw_sub [0, 1, 2] ?_
        exact ih36 x1 (x2 + 1)
      · refine aw_iinc hC dX8_gap_63 rfl (v := x1 + 1) (by first | rfl | decide) (by decide) ?_
        refine aw_iinc hC dX8_gap_66 rfl (v := x2 + 1) (by first | rfl | decide) (by decide) ?_
        refine aw_goto hC dX8_gap_69 (tgt := 36) (by decide) ?_
        refine aw_sub [0, 1, 2] ?_
        exact ih36 (x1 + 1) (x2 + 1)
set_option maxHeartbeats 4000000 in
set_option maxRecDepth 100000 in
theorem A_X8_gap (l : Launch) (hl0 : l.stackTraces = false) (D : va_G) (loc : Rf → Nat) (cy : Nat → ClassId)  (h : HD) : AM l D loc cy yX8_gap cX8_gap 3 (some .int) 7 168 [.ref (loc (6, 0, 0))] h ((jX8_gap h).map (fun r => (.inr (some (.int r.1)), r.2))) := by
  refine am_start (y := yX8_gap) (av := [.ref (loc (6, 0, 0))]) (nL := 3) (h := h) (RF := fun (r : Option (Int32 × HD)) => r.map (fun r => (.inr (some (.int r.1)), r.2))) (x := jX8_gap h) hl0 (by decide +kernel) rfl ?_
  intro p e R s m below meth c A hC
  unfold jX8_gap
  refine aw_aload_n hC dX8_gap_0 rfl ?_
  refine aw_gfR hC dX8_gap_1 fg_RX8_66 rfl rfl rm_6_0_0 ?_
  refine aw_aload_n hC dX8_gap_4 rfl ?_
  refine aw_bind rfl (fun q1 hq1 => ?_)
  refine aw_cVr hC dX8_gap_5 cv_RX8_245 rfl rm_6_0_0 (am_some (inj := (fun r => (.inr (some (.ref (loc (2, 0, 0)))), r))) hq1 (A_X8_parked _ (hC.2.2.2.2.2.2.2.2.2.2.2.2.1) _ _ _ h)) rfl rfl rfl rfl rfl ⟨rfl, rfl⟩ ?_
  refine aw_bind rfl (fun q2 hq2 => ?_)
  refine aw_cVv hC dX8_gap_8 cv_RX8_282 rfl rm_2_1_0 (am_some (inj := (fun r => (.inr (none), r))) hq2 (A_X4_comeInLine _ (hC.2.2.2.2.2.2.2.2.2.2.2.2.1) _ _ _ 1 (by decide) 0 (by decide) q1)) rfl rfl rfl rfl rfl ⟨rfl, rfl⟩ ?_
  refine aw_aload_n hC dX8_gap_11 rfl ?_
  refine aw_gfR hC dX8_gap_12 fg_RX8_62 rfl rfl rm_6_0_0 ?_
  refine aw_bind rfl (fun q3 hq3 => ?_)
  refine aw_cVi hC dX8_gap_15 cv_RX8_289 rfl rm_2_0_0 (am_some (inj := (fun r => (.inr (some (.int r)), q2))) hq3 (A_X4_area _ (hC.2.2.2.2.2.2.2.2.2.2.2.2.1) _ _ _ 0 (by decide) q2)) rfl rfl rfl rfl rfl ⟨rfl, rfl⟩ ?_
  refine aw_aload_n hC dX8_gap_18 rfl ?_
  refine aw_gfR hC dX8_gap_19 fg_RX8_62 rfl rfl rm_6_0_0 ?_
  refine aw_bind rfl (fun q4 hq4 => ?_)
  refine aw_cVi hC dX8_gap_22 cv_RX8_292 rfl rm_2_0_0 (am_some (inj := (fun r => (.inr (some (.int r)), q2))) hq4 (A_X4_areaByPreferences _ (hC.2.2.2.2.2.2.2.2.2.2.2.2.1) _ _ _ 0 (by decide) q2)) rfl rfl rfl rfl rfl ⟨rfl, rfl⟩ ?_
  refine aw_icmp_ne hC dX8_gap_25 (tgt := 32) (by decide) ?_ ?_
  · refine aw_iconst hC dX8_gap_32 (v := 1) (by decide) ?_
    refine aw_istore_n hC dX8_gap_33 (by decide) ?_
    refine aw_iconst hC dX8_gap_34 (v := 0) (by decide) ?_
    refine aw_istore_n hC dX8_gap_35 (by decide) ?_
    refine aw_sub [0, 1, 2] ?_
    exact L_X8_gap_36 q2  hC FU (1 : Int32) (0 : Int32)
  · refine aw_iconst hC dX8_gap_28 (v := 0) (by decide) ?_
    refine aw_goto hC dX8_gap_29 (tgt := 33) (by decide) ?_
    refine aw_istore_n hC dX8_gap_33 (by decide) ?_
    refine aw_iconst hC dX8_gap_34 (v := 0) (by decide) ?_
    refine aw_istore_n hC dX8_gap_35 (by decide) ?_
    refine aw_sub [0, 1, 2] ?_
    exact L_X8_gap_36 q2  hC FU (0 : Int32) (0 : Int32)
set_option maxHeartbeats 4000000 in
set_option maxRecDepth 100000 in
theorem A_X8_isParking (l : Launch) (hl0 : l.stackTraces = false) (D : va_G) (loc : Rf → Nat) (cy : Nat → ClassId)  (h : HD) : AM l D loc cy yX8_isParking cX8_isParking 1 (some .boolean) 7 168 [.ref (loc (6, 0, 0))] h ((jX8_isParking h).map (fun r => (.inr (some (.int (b2i r.1))), r.2))) := by
  refine am_start (y := yX8_isParking) (av := [.ref (loc (6, 0, 0))]) (nL := 1) (h := h) (RF := fun (r : Option (Bool × HD)) => r.map (fun r => (.inr (some (.int (b2i r.1))), r.2))) (x := jX8_isParking h) hl0 (by decide +kernel) rfl ?_
  intro p e R s m below meth c A hC
  unfold jX8_isParking
  refine aw_aload_n hC dX8_isParking_0 rfl ?_
  refine aw_bind rfl (fun q1 hq1 => ?_)
  refine aw_cVr hC dX8_isParking_1 cv_RX8_245 rfl rm_6_0_0 (am_some (inj := (fun r => (.inr (some (.ref (loc (2, 0, 0)))), r))) hq1 (A_X8_parked _ (hC.2.2.2.2.2.2.2.2.2.2.2.2.1) _ _ _ h)) rfl rfl rfl rfl rfl ⟨rfl, rfl⟩ ?_
  refine aw_cVi hC dX8_isParking_4 cv_RX8_295 rfl rm_2_0_0 (A_X4_turnNumber _ (hC.2.2.2.2.2.2.2.2.2.2.2.2.1) _ _ _ 0 (by decide) q1) rfl rfl rfl rfl rfl ⟨rfl, rfl⟩ ?_
  refine aw_if_ne hC dX8_isParking_7 (tgt := 14) (by decide) ?_ ?_
  · refine aw_iconst hC dX8_isParking_14 (v := 0) (by decide) ?_
    exact aw_zret hC dX8_isParking_15 rfl (show _ = b2i false from rfl) rfl
  · refine aw_iconst hC dX8_isParking_10 (v := 1) (by decide) ?_
    refine aw_goto hC dX8_isParking_11 (tgt := 15) (by decide) ?_
    exact aw_zret hC dX8_isParking_15 rfl (show _ = b2i true from rfl) rfl
set_option maxHeartbeats 4000000 in
set_option maxRecDepth 100000 in
theorem L_X8_breakAt_10 (p1 : Int32) (h : HD) (hC : Cx p l e R s m args meth c D loc cy A cX8_breakAt 5 (some .int) RX8 7 168 0 0)  : ∀ (n10 : Nat) (x3 : Int32) (x4 : Int32), AW p l e R s m args below meth c D loc cy A 5 (QM below D loc cy A args s) (fun (r : Option (Int32 × HD)) => r.map (fun r => (.inr (some (.int r.1)), r.2))) (0, 0) 10 [(0, .ref (loc (6, 0, 0))), (1, .int p1), (2, .ref (loc (2, 0, 0))), (3, .int x3), (4, .int x4)] [] h (jX8_breakAt_L10 p1 h n10 x3 x4) := by
  intro n10
  induction n10 with
  | zero => intro x3 x4; exact aw_none rfl
  | succ n10 ih10 =>
    intro x3 x4
    rw [jX8_breakAt_L10]
    refine aw_iload hC dX8_breakAt_10 rfl ?_
    refine aw_aload_n hC dX8_breakAt_12 rfl ?_
    refine aw_gfR hC dX8_breakAt_13 fg_RX8_42 rfl rfl rm_6_0_0 ?_
    refine aw_cVi hC dX8_breakAt_16 cv_RX8_138 rfl rm_1_0_0 (A_X2_count _ (hC.2.2.2.2.2.2.2.2.2.2.2.2.1) _ _ _ 0 (by decide) h) rfl rfl rfl rfl rfl ⟨rfl, rfl⟩ ?_
    refine aw_icmp_gt hC dX8_breakAt_19 (tgt := 48) (by decide) ?_ ?_
    · refine aw_iconst hC dX8_breakAt_48 (v := -1) (by decide) ?_
      exact aw_iret hC dX8_breakAt_49 rfl rfl
    · refine aw_aload_n hC dX8_breakAt_22 rfl ?_
      refine aw_iload hC dX8_breakAt_23 rfl ?_
      refine aw_bind rfl (fun q2 hq2 => ?_)
      refine aw_cVb hC dX8_breakAt_25 cv_RX8_298 rfl rm_2_0_0 (am_some (inj := (fun r => (.inr (some (.int (b2i r))), h))) hq2 (A_X4_isBreak _ (hC.2.2.2.2.2.2.2.2.2.2.2.2.1) _ _ _ 0 (by decide) x4 h)) rfl rfl rfl rfl rfl ⟨rfl, rfl⟩ ?_
      refine aw_if_eq_b hC dX8_breakAt_28 (tgt := 42) (by decide) ?_ ?_
      · refine aw_iinc hC dX8_breakAt_42 rfl (v := x4 + 1) (by first | rfl | decide) (by decide) ?_
        refine aw_goto hC dX8_breakAt_45 (tgt := 10) (by decide) ?_
        refine aw_sub [0, 1, 2, 3, 4] ?_
        exact ih10 x3 (x4 + 1)
      · refine aw_iload_n hC dX8_breakAt_31 rfl ?_
        refine aw_iload_n hC dX8_breakAt_32 rfl ?_
        refine aw_icmp_ne hC dX8_breakAt_33 (tgt := 39) (by decide) ?_ ?_
        · refine aw_iinc hC dX8_breakAt_39 rfl (v := x3 + 1) (by first | rfl | decide) (by decide) ?_
          refine aw_iinc hC dX8_breakAt_42 rfl (v := x4 + 1) (by first | rfl | decide) (by decide) ?_
          refine aw_goto hC dX8_breakAt_45 (tgt := 10) (by decide) ?_
          refine aw_sub [0, 1, 2, 3, 4] ?_
          exact ih10 (x3 + 1) (x4 + 1)
        · refine aw_iload hC dX8_breakAt_36 rfl ?_
          exact aw_iret hC dX8_breakAt_38 rfl rfl
set_option maxHeartbeats 4000000 in
set_option maxRecDepth 100000 in
theorem A_X8_breakAt (l : Launch) (hl0 : l.stackTraces = false) (D : va_G) (loc : Rf → Nat) (cy : Nat → ClassId) (p1 : Int32) (h : HD) : AM l D loc cy yX8_breakAt cX8_breakAt 5 (some .int) 7 168 [.ref (loc (6, 0, 0)), .int p1] h ((jX8_breakAt p1 h).map (fun r => (.inr (some (.int r.1)), r.2))) := by
  refine am_start (y := yX8_breakAt) (av := [.ref (loc (6, 0, 0)), .int p1]) (nL := 5) (h := h) (RF := fun (r : Option (Int32 × HD)) => r.map (fun r => (.inr (some (.int r.1)), r.2))) (x := jX8_breakAt p1 h) hl0 (by decide +kernel) rfl ?_
  intro p e R s m below meth c A hC
  unfold jX8_breakAt
  refine aw_aload_n hC dX8_breakAt_0 rfl ?_
  refine aw_bind rfl (fun q1 hq1 => ?_)
  refine aw_cVr hC dX8_breakAt_1 cv_RX8_245 rfl rm_6_0_0 (am_some (inj := (fun r => (.inr (some (.ref (loc (2, 0, 0)))), r))) hq1 (A_X8_parked _ (hC.2.2.2.2.2.2.2.2.2.2.2.2.1) _ _ _ h)) rfl rfl rfl rfl rfl ⟨rfl, rfl⟩ ?_
  refine aw_astore_n hC dX8_breakAt_4 (by decide) ?_
  refine aw_iconst hC dX8_breakAt_5 (v := 0) (by decide) ?_
  refine aw_istore_n hC dX8_breakAt_6 (by decide) ?_
  refine aw_iconst hC dX8_breakAt_7 (v := 1) (by decide) ?_
  refine aw_istore hC dX8_breakAt_8 (by decide) ?_
  refine aw_sub [0, 1, 2, 3, 4] ?_
  exact L_X8_breakAt_10 p1 q1  hC FU (0 : Int32) (1 : Int32)
set_option maxHeartbeats 4000000 in
set_option maxRecDepth 100000 in
theorem A_X8_needPreference (l : Launch) (hl0 : l.stackTraces = false) (D : va_G) (loc : Rf → Nat) (cy : Nat → ClassId) (p1 : Int32) (h : HD) : AX l D loc cy yX8_needPreference (Cond.code yX8_needPreference cX8_needPreference 2 (none) :: LW) 6 100 1 6 [.ref (loc (6, 0, 0)), .int p1] h ((jX8_needPreference p1 h).map (fun r => (xi (fun _ => none) r, h))) := by
  refine ax_start (y := yX8_needPreference) (av := [.ref (loc (6, 0, 0)), .int p1]) (nL := 2) (h := h) (RF := fun (r : Option (Nat ⊕ Unit)) => r.map (fun r => (xi (fun _ => none) r, h))) (x := jX8_needPreference p1 h) hl0 (by decide +kernel) rfl ?_
  intro p e R s m below meth c A hxt hC
  unfold jX8_needPreference
  refine aw_aload_n hC dX8_needPreference_0 rfl ?_
  refine aw_gfR hC dX8_needPreference_1 fg_RX8_42 rfl rfl rm_6_0_0 ?_
  refine aw_iload_n hC dX8_needPreference_4 rfl ?_
  refine aw_cVb hC dX8_needPreference_5 cv_RX8_339 rfl rm_1_0_0 (A_X2_hasSpot _ (hC.2.2.2.2.2.2.2.2.2.2.2.2.1) _ _ _ 0 (by decide) p1 h) rfl rfl rfl rfl rfl ⟨rfl, rfl⟩ ?_
  refine aw_if_ne_b hC dX8_needPreference_8 (tgt := 22) (by decide) ?_ ?_
  · exact aw_vreX hC dX8_needPreference_22 rfl rfl rfl rfl
  · exact aw_throw1w (text := "a preference is a spot") (sid := 344) hC hxt dX8_needPreference_11 dX8_needPreference_14 dX8_needPreference_15 dX8_needPreference_18 dX8_needPreference_21 tw4_48 tw1_13 (by decide +kernel) rfl rfl rfl rfl rfl rfl rfl
set_option maxHeartbeats 4000000 in
set_option maxRecDepth 100000 in
theorem A_X8_isBack (l : Launch) (hl0 : l.stackTraces = false) (D : va_G) (loc : Rf → Nat) (cy : Nat → ClassId) (p1 : Int32) (h : HD) : AM l D loc cy yX8_isBack cX8_isBack 1 (some .boolean) 0 16 [.int p1] h (some (.inr (some (.int (b2i (jX8_isBack p1 h)))), h)) := by
  refine am_start (y := yX8_isBack) (av := [.int p1]) (nL := 1) (h := h) (RF := fun (r : Bool) => some (.inr (some (.int (b2i r))), h)) (x := jX8_isBack p1 h) hl0 (by decide +kernel) rfl ?_
  intro p e R s m below meth c A hC
  unfold jX8_isBack
  refine aw_iload_n hC dX8_isBack_0 rfl ?_
  refine aw_if_lt hC dX8_isBack_1 (tgt := 13) (by decide) ?_ ?_
  · refine aw_iconst hC dX8_isBack_13 (v := 0) (by decide) ?_
    exact aw_zret hC dX8_isBack_14 rfl (show _ = b2i false from rfl) rfl
  · refine aw_iload_n hC dX8_isBack_4 rfl ?_
    refine aw_iconst hC dX8_isBack_5 (v := 5) (by decide) ?_
    refine aw_icmp_gt hC dX8_isBack_6 (tgt := 13) (by decide) ?_ ?_
    · refine aw_iconst hC dX8_isBack_13 (v := 0) (by decide) ?_
      exact aw_zret hC dX8_isBack_14 rfl (show _ = b2i false from rfl) rfl
    · refine aw_iconst hC dX8_isBack_9 (v := 1) (by decide) ?_
      refine aw_goto hC dX8_isBack_10 (tgt := 14) (by decide) ?_
      exact aw_zret hC dX8_isBack_14 rfl (show _ = b2i true from rfl) rfl
set_option maxHeartbeats 4000000 in
set_option maxRecDepth 100000 in
theorem A_X8_needBack (l : Launch) (hl0 : l.stackTraces = false) (D : va_G) (loc : Rf → Nat) (cy : Nat → ClassId) (p1 : Int32) (h : HD) : AX l D loc cy yX8_needBack (Cond.code yX8_needBack cX8_needBack 2 (none) :: LW) 6 100 1 6 [.ref (loc (6, 0, 0)), .int p1] h ((jX8_needBack p1 h).map (fun r => (xi (fun _ => none) r, h))) := by
  refine ax_start (y := yX8_needBack) (av := [.ref (loc (6, 0, 0)), .int p1]) (nL := 2) (h := h) (RF := fun (r : Option (Nat ⊕ Unit)) => r.map (fun r => (xi (fun _ => none) r, h))) (x := jX8_needBack p1 h) hl0 (by decide +kernel) rfl ?_
  intro p e R s m below meth c A hxt hC
  unfold jX8_needBack
  refine aw_iload_n hC dX8_needBack_0 rfl ?_
  refine aw_cSb hC dX8_needBack_1 cv_RX8_346 (A_X8_isBack _ (hC.2.2.2.2.2.2.2.2.2.2.2.2.1) _ _ _ p1 h) rfl rfl rfl rfl rfl ⟨rfl, rfl⟩ ?_
  refine aw_if_ne_b hC dX8_needBack_4 (tgt := 18) (by decide) ?_ ?_
  · exact aw_vreX hC dX8_needBack_18 rfl rfl rfl rfl
  · exact aw_throw1w (text := "back is 0 to 5") (sid := 349) hC hxt dX8_needBack_7 dX8_needBack_10 dX8_needBack_11 dX8_needBack_14 dX8_needBack_17 tw4_48 tw1_13 (by decide +kernel) rfl rfl rfl rfl rfl rfl rfl
set_option maxHeartbeats 4000000 in
set_option maxRecDepth 100000 in
theorem A_X8_parkedAfter (l : Launch) (hl0 : l.stackTraces = false) (D : va_G) (loc : Rf → Nat) (cy : Nat → ClassId) (p1 : Int32) (h : HD) : AX l D loc cy yX8_parkedAfter (Cond.code yX8_parkedAfter cX8_parkedAfter 2 (some (.object "ParkingCircle$Parking")) :: LW) 6 148 1 6 [.ref (loc (6, 0, 0)), .int p1] h ((jX8_parkedAfter p1 h).map (fun r => (xi (fun _ => some (.ref (loc (2, 0, 0)))) r.1, r.2))) := by
  refine ax_start (y := yX8_parkedAfter) (av := [.ref (loc (6, 0, 0)), .int p1]) (nL := 2) (h := h) (RF := fun (r : Option ((Nat ⊕ Unit) × HD)) => r.map (fun r => (xi (fun _ => some (.ref (loc (2, 0, 0)))) r.1, r.2))) (x := jX8_parkedAfter p1 h) hl0 (by decide +kernel) rfl ?_
  intro p e R s m below meth c A hxt hC
  unfold jX8_parkedAfter
  refine aw_iload_n hC dX8_parkedAfter_0 rfl ?_
  refine aw_if_lt hC dX8_parkedAfter_1 (tgt := 15) (by decide) ?_ ?_
  · exact aw_throw1w (text := "so many cars do not come") (sid := 358) hC hxt dX8_parkedAfter_15 dX8_parkedAfter_18 dX8_parkedAfter_19 dX8_parkedAfter_22 dX8_parkedAfter_25 tw4_48 tw1_13 (by decide +kernel) rfl rfl rfl rfl rfl rfl rfl
  · refine aw_iload_n hC dX8_parkedAfter_4 rfl ?_
    refine aw_aload_n hC dX8_parkedAfter_5 rfl ?_
    refine aw_gfR hC dX8_parkedAfter_6 fg_RX8_42 rfl rfl rm_6_0_0 ?_
    refine aw_cVi hC dX8_parkedAfter_9 cv_RX8_138 rfl rm_1_0_0 (A_X2_count _ (hC.2.2.2.2.2.2.2.2.2.2.2.2.1) _ _ _ 0 (by decide) h) rfl rfl rfl rfl rfl ⟨rfl, rfl⟩ ?_
    refine aw_icmp_le hC dX8_parkedAfter_12 (tgt := 26) (by decide) ?_ ?_
    · refine aw_aload_n hC dX8_parkedAfter_26 rfl ?_
      refine aw_gfR hC dX8_parkedAfter_27 fg_RX8_62 rfl rfl rm_6_0_0 ?_
      refine aw_aload_n hC dX8_parkedAfter_30 rfl ?_
      refine aw_gfR hC dX8_parkedAfter_31 fg_RX8_42 rfl rfl rm_6_0_0 ?_
      refine aw_iload_n hC dX8_parkedAfter_34 rfl ?_
      refine aw_bind rfl (fun q1 hq1 => ?_)
      refine aw_cVv hC dX8_parkedAfter_35 cv_RX8_301 rfl rm_2_0_0 (am_some (inj := (fun r => (.inr (none), r))) hq1 (A_X4_comeRound _ (hC.2.2.2.2.2.2.2.2.2.2.2.2.1) _ _ _ 0 (by decide) 0 (by decide) p1 h)) rfl rfl rfl rfl rfl ⟨rfl, rfl⟩ ?_
      refine aw_aload_n hC dX8_parkedAfter_38 rfl ?_
      refine aw_gfR hC dX8_parkedAfter_39 fg_RX8_62 rfl rfl rm_6_0_0 ?_
      exact aw_areX hC dX8_parkedAfter_42 rfl (Or.inl ⟨_, rfl⟩) (Or.inr ⟨_, rfl⟩) rfl rfl rfl
    · exact aw_throw1w (text := "so many cars do not come") (sid := 358) hC hxt dX8_parkedAfter_15 dX8_parkedAfter_18 dX8_parkedAfter_19 dX8_parkedAfter_22 dX8_parkedAfter_25 tw4_48 tw1_13 (by decide +kernel) rfl rfl rfl rfl rfl rfl rfl
set_option maxHeartbeats 4000000 in
set_option maxRecDepth 100000 in
theorem A_X8_whoAfter (l : Launch) (hl0 : l.stackTraces = false) (D : va_G) (loc : Rf → Nat) (cy : Nat → ClassId) (p1 : Int32) (p2 : Int32) (h : HD) : AX l D loc cy yX8_whoAfter (Cond.code yX8_whoAfter cX8_whoAfter 3 (some .int) :: LW) 7 169 2 12 [.ref (loc (6, 0, 0)), .int p1, .int p2] h ((jX8_whoAfter p1 p2 h).map (fun r => (xi (fun v => some (.int v)) r.1, r.2))) := by
  refine ax_start (y := yX8_whoAfter) (av := [.ref (loc (6, 0, 0)), .int p1, .int p2]) (nL := 3) (h := h) (RF := fun (r : Option ((Nat ⊕ Int32) × HD)) => r.map (fun r => (xi (fun v => some (.int v)) r.1, r.2))) (x := jX8_whoAfter p1 p2 h) hl0 (by decide +kernel) rfl ?_
  intro p e R s m below meth c A hxt hC
  unfold jX8_whoAfter
  refine aw_aload_n hC dX8_whoAfter_0 rfl ?_
  refine aw_iload_n hC dX8_whoAfter_1 rfl ?_
  refine aw_bind rfl (fun q1 hq1 => ?_)
  refine aw_cXv hC hxt dX8_whoAfter_2 cv_RX8_270 rfl rm_6_0_0 (ax_some (inj := (fun r => (xi (fun _ => none) r, h))) hq1 (A_X8_needSpot _ (hC.2.2.2.2.2.2.2.2.2.2.2.2.1) _ _ _ p2 h)) rfl rfl rfl rfl rfl ⟨rfl, rfl⟩ rfl rfl (fun _ => rfl) (fun v2 => ?_)
  refine aw_aload_n hC dX8_whoAfter_5 rfl ?_
  refine aw_iload_n hC dX8_whoAfter_6 rfl ?_
  refine aw_bind rfl (fun q3 hq3 => ?_)
  refine aw_cXr hC hxt dX8_whoAfter_7 cv_RX8_351 rfl rm_6_0_0 (ax_some (inj := (fun r => (xi (fun _ => some (.ref (loc (2, 0, 0)))) r.1, r.2))) hq3 (A_X8_parkedAfter _ (hC.2.2.2.2.2.2.2.2.2.2.2.2.1) _ _ _ p1 h)) rfl rfl rfl rfl rfl ⟨rfl, rfl⟩ rfl rfl (fun _ => rfl) (fun v4 => ?_)
  refine aw_iload_n hC dX8_whoAfter_10 rfl ?_
  refine aw_bind rfl (fun q5 hq5 => ?_)
  refine aw_cVi hC dX8_whoAfter_11 cv_RX8_273 rfl rm_2_0_0 (am_some (inj := (fun r => (.inr (some (.int r)), q3.2))) hq5 (A_X4_takerOf _ (hC.2.2.2.2.2.2.2.2.2.2.2.2.1) _ _ _ 0 (by decide) p2 q3.2)) rfl rfl rfl rfl rfl ⟨rfl, rfl⟩ ?_
  exact aw_ireX hC dX8_whoAfter_14 rfl rfl rfl rfl
set_option maxHeartbeats 4000000 in
set_option maxRecDepth 100000 in
theorem L_X4_longestRow_14 (o : Nat) (ho : o < 2) (x1 : Int32) (x2 : Int32) (h : HD) (k46 : Int32 → Option Int32) (hC : Cx p l e R s m args meth c D loc cy A cX4_longestRow 4 (some .int) RX4 2 64 0 0) (hk46 : ∀ (x3 : Int32), AW p l e R s m args below meth c D loc cy A 4 (QM below D loc cy A args s) (fun (r : Option Int32) => r.map (fun r => (.inr (some (.int r)), h))) (0, 0) 46 [(0, .ref (loc (2, o, 0))), (1, .int x1), (2, .int x2), (3, .int x3)] [] h (k46 x3)) : ∀ (n14 : Nat) (x3 : Int32), AW p l e R s m args below meth c D loc cy A 4 (QM below D loc cy A args s) (fun (r : Option Int32) => r.map (fun r => (.inr (some (.int r)), h))) (0, 0) 14 [(0, .ref (loc (2, o, 0))), (1, .int x1), (2, .int x2), (3, .int x3)] [] h (jX4_longestRow_L14 o x1 x2 h k46 n14 x3) := by
  intro n14
  induction n14 with
  | zero => intro x3; exact aw_none rfl
  | succ n14 ih14 =>
    intro x3
    rw [jX4_longestRow_L14]
    refine aw_iload_n hC dX4_longestRow_14 rfl ?_
    refine aw_aload_n hC dX4_longestRow_15 rfl ?_
    refine aw_gfI hC dX4_longestRow_16 fg_RX4_24 rfl (rv_2_0 ho) ?_
    refine aw_icmp_ge hC dX4_longestRow_19 (tgt := 46) (by decide) ?_ ?_
    · refine aw_sub [0, 1, 2, 3] ?_
      exact hk46 x3
    · refine aw_aload_n hC dX4_longestRow_22 rfl ?_
      refine aw_iload_n hC dX4_longestRow_23 rfl ?_
      refine aw_iload_n hC dX4_longestRow_24 rfl ?_
      refine aw_iadd hC dX4_longestRow_25 ?_
      refine aw_aload_n hC dX4_longestRow_26 rfl ?_
      refine aw_gfI hC dX4_longestRow_27 fg_RX4_24 rfl (rv_2_0 ho) ?_
      refine aw_bind rfl (fun q1 hq1 => ?_)
      refine aw_cNi hC dX4_longestRow_30 cv_RX4_83 (am_some (inj := (fun r => (.inr (some (.int r)), h))) hq1 (A_X8_wrapped _ (hC.2.2.2.2.2.2.2.2.2.2.2.2.1) _ _ _ (x2 + x3) (gI h (2, o, 0) 4) h)) rfl rfl rfl rfl rfl ⟨rfl, rfl⟩ ?_
      refine aw_bind rfl (fun q2 hq2 => ?_)
      refine aw_cVi hC dX4_longestRow_33 cv_RX4_103 rfl (rv_2_0 ho) (am_some (inj := (fun r => (.inr (some (.int r)), h))) hq2 (A_X4_takerOf _ (hC.2.2.2.2.2.2.2.2.2.2.2.2.1) _ _ _ o ho q1 h)) rfl rfl rfl rfl rfl ⟨rfl, rfl⟩ ?_
      refine aw_iconst hC dX4_longestRow_36 (v := -1) (by decide) ?_
      refine aw_icmp_eq hC dX4_longestRow_37 (tgt := 46) (by decide) ?_ ?_
      · refine aw_sub [0, 1, 2, 3] ?_
        exact hk46 x3
      · refine aw_iinc hC dX4_longestRow_40 rfl (v := x3 + 1) (by first | rfl | decide) (by decide) ?_
        refine aw_goto hC dX4_longestRow_43 (tgt := 14) (by decide) ?_
        refine aw_sub [0, 1, 2, 3] ?_
        exact ih14 (x3 + 1)
set_option maxHeartbeats 4000000 in
set_option maxRecDepth 100000 in
theorem L_X4_longestRow_4 (o : Nat) (ho : o < 2) (h : HD) (hC : Cx p l e R s m args meth c D loc cy A cX4_longestRow 4 (some .int) RX4 2 64 0 0)  : ∀ (n4 : Nat) (x1 : Int32) (x2 : Int32), AW p l e R s m args below meth c D loc cy A 4 (QM below D loc cy A args s) (fun (r : Option Int32) => r.map (fun r => (.inr (some (.int r)), h))) (0, 0) 4 [(0, .ref (loc (2, o, 0))), (1, .int x1), (2, .int x2)] [] h (jX4_longestRow_L4 o h n4 x1 x2) := by
  intro n4
  induction n4 with
  | zero => intro x1 x2; exact aw_none rfl
  | succ n4 ih4 =>
    intro x1 x2
    rw [jX4_longestRow_L4]
    refine aw_iload_n hC dX4_longestRow_4 rfl ?_
    refine aw_aload_n hC dX4_longestRow_5 rfl ?_
    refine aw_gfI hC dX4_longestRow_6 fg_RX4_24 rfl (rv_2_0 ho) ?_
    refine aw_icmp_ge hC dX4_longestRow_9 (tgt := 58) (by decide) ?_ ?_
    · refine aw_iload_n hC dX4_longestRow_58 rfl ?_
      exact aw_iret hC dX4_longestRow_59 rfl rfl
    · refine aw_iconst hC dX4_longestRow_12 (v := 0) (by decide) ?_
      refine aw_istore_n hC dX4_longestRow_13 (by decide) ?_
      refine aw_sub [0, 1, 2, 3] ?_
      refine L_X4_longestRow_14 o ho x1 x2 h _ hC ?_ FU (0 : Int32)
      · intro y14_3
        refine aw_iload_n hC dX4_longestRow_46 rfl ?_
        refine aw_iload_n hC dX4_longestRow_47 rfl ?_
        refine aw_mmax hC dX4_longestRow_48 tw6_28 tw3_20 tw1_22 tw3_21 rfl rfl ⟨rfl, rfl⟩ ?_
        refine aw_istore_n hC dX4_longestRow_51 (by decide) ?_
        refine aw_iinc hC dX4_longestRow_52 rfl (v := x2 + 1) (by first | rfl | decide) (by decide) ?_
        refine aw_goto hC dX4_longestRow_55 (tgt := 4) (by decide) ?_
        refine aw_sub [0, 1, 2] ?_
        exact ih4 (if x1 < y14_3 then y14_3 else x1) (x2 + 1)
set_option maxHeartbeats 4000000 in
set_option maxRecDepth 100000 in
theorem A_X4_longestRow (l : Launch) (hl0 : l.stackTraces = false) (D : va_G) (loc : Rf → Nat) (cy : Nat → ClassId) (o : Nat) (ho : o < 2) (h : HD) : AM l D loc cy yX4_longestRow cX4_longestRow 4 (some .int) 2 64 [.ref (loc (2, o, 0))] h ((jX4_longestRow o h).map (fun r => (.inr (some (.int r)), h))) := by
  refine am_start (y := yX4_longestRow) (av := [.ref (loc (2, o, 0))]) (nL := 4) (h := h) (RF := fun (r : Option Int32) => r.map (fun r => (.inr (some (.int r)), h))) (x := jX4_longestRow o h) hl0 (by decide +kernel) rfl ?_
  intro p e R s m below meth c A hC
  unfold jX4_longestRow
  refine aw_iconst hC dX4_longestRow_0 (v := 0) (by decide) ?_
  refine aw_istore_n hC dX4_longestRow_1 (by decide) ?_
  refine aw_iconst hC dX4_longestRow_2 (v := 0) (by decide) ?_
  refine aw_istore_n hC dX4_longestRow_3 (by decide) ?_
  refine aw_sub [0, 1, 2] ?_
  exact L_X4_longestRow_4 o ho h  hC FU (0 : Int32) (0 : Int32)
set_option maxHeartbeats 4000000 in
set_option maxRecDepth 100000 in
theorem A_X8_longestAfter (l : Launch) (hl0 : l.stackTraces = false) (D : va_G) (loc : Rf → Nat) (cy : Nat → ClassId) (p1 : Int32) (h : HD) : AX l D loc cy yX8_longestAfter (Cond.code yX8_longestAfter cX8_longestAfter 2 (some .int) :: LW) 7 169 1 6 [.ref (loc (6, 0, 0)), .int p1] h ((jX8_longestAfter p1 h).map (fun r => (xi (fun v => some (.int v)) r.1, r.2))) := by
  refine ax_start (y := yX8_longestAfter) (av := [.ref (loc (6, 0, 0)), .int p1]) (nL := 2) (h := h) (RF := fun (r : Option ((Nat ⊕ Int32) × HD)) => r.map (fun r => (xi (fun v => some (.int v)) r.1, r.2))) (x := jX8_longestAfter p1 h) hl0 (by decide +kernel) rfl ?_
  intro p e R s m below meth c A hxt hC
  unfold jX8_longestAfter
  refine aw_aload_n hC dX8_longestAfter_0 rfl ?_
  refine aw_iload_n hC dX8_longestAfter_1 rfl ?_
  refine aw_bind rfl (fun q1 hq1 => ?_)
  refine aw_cXr hC hxt dX8_longestAfter_2 cv_RX8_351 rfl rm_6_0_0 (ax_some (inj := (fun r => (xi (fun _ => some (.ref (loc (2, 0, 0)))) r.1, r.2))) hq1 (A_X8_parkedAfter _ (hC.2.2.2.2.2.2.2.2.2.2.2.2.1) _ _ _ p1 h)) rfl rfl rfl rfl rfl ⟨rfl, rfl⟩ rfl rfl (fun _ => rfl) (fun v2 => ?_)
  refine aw_bind rfl (fun q3 hq3 => ?_)
  refine aw_cVi hC dX8_longestAfter_5 cv_RX8_355 rfl rm_2_0_0 (am_some (inj := (fun r => (.inr (some (.int r)), q1.2))) hq3 (A_X4_longestRow _ (hC.2.2.2.2.2.2.2.2.2.2.2.2.1) _ _ _ 0 (by decide) q1.2)) rfl rfl rfl rfl rfl ⟨rfl, rfl⟩ ?_
  exact aw_ireX hC dX8_longestAfter_8 rfl rfl rfl rfl
set_option maxHeartbeats 4000000 in
set_option maxRecDepth 100000 in
theorem A_X8_inWay (l : Launch) (hl0 : l.stackTraces = false) (D : va_G) (loc : Rf → Nat) (cy : Nat → ClassId) (p1 : Int32) (h : HD) : AX l D loc cy yX8_inWay (Cond.code yX8_inWay cX8_inWay 3 (some .int) :: LW) 7 169 1 6 [.ref (loc (6, 0, 0)), .int p1] h ((jX8_inWay p1 h).map (fun r => (xi (fun v => some (.int v)) r.1, r.2))) := by
  refine ax_start (y := yX8_inWay) (av := [.ref (loc (6, 0, 0)), .int p1]) (nL := 3) (h := h) (RF := fun (r : Option ((Nat ⊕ Int32) × HD)) => r.map (fun r => (xi (fun v => some (.int v)) r.1, r.2))) (x := jX8_inWay p1 h) hl0 (by decide +kernel) rfl ?_
  intro p e R s m below meth c A hxt hC
  unfold jX8_inWay
  refine aw_aload_n hC dX8_inWay_0 rfl ?_
  refine aw_iload_n hC dX8_inWay_1 rfl ?_
  refine aw_bind rfl (fun q1 hq1 => ?_)
  refine aw_cXr hC hxt dX8_inWay_2 cv_RX8_351 rfl rm_6_0_0 (ax_some (inj := (fun r => (xi (fun _ => some (.ref (loc (2, 0, 0)))) r.1, r.2))) hq1 (A_X8_parkedAfter _ (hC.2.2.2.2.2.2.2.2.2.2.2.2.1) _ _ _ p1 h)) rfl rfl rfl rfl rfl ⟨rfl, rfl⟩ rfl rfl (fun _ => rfl) (fun v2 => ?_)
  refine aw_astore_n hC dX8_inWay_5 (by decide) ?_
  refine aw_aload_n hC dX8_inWay_6 rfl ?_
  refine aw_gfR hC dX8_inWay_7 fg_RX8_42 rfl rfl rm_6_0_0 ?_
  refine aw_iload_n hC dX8_inWay_10 rfl ?_
  refine aw_cVb hC dX8_inWay_11 cv_RX8_331 rfl rm_1_0_0 (A_X2_hasCar _ (hC.2.2.2.2.2.2.2.2.2.2.2.2.1) _ _ _ 0 (by decide) p1 q1.2) rfl rfl rfl rfl rfl ⟨rfl, rfl⟩ ?_
  refine aw_if_eq_b hC dX8_inWay_14 (tgt := 32) (by decide) ?_ ?_
  · refine aw_iconst hC dX8_inWay_32 (v := -1) (by decide) ?_
    exact aw_ireX hC dX8_inWay_33 rfl rfl rfl rfl
  · refine aw_aload_n hC dX8_inWay_17 rfl ?_
    refine aw_aload_n hC dX8_inWay_18 rfl ?_
    refine aw_gfR hC dX8_inWay_19 fg_RX8_42 rfl rfl rm_6_0_0 ?_
    refine aw_iload_n hC dX8_inWay_22 rfl ?_
    refine aw_bind rfl (fun q3 hq3 => ?_)
    refine aw_cVi hC dX8_inWay_23 cv_RX8_249 rfl rm_1_0_0 (am_some (inj := (fun r => (.inr (some (.int r)), q1.2))) hq3 (A_X2_preferenceOf _ (hC.2.2.2.2.2.2.2.2.2.2.2.2.1) _ _ _ 0 (by decide) p1 q1.2)) rfl rfl rfl rfl rfl ⟨rfl, rfl⟩ ?_
    refine aw_bind rfl (fun q4 hq4 => ?_)
    refine aw_cVi hC dX8_inWay_26 cv_RX8_273 rfl rm_2_0_0 (am_some (inj := (fun r => (.inr (some (.int r)), q1.2))) hq4 (A_X4_takerOf _ (hC.2.2.2.2.2.2.2.2.2.2.2.2.1) _ _ _ 0 (by decide) q3 q1.2)) rfl rfl rfl rfl rfl ⟨rfl, rfl⟩ ?_
    refine aw_goto hC dX8_inWay_29 (tgt := 33) (by decide) ?_
    exact aw_ireX hC dX8_inWay_33 rfl rfl rfl rfl
set_option maxHeartbeats 4000000 in
set_option maxRecDepth 100000 in
theorem L_X8_fibre_10 (h : HD) (hC : Cx p l e R s m args meth c D loc cy A cX8_fibre 5 (some .long) RX8 7 168 0 0)  : ∀ (n10 : Nat) (x2 : Int64) (x4 : Int32), AW p l e R s m args below meth c D loc cy A 5 (QM below D loc cy A args s) (fun (r : Option (Int64 × HD)) => r.map (fun r => (.inr (some (.long r.1)), r.2))) (0, 0) 10 [(0, .ref (loc (6, 0, 0))), (1, .ref (loc (2, 0, 0))), (2, .long x2), (4, .int x4)] [] h (jX8_fibre_L10 h n10 x2 x4) := by
  intro n10
  induction n10 with
  | zero => intro x2 x4; exact aw_none rfl
  | succ n10 ih10 =>
    intro x2 x4
    rw [jX8_fibre_L10]
    refine aw_iload hC dX8_fibre_10 rfl ?_
    refine aw_aload_n hC dX8_fibre_12 rfl ?_
    refine aw_gfR hC dX8_fibre_13 fg_RX8_42 rfl rfl rm_6_0_0 ?_
    refine aw_cVi hC dX8_fibre_16 cv_RX8_138 rfl rm_1_0_0 (A_X2_count _ (hC.2.2.2.2.2.2.2.2.2.2.2.2.1) _ _ _ 0 (by decide) h) rfl rfl rfl rfl rfl ⟨rfl, rfl⟩ ?_
    refine aw_icmp_ge hC dX8_fibre_19 (tgt := 38) (by decide) ?_ ?_
    · refine aw_lload_n hC dX8_fibre_38 rfl ?_
      exact aw_lret hC dX8_fibre_39 rfl rfl
    · refine aw_lload_n hC dX8_fibre_22 rfl ?_
      refine aw_aload_n hC dX8_fibre_23 rfl ?_
      refine aw_iload hC dX8_fibre_24 rfl ?_
      refine aw_bind rfl (fun q2 hq2 => ?_)
      refine aw_cVi hC dX8_fibre_26 cv_RX8_262 rfl rm_2_0_0 (am_some (inj := (fun r => (.inr (some (.int r)), h))) hq2 (A_X4_runOf _ (hC.2.2.2.2.2.2.2.2.2.2.2.2.1) _ _ _ 0 (by decide) x4 h)) rfl rfl rfl rfl rfl ⟨rfl, rfl⟩ ?_
      refine aw_i2l hC dX8_fibre_29 ?_
      refine aw_lmul hC dX8_fibre_30 ?_
      refine aw_lstore_n hC dX8_fibre_31 (by decide) ?_
      refine aw_iinc hC dX8_fibre_32 rfl (v := x4 + 1) (by first | rfl | decide) (by decide) ?_
      refine aw_goto hC dX8_fibre_35 (tgt := 10) (by decide) ?_
      refine aw_sub [0, 1, 2, 4] ?_
      exact ih10 (x2 * q2.toInt64) (x4 + 1)
set_option maxHeartbeats 4000000 in
set_option maxRecDepth 100000 in
theorem A_X8_fibre (l : Launch) (hl0 : l.stackTraces = false) (D : va_G) (loc : Rf → Nat) (cy : Nat → ClassId)  (h : HD) : AM l D loc cy yX8_fibre cX8_fibre 5 (some .long) 7 168 [.ref (loc (6, 0, 0))] h ((jX8_fibre h).map (fun r => (.inr (some (.long r.1)), r.2))) := by
  refine am_start (y := yX8_fibre) (av := [.ref (loc (6, 0, 0))]) (nL := 5) (h := h) (RF := fun (r : Option (Int64 × HD)) => r.map (fun r => (.inr (some (.long r.1)), r.2))) (x := jX8_fibre h) hl0 (by decide +kernel) rfl ?_
  intro p e R s m below meth c A hC
  unfold jX8_fibre
  refine aw_aload_n hC dX8_fibre_0 rfl ?_
  refine aw_bind rfl (fun q1 hq1 => ?_)
  refine aw_cVr hC dX8_fibre_1 cv_RX8_245 rfl rm_6_0_0 (am_some (inj := (fun r => (.inr (some (.ref (loc (2, 0, 0)))), r))) hq1 (A_X8_parked _ (hC.2.2.2.2.2.2.2.2.2.2.2.2.1) _ _ _ h)) rfl rfl rfl rfl rfl ⟨rfl, rfl⟩ ?_
  refine aw_astore_n hC dX8_fibre_4 (by decide) ?_
  refine aw_lconst hC dX8_fibre_5 (v := 1) (by decide) ?_
  refine aw_lstore_n hC dX8_fibre_6 (by decide) ?_
  refine aw_iconst hC dX8_fibre_7 (v := 0) (by decide) ?_
  refine aw_istore hC dX8_fibre_8 (by decide) ?_
  refine aw_sub [0, 1, 2, 4] ?_
  exact L_X8_fibre_10 q1  hC FU (1 : Int64) (0 : Int32)
set_option maxHeartbeats 4000000 in
set_option maxRecDepth 100000 in
theorem L_X8_factorial_4 (p1 : Int32) (h : HD) (hC : Cx p l e R s m args meth c D loc cy A cX8_factorial 4 (some .long) RX8 0 16 0 0)  : ∀ (n4 : Nat) (x1 : Int64) (x3 : Int32), AW p l e R s m args below meth c D loc cy A 4 (QM below D loc cy A args s) (fun (r : Option Int64) => r.map (fun r => (.inr (some (.long r)), h))) (0, 0) 4 [(0, .int p1), (1, .long x1), (3, .int x3)] [] h (jX8_factorial_L4 p1 h n4 x1 x3) := by
  intro n4
  induction n4 with
  | zero => intro x1 x3; exact aw_none rfl
  | succ n4 ih4 =>
    intro x1 x3
    rw [jX8_factorial_L4]
    refine aw_iload_n hC dX8_factorial_4 rfl ?_
    refine aw_iload_n hC dX8_factorial_5 rfl ?_
    refine aw_icmp_gt hC dX8_factorial_6 (tgt := 20) (by decide) ?_ ?_
    · refine aw_lload_n hC dX8_factorial_20 rfl ?_
      exact aw_lret hC dX8_factorial_21 rfl rfl
    · refine aw_lload_n hC dX8_factorial_9 rfl ?_
      refine aw_iload_n hC dX8_factorial_10 rfl ?_
      refine aw_i2l hC dX8_factorial_11 ?_
      refine aw_lmul hC dX8_factorial_12 ?_
      refine aw_lstore_n hC dX8_factorial_13 (by decide) ?_
      refine aw_iinc hC dX8_factorial_14 rfl (v := x3 + 1) (by first | rfl | decide) (by decide) ?_
      refine aw_goto hC dX8_factorial_17 (tgt := 4) (by decide) ?_
      refine aw_sub [0, 1, 3] ?_
      exact ih4 (x1 * x3.toInt64) (x3 + 1)
set_option maxHeartbeats 4000000 in
set_option maxRecDepth 100000 in
theorem A_X8_factorial (l : Launch) (hl0 : l.stackTraces = false) (D : va_G) (loc : Rf → Nat) (cy : Nat → ClassId) (p1 : Int32) (h : HD) : AM l D loc cy yX8_factorial cX8_factorial 4 (some .long) 0 16 [.int p1] h ((jX8_factorial p1 h).map (fun r => (.inr (some (.long r)), h))) := by
  refine am_start (y := yX8_factorial) (av := [.int p1]) (nL := 4) (h := h) (RF := fun (r : Option Int64) => r.map (fun r => (.inr (some (.long r)), h))) (x := jX8_factorial p1 h) hl0 (by decide +kernel) rfl ?_
  intro p e R s m below meth c A hC
  unfold jX8_factorial
  refine aw_lconst hC dX8_factorial_0 (v := 1) (by decide) ?_
  refine aw_lstore_n hC dX8_factorial_1 (by decide) ?_
  refine aw_iconst hC dX8_factorial_2 (v := 2) (by decide) ?_
  refine aw_istore_n hC dX8_factorial_3 (by decide) ?_
  refine aw_sub [0, 1, 3] ?_
  exact L_X8_factorial_4 p1 h  hC FU (1 : Int64) (2 : Int32)
set_option maxHeartbeats 4000000 in
set_option maxRecDepth 100000 in
theorem L_X8_arrangements_13 (h : HD) (hC : Cx p l e R s m args meth c D loc cy A cX8_arrangements 6 (some .long) RX8 3 81 0 0)  : ∀ (n13 : Nat) (x1 : Int64) (x3 : Int32), AW p l e R s m args below meth c D loc cy A 6 (QM below D loc cy A args s) (fun (r : Option Int64) => r.map (fun r => (.inr (some (.long r)), h))) (0, 0) 13 [(0, .ref (loc (6, 0, 0))), (1, .long x1), (3, .int x3)] [] h (jX8_arrangements_L13 h n13 x1 x3) := by
  intro n13
  induction n13 with
  | zero => intro x1 x3; exact aw_none rfl
  | succ n13 ih13 =>
    intro x1 x3
    rw [jX8_arrangements_L13]
    refine aw_iload_n hC dX8_arrangements_13 rfl ?_
    refine aw_aload_n hC dX8_arrangements_14 rfl ?_
    refine aw_gfR hC dX8_arrangements_15 fg_RX8_42 rfl rfl rm_6_0_0 ?_
    refine aw_cVi hC dX8_arrangements_18 cv_RX8_305 rfl rm_1_0_0 (A_X2_spots _ (hC.2.2.2.2.2.2.2.2.2.2.2.2.1) _ _ _ 0 (by decide) h) rfl rfl rfl rfl rfl ⟨rfl, rfl⟩ ?_
    refine aw_icmp_ge hC dX8_arrangements_21 (tgt := 55) (by decide) ?_ ?_
    · refine aw_lload_n hC dX8_arrangements_55 rfl ?_
      exact aw_lret hC dX8_arrangements_56 rfl rfl
    · refine aw_aload_n hC dX8_arrangements_24 rfl ?_
      refine aw_gfR hC dX8_arrangements_25 fg_RX8_42 rfl rfl rm_6_0_0 ?_
      refine aw_iload_n hC dX8_arrangements_28 rfl ?_
      refine aw_bind rfl (fun q2 hq2 => ?_)
      refine aw_cVi hC dX8_arrangements_29 cv_RX8_276 rfl rm_1_0_0 (am_some (inj := (fun r => (.inr (some (.int r)), h))) hq2 (A_X2_wishesFor _ (hC.2.2.2.2.2.2.2.2.2.2.2.2.1) _ _ _ 0 (by decide) x3 h)) rfl rfl rfl rfl rfl ⟨rfl, rfl⟩ ?_
      refine aw_bind rfl (fun q3 hq3 => ?_)
      refine aw_cSj hC dX8_arrangements_32 cv_RX8_360 (am_some (inj := (fun r => (.inr (some (.long r)), h))) hq3 (A_X8_factorial _ (hC.2.2.2.2.2.2.2.2.2.2.2.2.1) _ _ _ q2 h)) rfl rfl rfl rfl rfl ⟨rfl, rfl⟩ ?_
      refine aw_lstore hC dX8_arrangements_35 (by decide) ?_
      refine aw_lload hC dX8_arrangements_37 rfl ?_
      refine aw_lconst hC dX8_arrangements_39 (v := 1) (by decide) ?_
      refine aw_lcmp hC dX8_arrangements_40 ?_
      refine aw_if_le hC dX8_arrangements_41 (tgt := 49) (by decide) ?_ ?_
      · refine aw_iinc hC dX8_arrangements_49 rfl (v := x3 + 1) (by first | rfl | decide) (by decide) ?_
        refine aw_goto hC dX8_arrangements_52 (tgt := 13) (by decide) ?_
        refine aw_sub [0, 1, 3] ?_
        exact ih13 x1 (x3 + 1)
      · refine aw_lload_n hC dX8_arrangements_44 rfl ?_
        refine aw_lload hC dX8_arrangements_45 rfl ?_
        refine aw_guardN rfl (fun g4 => ?_)
        refine aw_ldiv hC dX8_arrangements_47 g4 ?_
        refine aw_lstore_n hC dX8_arrangements_48 (by decide) ?_
        refine aw_iinc hC dX8_arrangements_49 rfl (v := x3 + 1) (by first | rfl | decide) (by decide) ?_
        refine aw_goto hC dX8_arrangements_52 (tgt := 13) (by decide) ?_
        refine aw_sub [0, 1, 3] ?_
        exact ih13 (x1 / q3) (x3 + 1)
set_option maxHeartbeats 4000000 in
set_option maxRecDepth 100000 in
theorem A_X8_arrangements (l : Launch) (hl0 : l.stackTraces = false) (D : va_G) (loc : Rf → Nat) (cy : Nat → ClassId)  (h : HD) : AM l D loc cy yX8_arrangements cX8_arrangements 6 (some .long) 3 81 [.ref (loc (6, 0, 0))] h ((jX8_arrangements h).map (fun r => (.inr (some (.long r)), h))) := by
  refine am_start (y := yX8_arrangements) (av := [.ref (loc (6, 0, 0))]) (nL := 6) (h := h) (RF := fun (r : Option Int64) => r.map (fun r => (.inr (some (.long r)), h))) (x := jX8_arrangements h) hl0 (by decide +kernel) rfl ?_
  intro p e R s m below meth c A hC
  unfold jX8_arrangements
  refine aw_aload_n hC dX8_arrangements_0 rfl ?_
  refine aw_gfR hC dX8_arrangements_1 fg_RX8_42 rfl rfl rm_6_0_0 ?_
  refine aw_cVi hC dX8_arrangements_4 cv_RX8_138 rfl rm_1_0_0 (A_X2_count _ (hC.2.2.2.2.2.2.2.2.2.2.2.2.1) _ _ _ 0 (by decide) h) rfl rfl rfl rfl rfl ⟨rfl, rfl⟩ ?_
  refine aw_bind rfl (fun q1 hq1 => ?_)
  refine aw_cSj hC dX8_arrangements_7 cv_RX8_360 (am_some (inj := (fun r => (.inr (some (.long r)), h))) hq1 (A_X8_factorial _ (hC.2.2.2.2.2.2.2.2.2.2.2.2.1) _ _ _ (jX2_count 0 h) h)) rfl rfl rfl rfl rfl ⟨rfl, rfl⟩ ?_
  refine aw_lstore_n hC dX8_arrangements_10 (by decide) ?_
  refine aw_iconst hC dX8_arrangements_11 (v := 0) (by decide) ?_
  refine aw_istore_n hC dX8_arrangements_12 (by decide) ?_
  refine aw_sub [0, 1, 3] ?_
  exact L_X8_arrangements_13 h  hC FU q1 (0 : Int32)
set_option maxHeartbeats 4000000 in
set_option maxRecDepth 100000 in
theorem L_X8_all_4 (h : HD) (hC : Cx p l e R s m args meth c D loc cy A cX8_all 4 (some .long) RX8 1 36 0 0)  : ∀ (n4 : Nat) (x1 : Int64) (x3 : Int32), AW p l e R s m args below meth c D loc cy A 4 (QM below D loc cy A args s) (fun (r : Option Int64) => r.map (fun r => (.inr (some (.long r)), h))) (0, 0) 4 [(0, .ref (loc (6, 0, 0))), (1, .long x1), (3, .int x3)] [] h (jX8_all_L4 h n4 x1 x3) := by
  intro n4
  induction n4 with
  | zero => intro x1 x3; exact aw_none rfl
  | succ n4 ih4 =>
    intro x1 x3
    rw [jX8_all_L4]
    refine aw_iload_n hC dX8_all_4 rfl ?_
    refine aw_aload_n hC dX8_all_5 rfl ?_
    refine aw_gfR hC dX8_all_6 fg_RX8_42 rfl rfl rm_6_0_0 ?_
    refine aw_cVi hC dX8_all_9 cv_RX8_138 rfl rm_1_0_0 (A_X2_count _ (hC.2.2.2.2.2.2.2.2.2.2.2.2.1) _ _ _ 0 (by decide) h) rfl rfl rfl rfl rfl ⟨rfl, rfl⟩ ?_
    refine aw_icmp_ge hC dX8_all_12 (tgt := 32) (by decide) ?_ ?_
    · refine aw_lload_n hC dX8_all_32 rfl ?_
      exact aw_lret hC dX8_all_33 rfl rfl
    · refine aw_lload_n hC dX8_all_15 rfl ?_
      refine aw_aload_n hC dX8_all_16 rfl ?_
      refine aw_gfR hC dX8_all_17 fg_RX8_42 rfl rfl rm_6_0_0 ?_
      refine aw_cVi hC dX8_all_20 cv_RX8_305 rfl rm_1_0_0 (A_X2_spots _ (hC.2.2.2.2.2.2.2.2.2.2.2.2.1) _ _ _ 0 (by decide) h) rfl rfl rfl rfl rfl ⟨rfl, rfl⟩ ?_
      refine aw_i2l hC dX8_all_23 ?_
      refine aw_lmul hC dX8_all_24 ?_
      refine aw_lstore_n hC dX8_all_25 (by decide) ?_
      refine aw_iinc hC dX8_all_26 rfl (v := x3 + 1) (by first | rfl | decide) (by decide) ?_
      refine aw_goto hC dX8_all_29 (tgt := 4) (by decide) ?_
      refine aw_sub [0, 1, 3] ?_
      exact ih4 (x1 * ((jX2_spots 0 h).toInt64)) (x3 + 1)
set_option maxHeartbeats 4000000 in
set_option maxRecDepth 100000 in
theorem A_X8_all (l : Launch) (hl0 : l.stackTraces = false) (D : va_G) (loc : Rf → Nat) (cy : Nat → ClassId)  (h : HD) : AM l D loc cy yX8_all cX8_all 4 (some .long) 1 36 [.ref (loc (6, 0, 0))] h ((jX8_all h).map (fun r => (.inr (some (.long r)), h))) := by
  refine am_start (y := yX8_all) (av := [.ref (loc (6, 0, 0))]) (nL := 4) (h := h) (RF := fun (r : Option Int64) => r.map (fun r => (.inr (some (.long r)), h))) (x := jX8_all h) hl0 (by decide +kernel) rfl ?_
  intro p e R s m below meth c A hC
  unfold jX8_all
  refine aw_lconst hC dX8_all_0 (v := 1) (by decide) ?_
  refine aw_lstore_n hC dX8_all_1 (by decide) ?_
  refine aw_iconst hC dX8_all_2 (v := 1) (by decide) ?_
  refine aw_istore_n hC dX8_all_3 (by decide) ?_
  refine aw_sub [0, 1, 3] ?_
  exact L_X8_all_4 h  hC FU (1 : Int64) (1 : Int32)
set_option maxHeartbeats 4000000 in
set_option maxRecDepth 100000 in
theorem A_X4_turnedSpotOf (l : Launch) (hl0 : l.stackTraces = false) (D : va_G) (loc : Rf → Nat) (cy : Nat → ClassId) (o : Nat) (ho : o < 2) (p1 : Int32) (h : HD) : AM l D loc cy yX4_turnedSpotOf cX4_turnedSpotOf 2 (some .int) 2 59 [.ref (loc (2, o, 0)), .int p1] h ((jX4_turnedSpotOf o p1 h).map (fun r => (.inr (some (.int r)), h))) := by
  refine am_start (y := yX4_turnedSpotOf) (av := [.ref (loc (2, o, 0)), .int p1]) (nL := 2) (h := h) (RF := fun (r : Option Int32) => r.map (fun r => (.inr (some (.int r)), h))) (x := jX4_turnedSpotOf o p1 h) hl0 (by decide +kernel) rfl ?_
  intro p e R s m below meth c A hC
  unfold jX4_turnedSpotOf
  refine aw_aload_n hC dX4_turnedSpotOf_0 rfl ?_
  refine aw_iload_n hC dX4_turnedSpotOf_1 rfl ?_
  refine aw_bind rfl (fun q1 hq1 => ?_)
  refine aw_cVi hC dX4_turnedSpotOf_2 cv_RX4_93 rfl (rv_2_0 ho) (am_some (inj := (fun r => (.inr (some (.int r)), h))) hq1 (A_X4_spotOf _ (hC.2.2.2.2.2.2.2.2.2.2.2.2.1) _ _ _ o ho p1 h)) rfl rfl rfl rfl rfl ⟨rfl, rfl⟩ ?_
  refine aw_aload_n hC dX4_turnedSpotOf_5 rfl ?_
  refine aw_cVi hC dX4_turnedSpotOf_6 cv_RX4_96 rfl (rv_2_0 ho) (A_X4_turnNumber _ (hC.2.2.2.2.2.2.2.2.2.2.2.2.1) _ _ _ o ho h) rfl rfl rfl rfl rfl ⟨rfl, rfl⟩ ?_
  refine aw_iadd hC dX4_turnedSpotOf_9 ?_
  refine aw_aload_n hC dX4_turnedSpotOf_10 rfl ?_
  refine aw_gfI hC dX4_turnedSpotOf_11 fg_RX4_24 rfl (rv_2_0 ho) ?_
  refine aw_bind rfl (fun q2 hq2 => ?_)
  refine aw_cNi hC dX4_turnedSpotOf_14 cv_RX4_83 (am_some (inj := (fun r => (.inr (some (.int r)), h))) hq2 (A_X8_wrapped _ (hC.2.2.2.2.2.2.2.2.2.2.2.2.1) _ _ _ (q1 + (jX4_turnNumber o h)) (gI h (2, o, 0) 4) h)) rfl rfl rfl rfl rfl ⟨rfl, rfl⟩ ?_
  exact aw_iret hC dX4_turnedSpotOf_17 rfl rfl
set_option maxHeartbeats 4000000 in
set_option maxRecDepth 100000 in
theorem L_X8_inversions_23 (x3 : Int32) (h : HD) (k52 : Int32 → Option (Int32 × HD)) (hC : Cx p l e R s m args meth c D loc cy A cX8_inversions 5 (some .int) RX8 7 168 0 0) (hk52 : ∀ (x2 : Int32), AW p l e R s m args below meth c D loc cy A 5 (QM below D loc cy A args s) (fun (r : Option (Int32 × HD)) => r.map (fun r => (.inr (some (.int r.1)), r.2))) (0, 0) 52 [(0, .ref (loc (6, 0, 0))), (1, .ref (loc (2, 0, 0))), (2, .int x2), (3, .int x3)] [] h (k52 x2)) : ∀ (n23 : Nat) (x2 : Int32) (x4 : Int32), AW p l e R s m args below meth c D loc cy A 5 (QM below D loc cy A args s) (fun (r : Option (Int32 × HD)) => r.map (fun r => (.inr (some (.int r.1)), r.2))) (0, 0) 23 [(0, .ref (loc (6, 0, 0))), (1, .ref (loc (2, 0, 0))), (2, .int x2), (3, .int x3), (4, .int x4)] [] h (jX8_inversions_L23 x3 h k52 n23 x2 x4) := by
  intro n23
  induction n23 with
  | zero => intro x2 x4; exact aw_none rfl
  | succ n23 ih23 =>
    intro x2 x4
    rw [jX8_inversions_L23]
    refine aw_iload hC dX8_inversions_23 rfl ?_
    refine aw_iload_n hC dX8_inversions_25 rfl ?_
    refine aw_icmp_ge hC dX8_inversions_26 (tgt := 52) (by decide) ?_ ?_
    · refine aw_sub [0, 1, 2, 3] ?_
      exact hk52 x2
    · refine aw_aload_n hC dX8_inversions_29 rfl ?_
      refine aw_iload hC dX8_inversions_30 rfl ?_
      refine aw_bind rfl (fun q2 hq2 => ?_)
      refine aw_cVi hC dX8_inversions_32 cv_RX8_363 rfl rm_2_0_0 (am_some (inj := (fun r => (.inr (some (.int r)), h))) hq2 (A_X4_turnedSpotOf _ (hC.2.2.2.2.2.2.2.2.2.2.2.2.1) _ _ _ 0 (by decide) x4 h)) rfl rfl rfl rfl rfl ⟨rfl, rfl⟩ ?_
      refine aw_aload_n hC dX8_inversions_35 rfl ?_
      refine aw_iload_n hC dX8_inversions_36 rfl ?_
      refine aw_bind rfl (fun q3 hq3 => ?_)
      refine aw_cVi hC dX8_inversions_37 cv_RX8_363 rfl rm_2_0_0 (am_some (inj := (fun r => (.inr (some (.int r)), h))) hq3 (A_X4_turnedSpotOf _ (hC.2.2.2.2.2.2.2.2.2.2.2.2.1) _ _ _ 0 (by decide) x3 h)) rfl rfl rfl rfl rfl ⟨rfl, rfl⟩ ?_
      refine aw_icmp_le hC dX8_inversions_40 (tgt := 46) (by decide) ?_ ?_
      · refine aw_iinc hC dX8_inversions_46 rfl (v := x4 + 1) (by first | rfl | decide) (by decide) ?_
        refine aw_goto hC dX8_inversions_49 (tgt := 23) (by decide) ?_
        refine aw_sub [0, 1, 2, 3, 4] ?_
        exact ih23 x2 (x4 + 1)
      · refine aw_iinc hC dX8_inversions_43 rfl (v := x2 + 1) (by first | rfl | decide) (by decide) ?_
        refine aw_iinc hC dX8_inversions_46 rfl (v := x4 + 1) (by first | rfl | decide) (by decide) ?_
        refine aw_goto hC dX8_inversions_49 (tgt := 23) (by decide) ?_
        refine aw_sub [0, 1, 2, 3, 4] ?_
        exact ih23 (x2 + 1) (x4 + 1)
set_option maxHeartbeats 4000000 in
set_option maxRecDepth 100000 in
theorem L_X8_inversions_9 (h : HD) (hC : Cx p l e R s m args meth c D loc cy A cX8_inversions 5 (some .int) RX8 7 168 0 0)  : ∀ (n9 : Nat) (x2 : Int32) (x3 : Int32), AW p l e R s m args below meth c D loc cy A 5 (QM below D loc cy A args s) (fun (r : Option (Int32 × HD)) => r.map (fun r => (.inr (some (.int r.1)), r.2))) (0, 0) 9 [(0, .ref (loc (6, 0, 0))), (1, .ref (loc (2, 0, 0))), (2, .int x2), (3, .int x3)] [] h (jX8_inversions_L9 h n9 x2 x3) := by
  intro n9
  induction n9 with
  | zero => intro x2 x3; exact aw_none rfl
  | succ n9 ih9 =>
    intro x2 x3
    rw [jX8_inversions_L9]
    refine aw_iload_n hC dX8_inversions_9 rfl ?_
    refine aw_aload_n hC dX8_inversions_10 rfl ?_
    refine aw_gfR hC dX8_inversions_11 fg_RX8_42 rfl rfl rm_6_0_0 ?_
    refine aw_cVi hC dX8_inversions_14 cv_RX8_138 rfl rm_1_0_0 (A_X2_count _ (hC.2.2.2.2.2.2.2.2.2.2.2.2.1) _ _ _ 0 (by decide) h) rfl rfl rfl rfl rfl ⟨rfl, rfl⟩ ?_
    refine aw_icmp_ge hC dX8_inversions_17 (tgt := 58) (by decide) ?_ ?_
    · refine aw_iload_n hC dX8_inversions_58 rfl ?_
      exact aw_iret hC dX8_inversions_59 rfl rfl
    · refine aw_iconst hC dX8_inversions_20 (v := 0) (by decide) ?_
      refine aw_istore hC dX8_inversions_21 (by decide) ?_
      refine aw_sub [0, 1, 2, 3, 4] ?_
      refine L_X8_inversions_23 x3 h _ hC ?_ FU x2 (0 : Int32)
      · intro y23_2
        refine aw_iinc hC dX8_inversions_52 rfl (v := x3 + 1) (by first | rfl | decide) (by decide) ?_
        refine aw_goto hC dX8_inversions_55 (tgt := 9) (by decide) ?_
        refine aw_sub [0, 1, 2, 3] ?_
        exact ih9 y23_2 (x3 + 1)
set_option maxHeartbeats 4000000 in
set_option maxRecDepth 100000 in
theorem A_X8_inversions (l : Launch) (hl0 : l.stackTraces = false) (D : va_G) (loc : Rf → Nat) (cy : Nat → ClassId)  (h : HD) : AM l D loc cy yX8_inversions cX8_inversions 5 (some .int) 7 168 [.ref (loc (6, 0, 0))] h ((jX8_inversions h).map (fun r => (.inr (some (.int r.1)), r.2))) := by
  refine am_start (y := yX8_inversions) (av := [.ref (loc (6, 0, 0))]) (nL := 5) (h := h) (RF := fun (r : Option (Int32 × HD)) => r.map (fun r => (.inr (some (.int r.1)), r.2))) (x := jX8_inversions h) hl0 (by decide +kernel) rfl ?_
  intro p e R s m below meth c A hC
  unfold jX8_inversions
  refine aw_aload_n hC dX8_inversions_0 rfl ?_
  refine aw_bind rfl (fun q1 hq1 => ?_)
  refine aw_cVr hC dX8_inversions_1 cv_RX8_245 rfl rm_6_0_0 (am_some (inj := (fun r => (.inr (some (.ref (loc (2, 0, 0)))), r))) hq1 (A_X8_parked _ (hC.2.2.2.2.2.2.2.2.2.2.2.2.1) _ _ _ h)) rfl rfl rfl rfl rfl ⟨rfl, rfl⟩ ?_
  refine aw_astore_n hC dX8_inversions_4 (by decide) ?_
  refine aw_iconst hC dX8_inversions_5 (v := 0) (by decide) ?_
  refine aw_istore_n hC dX8_inversions_6 (by decide) ?_
  refine aw_iconst hC dX8_inversions_7 (v := 1) (by decide) ?_
  refine aw_istore_n hC dX8_inversions_8 (by decide) ?_
  refine aw_sub [0, 1, 2, 3] ?_
  exact L_X8_inversions_9 q1  hC FU (0 : Int32) (1 : Int32)
set_option maxHeartbeats 4000000 in
set_option maxRecDepth 100000 in
theorem L_X8_descents_4 (h : HD) (hC : Cx p l e R s m args meth c D loc cy A cX8_descents 3 (some .int) RX8 2 58 0 0)  : ∀ (n4 : Nat) (x1 : Int32) (x2 : Int32), AW p l e R s m args below meth c D loc cy A 3 (QM below D loc cy A args s) (fun (r : Option Int32) => r.map (fun r => (.inr (some (.int r)), h))) (0, 0) 4 [(0, .ref (loc (6, 0, 0))), (1, .int x1), (2, .int x2)] [] h (jX8_descents_L4 h n4 x1 x2) := by
  intro n4
  induction n4 with
  | zero => intro x1 x2; exact aw_none rfl
  | succ n4 ih4 =>
    intro x1 x2
    rw [jX8_descents_L4]
    refine aw_iload_n hC dX8_descents_4 rfl ?_
    refine aw_aload_n hC dX8_descents_5 rfl ?_
    refine aw_gfR hC dX8_descents_6 fg_RX8_42 rfl rfl rm_6_0_0 ?_
    refine aw_cVi hC dX8_descents_9 cv_RX8_138 rfl rm_1_0_0 (A_X2_count _ (hC.2.2.2.2.2.2.2.2.2.2.2.2.1) _ _ _ 0 (by decide) h) rfl rfl rfl rfl rfl ⟨rfl, rfl⟩ ?_
    refine aw_icmp_ge hC dX8_descents_12 (tgt := 45) (by decide) ?_ ?_
    · refine aw_iload_n hC dX8_descents_45 rfl ?_
      exact aw_iret hC dX8_descents_46 rfl rfl
    · refine aw_aload_n hC dX8_descents_15 rfl ?_
      refine aw_gfR hC dX8_descents_16 fg_RX8_42 rfl rfl rm_6_0_0 ?_
      refine aw_iload_n hC dX8_descents_19 rfl ?_
      refine aw_bind rfl (fun q1 hq1 => ?_)
      refine aw_cVi hC dX8_descents_20 cv_RX8_249 rfl rm_1_0_0 (am_some (inj := (fun r => (.inr (some (.int r)), h))) hq1 (A_X2_preferenceOf _ (hC.2.2.2.2.2.2.2.2.2.2.2.2.1) _ _ _ 0 (by decide) x2 h)) rfl rfl rfl rfl rfl ⟨rfl, rfl⟩ ?_
      refine aw_aload_n hC dX8_descents_23 rfl ?_
      refine aw_gfR hC dX8_descents_24 fg_RX8_42 rfl rfl rm_6_0_0 ?_
      refine aw_iload_n hC dX8_descents_27 rfl ?_
      refine aw_iconst hC dX8_descents_28 (v := 1) (by decide) ?_
      refine aw_isub hC dX8_descents_29 ?_
      refine aw_bind rfl (fun q2 hq2 => ?_)
      refine aw_cVi hC dX8_descents_30 cv_RX8_249 rfl rm_1_0_0 (am_some (inj := (fun r => (.inr (some (.int r)), h))) hq2 (A_X2_preferenceOf _ (hC.2.2.2.2.2.2.2.2.2.2.2.2.1) _ _ _ 0 (by decide) (x2 - (1 : Int32)) h)) rfl rfl rfl rfl rfl ⟨rfl, rfl⟩ ?_
      refine aw_icmp_ge hC dX8_descents_33 (tgt := 39) (by decide) ?_ ?_
      · refine aw_iinc hC dX8_descents_39 rfl (v := x2 + 1) (by first | rfl | decide) (by decide) ?_
        refine aw_goto hC dX8_descents_42 (tgt := 4) (by decide) ?_
        refine aw_sub [0, 1, 2] ?_
        exact ih4 x1 (x2 + 1)
      · refine aw_iinc hC dX8_descents_36 rfl (v := x1 + 1) (by first | rfl | decide) (by decide) ?_
        refine aw_iinc hC dX8_descents_39 rfl (v := x2 + 1) (by first | rfl | decide) (by decide) ?_
        refine aw_goto hC dX8_descents_42 (tgt := 4) (by decide) ?_
        refine aw_sub [0, 1, 2] ?_
        exact ih4 (x1 + 1) (x2 + 1)
set_option maxHeartbeats 4000000 in
set_option maxRecDepth 100000 in
theorem A_X8_descents (l : Launch) (hl0 : l.stackTraces = false) (D : va_G) (loc : Rf → Nat) (cy : Nat → ClassId)  (h : HD) : AM l D loc cy yX8_descents cX8_descents 3 (some .int) 2 58 [.ref (loc (6, 0, 0))] h ((jX8_descents h).map (fun r => (.inr (some (.int r)), h))) := by
  refine am_start (y := yX8_descents) (av := [.ref (loc (6, 0, 0))]) (nL := 3) (h := h) (RF := fun (r : Option Int32) => r.map (fun r => (.inr (some (.int r)), h))) (x := jX8_descents h) hl0 (by decide +kernel) rfl ?_
  intro p e R s m below meth c A hC
  unfold jX8_descents
  refine aw_iconst hC dX8_descents_0 (v := 0) (by decide) ?_
  refine aw_istore_n hC dX8_descents_1 (by decide) ?_
  refine aw_iconst hC dX8_descents_2 (v := 1) (by decide) ?_
  refine aw_istore_n hC dX8_descents_3 (by decide) ?_
  refine aw_sub [0, 1, 2] ?_
  exact L_X8_descents_4 h  hC FU (0 : Int32) (1 : Int32)
set_option maxHeartbeats 4000000 in
set_option maxRecDepth 100000 in
theorem A_X7_isNode (l : Launch) (hl0 : l.stackTraces = false) (D : va_G) (loc : Rf → Nat) (cy : Nat → ClassId) (p1 : Int32) (h : HD) : AM l D loc cy yX7_isNode cX7_isNode 2 (some .boolean) 0 16 [.ref (loc (5, 0, 0)), .int p1] h (some (.inr (some (.int (b2i (jX7_isNode p1 h)))), h)) := by
  refine am_start (y := yX7_isNode) (av := [.ref (loc (5, 0, 0)), .int p1]) (nL := 2) (h := h) (RF := fun (r : Bool) => some (.inr (some (.int (b2i r))), h)) (x := jX7_isNode p1 h) hl0 (by decide +kernel) rfl ?_
  intro p e R s m below meth c A hC
  unfold jX7_isNode
  refine aw_iload_n hC dX7_isNode_0 rfl ?_
  refine aw_if_lt hC dX7_isNode_1 (tgt := 22) (by decide) ?_ ?_
  · refine aw_iconst hC dX7_isNode_22 (v := 0) (by decide) ?_
    exact aw_zret hC dX7_isNode_23 rfl (show _ = b2i false from rfl) rfl
  · refine aw_iload_n hC dX7_isNode_4 rfl ?_
    refine aw_aload_n hC dX7_isNode_5 rfl ?_
    refine aw_gfI hC dX7_isNode_6 fg_RX7_33 rfl rm_5_0_0 ?_
    refine aw_icmp_ge hC dX7_isNode_9 (tgt := 22) (by decide) ?_ ?_
    · refine aw_iconst hC dX7_isNode_22 (v := 0) (by decide) ?_
      exact aw_zret hC dX7_isNode_23 rfl (show _ = b2i false from rfl) rfl
    · refine aw_iload_n hC dX7_isNode_12 rfl ?_
      refine aw_bipush hC dX7_isNode_13 (v := 12) (by decide) ?_
      refine aw_icmp_ge hC dX7_isNode_15 (tgt := 22) (by decide) ?_ ?_
      · refine aw_iconst hC dX7_isNode_22 (v := 0) (by decide) ?_
        exact aw_zret hC dX7_isNode_23 rfl (show _ = b2i false from rfl) rfl
      · refine aw_iconst hC dX7_isNode_18 (v := 1) (by decide) ?_
        refine aw_goto hC dX7_isNode_19 (tgt := 23) (by decide) ?_
        exact aw_zret hC dX7_isNode_23 rfl (show _ = b2i true from rfl) rfl
end PRF
