def Y_X1_init (cy : Nat → ClassId) (h0 : Nat) (n : Nat) (f : Nat → Nat) : va_W := [(h0, .inr (0, [.ref (f 0), .int 0])), ((f 0), .inl (cy 0, n, .inl (fun _ => 0)))]
theorem I_X1_init (l : Launch) (D : va_G) (cy : Nat → ClassId) (h0 : Nat) (N : Int32) (n : Nat) (hn0 : ¬ N < 0) (hn1 : N.toNatClampNeg = n) (hn2 : Nat.ble (n * componentBytes .byte) 536870912 = true) : IM l D cy yX1_init cX1_init 2 none 1 12 1 n [.ref h0, .int N] [(h0, .inr (0, [.null, .int 0]))] (Y_X1_init cy h0 n) none := by
  refine im_start (y := yX1_init) (av := [.ref h0, .int N]) (nL := 2) (by decide +kernel) rfl ?_
  intro p e R s m below meth c A hC hA
  have hn3 : (0 : Int32) ≤ N := Int32.not_lt.mp hn0
  refine iw_aload_n hC dX1_init_0 rfl ?_
  refine iw_objInit hC dX1_init_1 tw1_44 tw1_31 tw1_32 rfl rfl ?_
  refine iw_aload_n hC dX1_init_4 rfl ?_
  refine iw_iconst hC dX1_init_5 (v := 0) (by decide) ?_
  refine iw_put (q0 := 0) hC dX1_init_6 fg_RX1_9 fq_0_1 rfl rfl (by decide) rfl ?_
  refine iw_eq (ws2 := ([(h0, .inr (0, [.null, .int 0]))])) rfl ?_
  refine iw_aload_n hC dX1_init_9 rfl ?_
  refine iw_iload_n hC dX1_init_10 rfl ?_
  refine iw_if_ge_t hC dX1_init_11 (tgt := 18) (by decide) hn3 ?_
  refine iw_iload_n hC dX1_init_18 rfl ?_
  refine iw_newa (atype := .byte) (t := 0) (N := n) (a0 := (n, .inl (fun _ => 0))) hC dX1_init_19 tw1_52 rfl rfl ra_byte (fun _ => rfl) hn0 hn1 hn2 ⟨rfl, ble_le (Nat.le_of_eq (Nat.zero_add _))⟩ (fun q1 => ?_)
  refine iw_putF (q0 := 0) hC dX1_init_21 fg_RX1_15 ff_0_0 rfl rfl rfl rfl rfl ?_
  refine iw_eq (ws2 := ([(h0, .inr (0, [.ref q1, .int 0])), (q1, .inl (cy 0, n, .inl (fun _ => 0)))])) rfl ?_
  exact iw_vret (fun i => ([q1] : List Nat).getD i 0) hC hA dX1_init_24 rfl rfl (ble_le (Nat.le_of_eq (Nat.zero_add _))) rfl
def Y_X2_init (cy : Nat → ClassId) (h0 : Nat) (f : Nat → Nat) : va_W := [(h0, .inr (1, [.ref (f 0), .ref (f 1), .int 0, .int 0])), ((f 0), .inl (cy 2, 11, .inr (.inl (fun _ => 0)))), ((f 1), .inl (cy 1, 11, .inl (fun _ => 0)))]
theorem I_X2_init (l : Launch) (D : va_G) (cy : Nat → ClassId) (h0 : Nat) : IM l D cy yX2_init cX2_init 1 none 1 12 2 22 [.ref h0] [(h0, .inr (1, [.null, .null, .int 0, .int 0]))] (Y_X2_init cy h0) none := by
  refine im_start (y := yX2_init) (av := [.ref h0]) (nL := 1) (by decide +kernel) rfl ?_
  intro p e R s m below meth c A hC hA
  refine iw_aload_n hC dX2_init_0 rfl ?_
  refine iw_objInit hC dX2_init_1 tw1_124 tw1_31 tw1_32 rfl rfl ?_
  refine iw_aload_n hC dX2_init_4 rfl ?_
  refine iw_bipush hC dX2_init_5 (v := 11) (by decide) ?_
  refine iw_newa (atype := .long) (t := 2) (N := 11) (a0 := (11, .inr (.inl (fun _ => 0)))) hC dX2_init_7 tw1_117 rfl rfl ra_long (fun _ => rfl) (by decide) (by decide) rfl ⟨rfl, rfl⟩ (fun q1 => ?_)
  refine iw_putF (q0 := 0) hC dX2_init_9 fg_RX2_9 ff_1_0 rfl rfl rfl rfl rfl ?_
  refine iw_eq (ws2 := ([(h0, .inr (1, [.ref q1, .null, .int 0, .int 0])), (q1, .inl (cy 2, 11, .inr (.inl (fun _ => 0))))])) rfl ?_
  refine iw_aload_n hC dX2_init_12 rfl ?_
  refine iw_bipush hC dX2_init_13 (v := 11) (by decide) ?_
  refine iw_newa (atype := .int) (t := 1) (N := 11) (a0 := (11, .inl (fun _ => 0))) hC dX2_init_15 tw1_118 rfl rfl ra_int (fun _ => rfl) (by decide) (by decide) rfl ⟨rfl, rfl⟩ (fun q2 => ?_)
  refine iw_putF (q0 := 0) hC dX2_init_17 fg_RX2_15 ff_1_1 rfl rfl rfl rfl rfl ?_
  refine iw_eq (ws2 := ([(h0, .inr (1, [.ref q1, .ref q2, .int 0, .int 0])), (q1, .inl (cy 2, 11, .inr (.inl (fun _ => 0)))), (q2, .inl (cy 1, 11, .inl (fun _ => 0)))])) rfl ?_
  refine iw_aload_n hC dX2_init_20 rfl ?_
  refine iw_iconst hC dX2_init_21 (v := 0) (by decide) ?_
  refine iw_put (q0 := 0) hC dX2_init_22 fg_RX2_19 fq_1_2 rfl rfl (by decide) rfl ?_
  refine iw_eq (ws2 := ([(h0, .inr (1, [.ref q1, .ref q2, .int 0, .int 0])), (q1, .inl (cy 2, 11, .inr (.inl (fun _ => 0)))), (q2, .inl (cy 1, 11, .inl (fun _ => 0)))])) rfl ?_
  refine iw_aload_n hC dX2_init_25 rfl ?_
  refine iw_iconst hC dX2_init_26 (v := 0) (by decide) ?_
  refine iw_put (q0 := 0) hC dX2_init_27 fg_RX2_23 fq_1_3 rfl rfl (by decide) rfl ?_
  refine iw_eq (ws2 := ([(h0, .inr (1, [.ref q1, .ref q2, .int 0, .int 0])), (q1, .inl (cy 2, 11, .inr (.inl (fun _ => 0)))), (q2, .inl (cy 1, 11, .inl (fun _ => 0)))])) rfl ?_
  exact iw_vret (fun i => ([q1, q2] : List Nat).getD i 0) hC hA dX2_init_30 rfl rfl rfl rfl
def Y_X4_init (cy : Nat → ClassId) (h0 : Nat) (f : Nat → Nat) : va_W := [(h0, .inr (2, [.ref (f 0), .ref (f 1), .ref (f 2), .ref (f 3), .int 0, .int 0, .int 1, .int 0, .int (-1)])), ((f 0), .inl (cy 1, 11, .inl (fun _ => 0))), ((f 1), .inl (cy 1, 11, .inl (fun _ => 0))), ((f 2), .inl (cy 1, 11, .inl (fun _ => 0))), ((f 3), .inl (cy 1, 12, .inl (fun _ => 0)))]
theorem I_X4_init (l : Launch) (D : va_G) (cy : Nat → ClassId) (h0 : Nat) : IM l D cy yX4_init cX4_init 1 none 1 12 4 45 [.ref h0] [(h0, .inr (2, [.null, .null, .null, .null, .int 0, .int 0, .int 0, .int 0, .int 0]))] (Y_X4_init cy h0) none := by
  refine im_start (y := yX4_init) (av := [.ref h0]) (nL := 1) (by decide +kernel) rfl ?_
  intro p e R s m below meth c A hC hA
  refine iw_aload_n hC dX4_init_0 rfl ?_
  refine iw_objInit hC dX4_init_1 tw1_144 tw1_31 tw1_32 rfl rfl ?_
  refine iw_aload_n hC dX4_init_4 rfl ?_
  refine iw_bipush hC dX4_init_5 (v := 11) (by decide) ?_
  refine iw_newa (atype := .int) (t := 1) (N := 11) (a0 := (11, .inl (fun _ => 0))) hC dX4_init_7 tw1_118 rfl rfl ra_int (fun _ => rfl) (by decide) (by decide) rfl ⟨rfl, rfl⟩ (fun q1 => ?_)
  refine iw_putF (q0 := 0) hC dX4_init_9 fg_RX4_9 ff_2_0 rfl rfl rfl rfl rfl ?_
  refine iw_eq (ws2 := ([(h0, .inr (2, [.ref q1, .null, .null, .null, .int 0, .int 0, .int 0, .int 0, .int 0])), (q1, .inl (cy 1, 11, .inl (fun _ => 0)))])) rfl ?_
  refine iw_aload_n hC dX4_init_12 rfl ?_
  refine iw_bipush hC dX4_init_13 (v := 11) (by decide) ?_
  refine iw_newa (atype := .int) (t := 1) (N := 11) (a0 := (11, .inl (fun _ => 0))) hC dX4_init_15 tw1_118 rfl rfl ra_int (fun _ => rfl) (by decide) (by decide) rfl ⟨rfl, rfl⟩ (fun q2 => ?_)
  refine iw_putF (q0 := 0) hC dX4_init_17 fg_RX4_15 ff_2_1 rfl rfl rfl rfl rfl ?_
  refine iw_eq (ws2 := ([(h0, .inr (2, [.ref q1, .ref q2, .null, .null, .int 0, .int 0, .int 0, .int 0, .int 0])), (q1, .inl (cy 1, 11, .inl (fun _ => 0))), (q2, .inl (cy 1, 11, .inl (fun _ => 0)))])) rfl ?_
  refine iw_aload_n hC dX4_init_20 rfl ?_
  refine iw_bipush hC dX4_init_21 (v := 11) (by decide) ?_
  refine iw_newa (atype := .int) (t := 1) (N := 11) (a0 := (11, .inl (fun _ => 0))) hC dX4_init_23 tw1_118 rfl rfl ra_int (fun _ => rfl) (by decide) (by decide) rfl ⟨rfl, rfl⟩ (fun q3 => ?_)
  refine iw_putF (q0 := 0) hC dX4_init_25 fg_RX4_18 ff_2_2 rfl rfl rfl rfl rfl ?_
  refine iw_eq (ws2 := ([(h0, .inr (2, [.ref q1, .ref q2, .ref q3, .null, .int 0, .int 0, .int 0, .int 0, .int 0])), (q1, .inl (cy 1, 11, .inl (fun _ => 0))), (q2, .inl (cy 1, 11, .inl (fun _ => 0))), (q3, .inl (cy 1, 11, .inl (fun _ => 0)))])) rfl ?_
  refine iw_aload_n hC dX4_init_28 rfl ?_
  refine iw_bipush hC dX4_init_29 (v := 12) (by decide) ?_
  refine iw_newa (atype := .int) (t := 1) (N := 12) (a0 := (12, .inl (fun _ => 0))) hC dX4_init_31 tw1_118 rfl rfl ra_int (fun _ => rfl) (by decide) (by decide) rfl ⟨rfl, rfl⟩ (fun q4 => ?_)
  refine iw_putF (q0 := 0) hC dX4_init_33 fg_RX4_21 ff_2_3 rfl rfl rfl rfl rfl ?_
  refine iw_eq (ws2 := ([(h0, .inr (2, [.ref q1, .ref q2, .ref q3, .ref q4, .int 0, .int 0, .int 0, .int 0, .int 0])), (q1, .inl (cy 1, 11, .inl (fun _ => 0))), (q2, .inl (cy 1, 11, .inl (fun _ => 0))), (q3, .inl (cy 1, 11, .inl (fun _ => 0))), (q4, .inl (cy 1, 12, .inl (fun _ => 0)))])) rfl ?_
  refine iw_aload_n hC dX4_init_36 rfl ?_
  refine iw_iconst hC dX4_init_37 (v := 0) (by decide) ?_
  refine iw_put (q0 := 0) hC dX4_init_38 fg_RX4_24 fq_2_4 rfl rfl (by decide) rfl ?_
  refine iw_eq (ws2 := ([(h0, .inr (2, [.ref q1, .ref q2, .ref q3, .ref q4, .int 0, .int 0, .int 0, .int 0, .int 0])), (q1, .inl (cy 1, 11, .inl (fun _ => 0))), (q2, .inl (cy 1, 11, .inl (fun _ => 0))), (q3, .inl (cy 1, 11, .inl (fun _ => 0))), (q4, .inl (cy 1, 12, .inl (fun _ => 0)))])) rfl ?_
  refine iw_aload_n hC dX4_init_41 rfl ?_
  refine iw_iconst hC dX4_init_42 (v := 0) (by decide) ?_
  refine iw_put (q0 := 0) hC dX4_init_43 fg_RX4_28 fq_2_5 rfl rfl (by decide) rfl ?_
  refine iw_eq (ws2 := ([(h0, .inr (2, [.ref q1, .ref q2, .ref q3, .ref q4, .int 0, .int 0, .int 0, .int 0, .int 0])), (q1, .inl (cy 1, 11, .inl (fun _ => 0))), (q2, .inl (cy 1, 11, .inl (fun _ => 0))), (q3, .inl (cy 1, 11, .inl (fun _ => 0))), (q4, .inl (cy 1, 12, .inl (fun _ => 0)))])) rfl ?_
  refine iw_aload_n hC dX4_init_46 rfl ?_
  refine iw_iconst hC dX4_init_47 (v := 1) (by decide) ?_
  refine iw_put (q0 := 0) hC dX4_init_48 fg_RX4_31 fq_2_6 rfl rfl (by decide) rfl ?_
  refine iw_eq (ws2 := ([(h0, .inr (2, [.ref q1, .ref q2, .ref q3, .ref q4, .int 0, .int 0, .int 1, .int 0, .int 0])), (q1, .inl (cy 1, 11, .inl (fun _ => 0))), (q2, .inl (cy 1, 11, .inl (fun _ => 0))), (q3, .inl (cy 1, 11, .inl (fun _ => 0))), (q4, .inl (cy 1, 12, .inl (fun _ => 0)))])) rfl ?_
  refine iw_aload_n hC dX4_init_51 rfl ?_
  refine iw_iconst hC dX4_init_52 (v := 0) (by decide) ?_
  refine iw_put (q0 := 0) hC dX4_init_53 fg_RX4_35 fq_2_7 rfl rfl (by decide) rfl ?_
  refine iw_eq (ws2 := ([(h0, .inr (2, [.ref q1, .ref q2, .ref q3, .ref q4, .int 0, .int 0, .int 1, .int 0, .int 0])), (q1, .inl (cy 1, 11, .inl (fun _ => 0))), (q2, .inl (cy 1, 11, .inl (fun _ => 0))), (q3, .inl (cy 1, 11, .inl (fun _ => 0))), (q4, .inl (cy 1, 12, .inl (fun _ => 0)))])) rfl ?_
  refine iw_aload_n hC dX4_init_56 rfl ?_
  refine iw_iconst hC dX4_init_57 (v := -1) (by decide) ?_
  refine iw_put (q0 := 0) hC dX4_init_58 fg_RX4_38 fq_2_8 rfl rfl (by decide) rfl ?_
  refine iw_eq (ws2 := ([(h0, .inr (2, [.ref q1, .ref q2, .ref q3, .ref q4, .int 0, .int 0, .int 1, .int 0, .int (-1)])), (q1, .inl (cy 1, 11, .inl (fun _ => 0))), (q2, .inl (cy 1, 11, .inl (fun _ => 0))), (q3, .inl (cy 1, 11, .inl (fun _ => 0))), (q4, .inl (cy 1, 12, .inl (fun _ => 0)))])) rfl ?_
  exact iw_vret (fun i => ([q1, q2, q3, q4] : List Nat).getD i 0) hC hA dX4_init_61 rfl rfl rfl rfl
def Y_X5_init (cy : Nat → ClassId) (h0 : Nat) (f : Nat → Nat) : va_W := [(h0, .inr (3, [.ref (f 0), .ref (f 1), .ref (f 2), .ref (f 3), .ref (f 4), .int 0, .int 0])), ((f 0), .inl (cy 6, 30, .inr (.inr (.inr (.inr (fun _ => none)))))), ((f 1), .inl (cy 2, 30, .inr (.inl (fun _ => 0)))), ((f 2), .inl (cy 1, 30, .inl (fun _ => 0))), ((f 3), .inl (cy 1, 30, .inl (fun _ => 0))), ((f 4), .inl (cy 1, 2, .inl (fun _ => 0)))]
theorem I_X5_init (l : Launch) (D : va_G) (cy : Nat → ClassId) (h0 : Nat) : IM l D cy yX5_init cX5_init 1 none 1 12 5 122 [.ref h0] [(h0, .inr (3, [.null, .null, .null, .null, .null, .int 0, .int 0]))] (Y_X5_init cy h0) none := by
  refine im_start (y := yX5_init) (av := [.ref h0]) (nL := 1) (by decide +kernel) rfl ?_
  intro p e R s m below meth c A hC hA
  refine iw_aload_n hC dX5_init_0 rfl ?_
  refine iw_objInit hC dX5_init_1 tw1_92 tw1_31 tw1_32 rfl rfl ?_
  refine iw_aload_n hC dX5_init_4 rfl ?_
  refine iw_bipush hC dX5_init_5 (v := 30) (by decide) ?_
  refine iw_newq (C := "ParkingCircle$Command") (t := 6) (N := 30) hC dX5_init_7 tw1_93 hC.2.2.2.2.2.2.1.2.1 rfl (by decide) (by decide) rfl ⟨rfl, rfl⟩ (fun q1 => ?_)
  refine iw_putF (q0 := 0) hC dX5_init_10 fg_RX5_11 ff_3_0 rfl rfl rfl rfl rfl ?_
  refine iw_eq (ws2 := ([(h0, .inr (3, [.ref q1, .null, .null, .null, .null, .int 0, .int 0])), (q1, .inl (cy 6, 30, .inr (.inr (.inr (.inr (fun _ => none))))))])) rfl ?_
  refine iw_aload_n hC dX5_init_13 rfl ?_
  refine iw_bipush hC dX5_init_14 (v := 30) (by decide) ?_
  refine iw_newa (atype := .long) (t := 2) (N := 30) (a0 := (30, .inr (.inl (fun _ => 0)))) hC dX5_init_16 tw1_117 rfl rfl ra_long (fun _ => rfl) (by decide) (by decide) rfl ⟨rfl, rfl⟩ (fun q2 => ?_)
  refine iw_putF (q0 := 0) hC dX5_init_18 fg_RX5_17 ff_3_1 rfl rfl rfl rfl rfl ?_
  refine iw_eq (ws2 := ([(h0, .inr (3, [.ref q1, .ref q2, .null, .null, .null, .int 0, .int 0])), (q1, .inl (cy 6, 30, .inr (.inr (.inr (.inr (fun _ => none)))))), (q2, .inl (cy 2, 30, .inr (.inl (fun _ => 0))))])) rfl ?_
  refine iw_aload_n hC dX5_init_21 rfl ?_
  refine iw_bipush hC dX5_init_22 (v := 30) (by decide) ?_
  refine iw_newa (atype := .int) (t := 1) (N := 30) (a0 := (30, .inl (fun _ => 0))) hC dX5_init_24 tw1_118 rfl rfl ra_int (fun _ => rfl) (by decide) (by decide) rfl ⟨rfl, rfl⟩ (fun q3 => ?_)
  refine iw_putF (q0 := 0) hC dX5_init_26 fg_RX5_21 ff_3_2 rfl rfl rfl rfl rfl ?_
  refine iw_eq (ws2 := ([(h0, .inr (3, [.ref q1, .ref q2, .ref q3, .null, .null, .int 0, .int 0])), (q1, .inl (cy 6, 30, .inr (.inr (.inr (.inr (fun _ => none)))))), (q2, .inl (cy 2, 30, .inr (.inl (fun _ => 0)))), (q3, .inl (cy 1, 30, .inl (fun _ => 0)))])) rfl ?_
  refine iw_aload_n hC dX5_init_29 rfl ?_
  refine iw_bipush hC dX5_init_30 (v := 30) (by decide) ?_
  refine iw_newa (atype := .int) (t := 1) (N := 30) (a0 := (30, .inl (fun _ => 0))) hC dX5_init_32 tw1_118 rfl rfl ra_int (fun _ => rfl) (by decide) (by decide) rfl ⟨rfl, rfl⟩ (fun q4 => ?_)
  refine iw_putF (q0 := 0) hC dX5_init_34 fg_RX5_25 ff_3_3 rfl rfl rfl rfl rfl ?_
  refine iw_eq (ws2 := ([(h0, .inr (3, [.ref q1, .ref q2, .ref q3, .ref q4, .null, .int 0, .int 0])), (q1, .inl (cy 6, 30, .inr (.inr (.inr (.inr (fun _ => none)))))), (q2, .inl (cy 2, 30, .inr (.inl (fun _ => 0)))), (q3, .inl (cy 1, 30, .inl (fun _ => 0))), (q4, .inl (cy 1, 30, .inl (fun _ => 0)))])) rfl ?_
  refine iw_aload_n hC dX5_init_37 rfl ?_
  refine iw_iconst hC dX5_init_38 (v := 2) (by decide) ?_
  refine iw_newa (atype := .int) (t := 1) (N := 2) (a0 := (2, .inl (fun _ => 0))) hC dX5_init_39 tw1_118 rfl rfl ra_int (fun _ => rfl) (by decide) (by decide) rfl ⟨rfl, rfl⟩ (fun q5 => ?_)
  refine iw_putF (q0 := 0) hC dX5_init_41 fg_RX5_28 ff_3_4 rfl rfl rfl rfl rfl ?_
  refine iw_eq (ws2 := ([(h0, .inr (3, [.ref q1, .ref q2, .ref q3, .ref q4, .ref q5, .int 0, .int 0])), (q1, .inl (cy 6, 30, .inr (.inr (.inr (.inr (fun _ => none)))))), (q2, .inl (cy 2, 30, .inr (.inl (fun _ => 0)))), (q3, .inl (cy 1, 30, .inl (fun _ => 0))), (q4, .inl (cy 1, 30, .inl (fun _ => 0))), (q5, .inl (cy 1, 2, .inl (fun _ => 0)))])) rfl ?_
  refine iw_aload_n hC dX5_init_44 rfl ?_
  refine iw_iconst hC dX5_init_45 (v := 0) (by decide) ?_
  refine iw_put (q0 := 0) hC dX5_init_46 fg_RX5_31 fq_3_5 rfl rfl (by decide) rfl ?_
  refine iw_eq (ws2 := ([(h0, .inr (3, [.ref q1, .ref q2, .ref q3, .ref q4, .ref q5, .int 0, .int 0])), (q1, .inl (cy 6, 30, .inr (.inr (.inr (.inr (fun _ => none)))))), (q2, .inl (cy 2, 30, .inr (.inl (fun _ => 0)))), (q3, .inl (cy 1, 30, .inl (fun _ => 0))), (q4, .inl (cy 1, 30, .inl (fun _ => 0))), (q5, .inl (cy 1, 2, .inl (fun _ => 0)))])) rfl ?_
  refine iw_aload_n hC dX5_init_49 rfl ?_
  refine iw_iconst hC dX5_init_50 (v := 0) (by decide) ?_
  refine iw_put (q0 := 0) hC dX5_init_51 fg_RX5_35 fq_3_6 rfl rfl (by decide) rfl ?_
  refine iw_eq (ws2 := ([(h0, .inr (3, [.ref q1, .ref q2, .ref q3, .ref q4, .ref q5, .int 0, .int 0])), (q1, .inl (cy 6, 30, .inr (.inr (.inr (.inr (fun _ => none)))))), (q2, .inl (cy 2, 30, .inr (.inl (fun _ => 0)))), (q3, .inl (cy 1, 30, .inl (fun _ => 0))), (q4, .inl (cy 1, 30, .inl (fun _ => 0))), (q5, .inl (cy 1, 2, .inl (fun _ => 0)))])) rfl ?_
  exact iw_vret (fun i => ([q1, q2, q3, q4, q5] : List Nat).getD i 0) hC hA dX5_init_54 rfl rfl rfl rfl
def Y_X6_init (cy : Nat → ClassId) (h0 : Nat) (f : Nat → Nat) : va_W := [(h0, .inr (4, [.ref (f 0), .int 0, .int 0, .int 0, .long 0, .int 0, .int 0, .int 0, .int (-1)])), ((f 0), .inr (0, [.ref (f 1), .int 0])), ((f 1), .inl (cy 0, 400, .inl (fun _ => 0)))]
theorem I_X6_init (l : Launch) (D : va_G) (cy : Nat → ClassId) (h0 : Nat) : IM l D cy yX6_init cX6_init 1 none 2 33 2 402 [.ref h0] [(h0, .inr (4, [.null, .int 0, .int 0, .int 0, .long 0, .int 0, .int 0, .int 0, .int 0]))] (Y_X6_init cy h0) none := by
  refine im_start (y := yX6_init) (av := [.ref h0]) (nL := 1) (by decide +kernel) rfl ?_
  intro p e R s m below meth c A hC hA
  refine iw_aload_n hC dX6_init_0 rfl ?_
  refine iw_objInit hC dX6_init_1 tw1_38 tw1_31 tw1_32 rfl rfl ?_
  refine iw_aload_n hC dX6_init_4 rfl ?_
  refine iw_new (ci := 0) (N := 2) (fs := [.null, .int 0]) hC dX6_init_5 inlX1 tyX1_ok tw1_39 tw1_40 tw1_3 rfl (by decide +kernel) ⟨rfl, rfl⟩ (fun q1 => ?_)
  refine iw_dup hC dX6_init_8 ?_
  refine iw_sipush hC dX6_init_9 (v := 400) (by decide) ?_
  refine iw_callI (y := yX1_init) (n := 1) (b := q1) (mc2 := 1) (ms2 := 400) (As := [.int 400]) hC dX6_init_12 (I_X1_init l D cy q1 400 400 (by decide) (by decide) rfl) (Or.inl tw1_41) tw1_3 tw1_43 tw1_42 rfl ⟨by decide, by decide, by decide +kernel⟩ rfl rfl rfl rfl rfl ⟨rfl, rfl⟩ rfl (fun f2 => ?_)
  refine iw_putF (q0 := 0) hC dX6_init_15 fg_RX6_14 ff_4_0 rfl rfl rfl rfl rfl ?_
  refine iw_eq (ws2 := ([(h0, .inr (4, [.ref q1, .int 0, .int 0, .int 0, .long 0, .int 0, .int 0, .int 0, .int 0])), (q1, .inr (0, [.ref (f2 0), .int 0])), ((f2 0), .inl (cy 0, 400, .inl (fun _ => 0)))])) rfl ?_
  refine iw_aload_n hC dX6_init_18 rfl ?_
  refine iw_iconst hC dX6_init_19 (v := 0) (by decide) ?_
  refine iw_put (q0 := 0) hC dX6_init_20 fg_RX6_20 fq_4_1 rfl rfl (by decide) rfl ?_
  refine iw_eq (ws2 := ([(h0, .inr (4, [.ref q1, .int 0, .int 0, .int 0, .long 0, .int 0, .int 0, .int 0, .int 0])), (q1, .inr (0, [.ref (f2 0), .int 0])), ((f2 0), .inl (cy 0, 400, .inl (fun _ => 0)))])) rfl ?_
  refine iw_aload_n hC dX6_init_23 rfl ?_
  refine iw_iconst hC dX6_init_24 (v := 0) (by decide) ?_
  refine iw_put (q0 := 0) hC dX6_init_25 fg_RX6_24 fq_4_2 rfl rfl (by decide) rfl ?_
  refine iw_eq (ws2 := ([(h0, .inr (4, [.ref q1, .int 0, .int 0, .int 0, .long 0, .int 0, .int 0, .int 0, .int 0])), (q1, .inr (0, [.ref (f2 0), .int 0])), ((f2 0), .inl (cy 0, 400, .inl (fun _ => 0)))])) rfl ?_
  refine iw_aload_n hC dX6_init_28 rfl ?_
  refine iw_iconst hC dX6_init_29 (v := 0) (by decide) ?_
  refine iw_put (q0 := 0) hC dX6_init_30 fg_RX6_27 fq_4_3 rfl rfl (by decide) rfl ?_
  refine iw_eq (ws2 := ([(h0, .inr (4, [.ref q1, .int 0, .int 0, .int 0, .long 0, .int 0, .int 0, .int 0, .int 0])), (q1, .inr (0, [.ref (f2 0), .int 0])), ((f2 0), .inl (cy 0, 400, .inl (fun _ => 0)))])) rfl ?_
  refine iw_aload_n hC dX6_init_33 rfl ?_
  refine iw_lconst hC dX6_init_34 (v := 0) (by decide) ?_
  refine iw_put (q0 := 0) hC dX6_init_35 fg_RX6_30 fq_4_4 rfl rfl (by decide) rfl ?_
  refine iw_eq (ws2 := ([(h0, .inr (4, [.ref q1, .int 0, .int 0, .int 0, .long 0, .int 0, .int 0, .int 0, .int 0])), (q1, .inr (0, [.ref (f2 0), .int 0])), ((f2 0), .inl (cy 0, 400, .inl (fun _ => 0)))])) rfl ?_
  refine iw_aload_n hC dX6_init_38 rfl ?_
  refine iw_iconst hC dX6_init_39 (v := 0) (by decide) ?_
  refine iw_put (q0 := 0) hC dX6_init_40 fg_RX6_34 fq_4_5 rfl rfl (by decide) rfl ?_
  refine iw_eq (ws2 := ([(h0, .inr (4, [.ref q1, .int 0, .int 0, .int 0, .long 0, .int 0, .int 0, .int 0, .int 0])), (q1, .inr (0, [.ref (f2 0), .int 0])), ((f2 0), .inl (cy 0, 400, .inl (fun _ => 0)))])) rfl ?_
  refine iw_aload_n hC dX6_init_43 rfl ?_
  refine iw_iconst hC dX6_init_44 (v := 0) (by decide) ?_
  refine iw_put (q0 := 0) hC dX6_init_45 fg_RX6_37 fq_4_6 rfl rfl (by decide) rfl ?_
  refine iw_eq (ws2 := ([(h0, .inr (4, [.ref q1, .int 0, .int 0, .int 0, .long 0, .int 0, .int 0, .int 0, .int 0])), (q1, .inr (0, [.ref (f2 0), .int 0])), ((f2 0), .inl (cy 0, 400, .inl (fun _ => 0)))])) rfl ?_
  refine iw_aload_n hC dX6_init_48 rfl ?_
  refine iw_iconst hC dX6_init_49 (v := 0) (by decide) ?_
  refine iw_put (q0 := 0) hC dX6_init_50 fg_RX6_40 fq_4_7 rfl rfl (by decide) rfl ?_
  refine iw_eq (ws2 := ([(h0, .inr (4, [.ref q1, .int 0, .int 0, .int 0, .long 0, .int 0, .int 0, .int 0, .int 0])), (q1, .inr (0, [.ref (f2 0), .int 0])), ((f2 0), .inl (cy 0, 400, .inl (fun _ => 0)))])) rfl ?_
  refine iw_aload_n hC dX6_init_53 rfl ?_
  refine iw_iconst hC dX6_init_54 (v := -1) (by decide) ?_
  refine iw_put (q0 := 0) hC dX6_init_55 fg_RX6_43 fq_4_8 rfl rfl (by decide) rfl ?_
  refine iw_eq (ws2 := ([(h0, .inr (4, [.ref q1, .int 0, .int 0, .int 0, .long 0, .int 0, .int 0, .int 0, .int (-1)])), (q1, .inr (0, [.ref (f2 0), .int 0])), ((f2 0), .inl (cy 0, 400, .inl (fun _ => 0)))])) rfl ?_
  exact iw_vret (fun i => ([q1, (f2 0)] : List Nat).getD i 0) hC hA dX6_init_58 rfl rfl rfl rfl
def Y_X7_init (cy : Nat → ClassId) (h0 : Nat) (f : Nat → Nat) : va_W := [(h0, .inr (5, [.ref (f 0), .ref (f 1), .ref (f 2), .ref (f 3), .ref (f 4), .ref (f 5), .int 0, .int 0, .int 0])), ((f 0), .inl (cy 1, 11, .inl (fun _ => 0))), ((f 1), .inl (cy 1, 11, .inl (fun _ => 0))), ((f 2), .inl (cy 1, 11, .inl (fun _ => 0))), ((f 3), .inl (cy 3, 11, .inl (fun _ => 0))), ((f 4), .inl (cy 1, 12, .inl (fun _ => 0))), ((f 5), .inl (cy 4, 12, .inr (.inr (.inr (.inr (fun j => some (([(f 6), (f 7), (f 8), (f 9), (f 10), (f 11), (f 12), (f 13), (f 14), (f 15), (f 16), (f 17)] : List Nat).getD j 0))))))), ((f 6), .inl (cy 1, 12, .inl (fun _ => 0))), ((f 7), .inl (cy 1, 12, .inl (fun _ => 0))), ((f 8), .inl (cy 1, 12, .inl (fun _ => 0))), ((f 9), .inl (cy 1, 12, .inl (fun _ => 0))), ((f 10), .inl (cy 1, 12, .inl (fun _ => 0))), ((f 11), .inl (cy 1, 12, .inl (fun _ => 0))), ((f 12), .inl (cy 1, 12, .inl (fun _ => 0))), ((f 13), .inl (cy 1, 12, .inl (fun _ => 0))), ((f 14), .inl (cy 1, 12, .inl (fun _ => 0))), ((f 15), .inl (cy 1, 12, .inl (fun _ => 0))), ((f 16), .inl (cy 1, 12, .inl (fun _ => 0))), ((f 17), .inl (cy 1, 12, .inl (fun _ => 0)))]
theorem I_X7_init (l : Launch) (D : va_G) (cy : Nat → ClassId) (h0 : Nat) : IM l D cy yX7_init cX7_init 1 none 1 12 18 212 [.ref h0] [(h0, .inr (5, [.null, .null, .null, .null, .null, .null, .int 0, .int 0, .int 0]))] (Y_X7_init cy h0) none := by
  refine im_start (y := yX7_init) (av := [.ref h0]) (nL := 1) (by decide +kernel) rfl ?_
  intro p e R s m below meth c A hC hA
  refine iw_aload_n hC dX7_init_0 rfl ?_
  refine iw_objInit hC dX7_init_1 tw1_178 tw1_31 tw1_32 rfl rfl ?_
  refine iw_aload_n hC dX7_init_4 rfl ?_
  refine iw_bipush hC dX7_init_5 (v := 11) (by decide) ?_
  refine iw_newa (atype := .int) (t := 1) (N := 11) (a0 := (11, .inl (fun _ => 0))) hC dX7_init_7 tw1_118 rfl rfl ra_int (fun _ => rfl) (by decide) (by decide) rfl ⟨rfl, rfl⟩ (fun q1 => ?_)
  refine iw_putF (q0 := 0) hC dX7_init_9 fg_RX7_9 ff_5_0 rfl rfl rfl rfl rfl ?_
  refine iw_eq (ws2 := ([(h0, .inr (5, [.ref q1, .null, .null, .null, .null, .null, .int 0, .int 0, .int 0])), (q1, .inl (cy 1, 11, .inl (fun _ => 0)))])) rfl ?_
  refine iw_aload_n hC dX7_init_12 rfl ?_
  refine iw_bipush hC dX7_init_13 (v := 11) (by decide) ?_
  refine iw_newa (atype := .int) (t := 1) (N := 11) (a0 := (11, .inl (fun _ => 0))) hC dX7_init_15 tw1_118 rfl rfl ra_int (fun _ => rfl) (by decide) (by decide) rfl ⟨rfl, rfl⟩ (fun q2 => ?_)
  refine iw_putF (q0 := 0) hC dX7_init_17 fg_RX7_15 ff_5_1 rfl rfl rfl rfl rfl ?_
  refine iw_eq (ws2 := ([(h0, .inr (5, [.ref q1, .ref q2, .null, .null, .null, .null, .int 0, .int 0, .int 0])), (q1, .inl (cy 1, 11, .inl (fun _ => 0))), (q2, .inl (cy 1, 11, .inl (fun _ => 0)))])) rfl ?_
  refine iw_aload_n hC dX7_init_20 rfl ?_
  refine iw_bipush hC dX7_init_21 (v := 11) (by decide) ?_
  refine iw_newa (atype := .int) (t := 1) (N := 11) (a0 := (11, .inl (fun _ => 0))) hC dX7_init_23 tw1_118 rfl rfl ra_int (fun _ => rfl) (by decide) (by decide) rfl ⟨rfl, rfl⟩ (fun q3 => ?_)
  refine iw_putF (q0 := 0) hC dX7_init_25 fg_RX7_18 ff_5_2 rfl rfl rfl rfl rfl ?_
  refine iw_eq (ws2 := ([(h0, .inr (5, [.ref q1, .ref q2, .ref q3, .null, .null, .null, .int 0, .int 0, .int 0])), (q1, .inl (cy 1, 11, .inl (fun _ => 0))), (q2, .inl (cy 1, 11, .inl (fun _ => 0))), (q3, .inl (cy 1, 11, .inl (fun _ => 0)))])) rfl ?_
  refine iw_aload_n hC dX7_init_28 rfl ?_
  refine iw_bipush hC dX7_init_29 (v := 11) (by decide) ?_
  refine iw_newa (atype := .boolean) (t := 3) (N := 11) (a0 := (11, .inl (fun _ => 0))) hC dX7_init_31 tw1_209 rfl rfl ra_boolean (fun _ => rfl) (by decide) (by decide) rfl ⟨rfl, rfl⟩ (fun q4 => ?_)
  refine iw_putF (q0 := 0) hC dX7_init_33 fg_RX7_21 ff_5_3 rfl rfl rfl rfl rfl ?_
  refine iw_eq (ws2 := ([(h0, .inr (5, [.ref q1, .ref q2, .ref q3, .ref q4, .null, .null, .int 0, .int 0, .int 0])), (q1, .inl (cy 1, 11, .inl (fun _ => 0))), (q2, .inl (cy 1, 11, .inl (fun _ => 0))), (q3, .inl (cy 1, 11, .inl (fun _ => 0))), (q4, .inl (cy 3, 11, .inl (fun _ => 0)))])) rfl ?_
  refine iw_aload_n hC dX7_init_36 rfl ?_
  refine iw_bipush hC dX7_init_37 (v := 12) (by decide) ?_
  refine iw_newa (atype := .int) (t := 1) (N := 12) (a0 := (12, .inl (fun _ => 0))) hC dX7_init_39 tw1_118 rfl rfl ra_int (fun _ => rfl) (by decide) (by decide) rfl ⟨rfl, rfl⟩ (fun q5 => ?_)
  refine iw_putF (q0 := 0) hC dX7_init_41 fg_RX7_25 ff_5_4 rfl rfl rfl rfl rfl ?_
  refine iw_eq (ws2 := ([(h0, .inr (5, [.ref q1, .ref q2, .ref q3, .ref q4, .ref q5, .null, .int 0, .int 0, .int 0])), (q1, .inl (cy 1, 11, .inl (fun _ => 0))), (q2, .inl (cy 1, 11, .inl (fun _ => 0))), (q3, .inl (cy 1, 11, .inl (fun _ => 0))), (q4, .inl (cy 3, 11, .inl (fun _ => 0))), (q5, .inl (cy 1, 12, .inl (fun _ => 0)))])) rfl ?_
  refine iw_aload_n hC dX7_init_44 rfl ?_
  refine iw_bipush hC dX7_init_45 (v := 12) (by decide) ?_
  refine iw_bipush hC dX7_init_47 (v := 12) (by decide) ?_
  refine iw_mnew hC dX7_init_49 tw1_179 tw1_118 hC.2.2.2.2.2.2.1.2.2.2.1 ⟨rfl, rfl⟩ (fun gq6 => ?_)
  refine iw_putF (q0 := 0) hC dX7_init_53 fg_RX7_30 ff_5_5 rfl rfl rfl rfl rfl ?_
  refine iw_eq (ws2 := ([(h0, .inr (5, [.ref q1, .ref q2, .ref q3, .ref q4, .ref q5, .ref (gq6 0), .int 0, .int 0, .int 0])), (q1, .inl (cy 1, 11, .inl (fun _ => 0))), (q2, .inl (cy 1, 11, .inl (fun _ => 0))), (q3, .inl (cy 1, 11, .inl (fun _ => 0))), (q4, .inl (cy 3, 11, .inl (fun _ => 0))), (q5, .inl (cy 1, 12, .inl (fun _ => 0))), ((gq6 0), .inl (cy 4, 12, .inr (.inr (.inr (.inr (fun j => some (([(gq6 1), (gq6 2), (gq6 3), (gq6 4), (gq6 5), (gq6 6), (gq6 7), (gq6 8), (gq6 9), (gq6 10), (gq6 11), (gq6 12)] : List Nat).getD j 0))))))), ((gq6 1), .inl (cy 1, 12, .inl (fun _ => 0))), ((gq6 2), .inl (cy 1, 12, .inl (fun _ => 0))), ((gq6 3), .inl (cy 1, 12, .inl (fun _ => 0))), ((gq6 4), .inl (cy 1, 12, .inl (fun _ => 0))), ((gq6 5), .inl (cy 1, 12, .inl (fun _ => 0))), ((gq6 6), .inl (cy 1, 12, .inl (fun _ => 0))), ((gq6 7), .inl (cy 1, 12, .inl (fun _ => 0))), ((gq6 8), .inl (cy 1, 12, .inl (fun _ => 0))), ((gq6 9), .inl (cy 1, 12, .inl (fun _ => 0))), ((gq6 10), .inl (cy 1, 12, .inl (fun _ => 0))), ((gq6 11), .inl (cy 1, 12, .inl (fun _ => 0))), ((gq6 12), .inl (cy 1, 12, .inl (fun _ => 0)))])) rfl ?_
  refine iw_aload_n hC dX7_init_56 rfl ?_
  refine iw_iconst hC dX7_init_57 (v := 0) (by decide) ?_
  refine iw_put (q0 := 0) hC dX7_init_58 fg_RX7_33 fq_5_6 rfl rfl (by decide) rfl ?_
  refine iw_eq (ws2 := ([(h0, .inr (5, [.ref q1, .ref q2, .ref q3, .ref q4, .ref q5, .ref (gq6 0), .int 0, .int 0, .int 0])), (q1, .inl (cy 1, 11, .inl (fun _ => 0))), (q2, .inl (cy 1, 11, .inl (fun _ => 0))), (q3, .inl (cy 1, 11, .inl (fun _ => 0))), (q4, .inl (cy 3, 11, .inl (fun _ => 0))), (q5, .inl (cy 1, 12, .inl (fun _ => 0))), ((gq6 0), .inl (cy 4, 12, .inr (.inr (.inr (.inr (fun j => some (([(gq6 1), (gq6 2), (gq6 3), (gq6 4), (gq6 5), (gq6 6), (gq6 7), (gq6 8), (gq6 9), (gq6 10), (gq6 11), (gq6 12)] : List Nat).getD j 0))))))), ((gq6 1), .inl (cy 1, 12, .inl (fun _ => 0))), ((gq6 2), .inl (cy 1, 12, .inl (fun _ => 0))), ((gq6 3), .inl (cy 1, 12, .inl (fun _ => 0))), ((gq6 4), .inl (cy 1, 12, .inl (fun _ => 0))), ((gq6 5), .inl (cy 1, 12, .inl (fun _ => 0))), ((gq6 6), .inl (cy 1, 12, .inl (fun _ => 0))), ((gq6 7), .inl (cy 1, 12, .inl (fun _ => 0))), ((gq6 8), .inl (cy 1, 12, .inl (fun _ => 0))), ((gq6 9), .inl (cy 1, 12, .inl (fun _ => 0))), ((gq6 10), .inl (cy 1, 12, .inl (fun _ => 0))), ((gq6 11), .inl (cy 1, 12, .inl (fun _ => 0))), ((gq6 12), .inl (cy 1, 12, .inl (fun _ => 0)))])) rfl ?_
  refine iw_aload_n hC dX7_init_61 rfl ?_
  refine iw_iconst hC dX7_init_62 (v := 0) (by decide) ?_
  refine iw_put (q0 := 0) hC dX7_init_63 fg_RX7_37 fq_5_7 rfl rfl (by decide) rfl ?_
  refine iw_eq (ws2 := ([(h0, .inr (5, [.ref q1, .ref q2, .ref q3, .ref q4, .ref q5, .ref (gq6 0), .int 0, .int 0, .int 0])), (q1, .inl (cy 1, 11, .inl (fun _ => 0))), (q2, .inl (cy 1, 11, .inl (fun _ => 0))), (q3, .inl (cy 1, 11, .inl (fun _ => 0))), (q4, .inl (cy 3, 11, .inl (fun _ => 0))), (q5, .inl (cy 1, 12, .inl (fun _ => 0))), ((gq6 0), .inl (cy 4, 12, .inr (.inr (.inr (.inr (fun j => some (([(gq6 1), (gq6 2), (gq6 3), (gq6 4), (gq6 5), (gq6 6), (gq6 7), (gq6 8), (gq6 9), (gq6 10), (gq6 11), (gq6 12)] : List Nat).getD j 0))))))), ((gq6 1), .inl (cy 1, 12, .inl (fun _ => 0))), ((gq6 2), .inl (cy 1, 12, .inl (fun _ => 0))), ((gq6 3), .inl (cy 1, 12, .inl (fun _ => 0))), ((gq6 4), .inl (cy 1, 12, .inl (fun _ => 0))), ((gq6 5), .inl (cy 1, 12, .inl (fun _ => 0))), ((gq6 6), .inl (cy 1, 12, .inl (fun _ => 0))), ((gq6 7), .inl (cy 1, 12, .inl (fun _ => 0))), ((gq6 8), .inl (cy 1, 12, .inl (fun _ => 0))), ((gq6 9), .inl (cy 1, 12, .inl (fun _ => 0))), ((gq6 10), .inl (cy 1, 12, .inl (fun _ => 0))), ((gq6 11), .inl (cy 1, 12, .inl (fun _ => 0))), ((gq6 12), .inl (cy 1, 12, .inl (fun _ => 0)))])) rfl ?_
  refine iw_aload_n hC dX7_init_66 rfl ?_
  refine iw_iconst hC dX7_init_67 (v := 0) (by decide) ?_
  refine iw_put (q0 := 0) hC dX7_init_68 fg_RX7_40 fq_5_8 rfl rfl (by decide) rfl ?_
  refine iw_eq (ws2 := ([(h0, .inr (5, [.ref q1, .ref q2, .ref q3, .ref q4, .ref q5, .ref (gq6 0), .int 0, .int 0, .int 0])), (q1, .inl (cy 1, 11, .inl (fun _ => 0))), (q2, .inl (cy 1, 11, .inl (fun _ => 0))), (q3, .inl (cy 1, 11, .inl (fun _ => 0))), (q4, .inl (cy 3, 11, .inl (fun _ => 0))), (q5, .inl (cy 1, 12, .inl (fun _ => 0))), ((gq6 0), .inl (cy 4, 12, .inr (.inr (.inr (.inr (fun j => some (([(gq6 1), (gq6 2), (gq6 3), (gq6 4), (gq6 5), (gq6 6), (gq6 7), (gq6 8), (gq6 9), (gq6 10), (gq6 11), (gq6 12)] : List Nat).getD j 0))))))), ((gq6 1), .inl (cy 1, 12, .inl (fun _ => 0))), ((gq6 2), .inl (cy 1, 12, .inl (fun _ => 0))), ((gq6 3), .inl (cy 1, 12, .inl (fun _ => 0))), ((gq6 4), .inl (cy 1, 12, .inl (fun _ => 0))), ((gq6 5), .inl (cy 1, 12, .inl (fun _ => 0))), ((gq6 6), .inl (cy 1, 12, .inl (fun _ => 0))), ((gq6 7), .inl (cy 1, 12, .inl (fun _ => 0))), ((gq6 8), .inl (cy 1, 12, .inl (fun _ => 0))), ((gq6 9), .inl (cy 1, 12, .inl (fun _ => 0))), ((gq6 10), .inl (cy 1, 12, .inl (fun _ => 0))), ((gq6 11), .inl (cy 1, 12, .inl (fun _ => 0))), ((gq6 12), .inl (cy 1, 12, .inl (fun _ => 0)))])) rfl ?_
  exact iw_vret (fun i => ([q1, q2, q3, q4, q5, (gq6 0), (gq6 1), (gq6 2), (gq6 3), (gq6 4), (gq6 5), (gq6 6), (gq6 7), (gq6 8), (gq6 9), (gq6 10), (gq6 11), (gq6 12)] : List Nat).getD i 0) hC hA dX7_init_71 rfl rfl rfl rfl
