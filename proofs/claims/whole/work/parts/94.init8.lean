def Y_X8_init (cy : Nat → ClassId) (h0 : Nat) (f : Nat → Nat) : va_W := List.append (List.append (List.append (List.append (List.append (List.append (List.append (List.append (List.append (List.append (List.append (List.append (List.append (List.append (List.append (List.append (List.append (List.append ([(h0, .inr (6, [.ref (f 0), .ref (f 1), .ref (f 3), .ref (f 5), .ref (f 11), .ref (f 14), .ref (f 17), .ref (f 20), .ref (f 23), .ref (f 24), .ref (f 29), .ref (f 34), .ref (f 53), .int 0, .int 0, .int 0, .int 0, .int 0, .int (-1)]))]) (Y_X6_init cy (f 0) (fun j => f (1 + j)))) (Y_X1_init cy (f 3) 120 (fun j => f (4 + j)))) (Y_X5_init cy (f 5) (fun j => f (6 + j)))) (Y_X2_init cy (f 11) (fun j => f (12 + j)))) (Y_X2_init cy (f 14) (fun j => f (15 + j)))) (Y_X2_init cy (f 17) (fun j => f (18 + j)))) (Y_X2_init cy (f 20) (fun j => f (21 + j)))) ([((f 23), .inl (cy 5, 6, .inr (.inr (.inr (.inr (va_up (va_up (va_up (va_up (va_up (va_up (fun _ => none) (Int32.toNatClampNeg 0) (some (f 54))) (Int32.toNatClampNeg 1) (some (f 57))) (Int32.toNatClampNeg 2) (some (f 60))) (Int32.toNatClampNeg 3) (some (f 63))) (Int32.toNatClampNeg 4) (some (f 66))) (Int32.toNatClampNeg 5) (some (f 69))))))))])) (Y_X4_init cy (f 24) (fun j => f (25 + j)))) (Y_X4_init cy (f 29) (fun j => f (30 + j)))) (Y_X7_init cy (f 34) (fun j => f (35 + j)))) ([((f 53), .inl (cy 1, 5, .inl (fun _ => 0)))])) (Y_X2_init cy (f 54) (fun j => f (55 + j)))) (Y_X2_init cy (f 57) (fun j => f (58 + j)))) (Y_X2_init cy (f 60) (fun j => f (61 + j)))) (Y_X2_init cy (f 63) (fun j => f (64 + j)))) (Y_X2_init cy (f 66) (fun j => f (67 + j)))) (Y_X2_init cy (f 69) (fun j => f (70 + j)))
set_option maxHeartbeats 40000000 in
theorem I_X8_init (l : Launch) (D : va_G) (cy : Nat → ClassId) (h0 : Nat) : IM l D cy yX8_init cX8_init 2 none 3 60 72 1262 [.ref h0] [(h0, .inr (6, [.null, .null, .null, .null, .null, .null, .null, .null, .null, .null, .null, .null, .null, .int 0, .int 0, .int 0, .int 0, .int 0, .int 0]))] (Y_X8_init cy h0) none := by
  refine im_start (y := yX8_init) (av := [.ref h0]) (nL := 2) (by decide +kernel) rfl ?_
  intro p e R s m below meth c A hC hA
  refine iw_aload_n hC dX8_init_0 rfl ?_
  refine iw_objInit hC dX8_init_1 tw1_30 tw1_31 tw1_32 rfl rfl ?_
  refine iw_aload_n hC dX8_init_4 rfl ?_
  refine iw_new (ci := 4) (N := 9) (fs := [.null, .int 0, .int 0, .int 0, .long 0, .int 0, .int 0, .int 0, .int 0]) hC dX8_init_5 inlX6 tyX6_ok tw1_33 tw1_34 tw1_2 rfl (by decide +kernel) ⟨rfl, rfl⟩ (fun q1 => ?_)
  refine iw_dup hC dX8_init_8 ?_
  refine iw_callI (y := yX6_init) (n := 0) (b := q1) (mc2 := 2) (ms2 := 402) (As := []) hC dX8_init_9 (I_X6_init l D cy q1) (Or.inr ⟨"ParkingCircle", by decide +kernel⟩) tw1_2 tw1_37 tw1_36 rfl ⟨by decide, by decide, by decide +kernel⟩ rfl rfl rfl rfl rfl ⟨rfl, rfl⟩ rfl (fun f2 => ?_)
  refine iw_putF (q0 := 0) hC dX8_init_12 fg_RX8_12 ff_6_0 rfl rfl rfl rfl rfl ?_
  refine iw_eq (ws2 := (List.append ([(h0, .inr (6, [.ref q1, .null, .null, .null, .null, .null, .null, .null, .null, .null, .null, .null, .null, .int 0, .int 0, .int 0, .int 0, .int 0, .int 0]))]) (Y_X6_init cy q1 f2))) rfl ?_
  refine iw_aload_n hC dX8_init_15 rfl ?_
  refine iw_aload_n hC dX8_init_16 rfl ?_
  refine iw_get (q0 := 0) hC dX8_init_17 fg_RX8_12 rfl rfl ?_
  refine iw_callK [1] (n := 0) (b := q1) (ci := 4) (qb := 1) (As := []) hC dX8_init_20 cv_RX8_16 (I_X6_text l D cy q1 (f2 0) [.ref (f2 0), .int 0, .int 0, .int 0, .long 0, .int 0, .int 0, .int 0, .int (-1)] rfl) rfl rfl rfl rfl rfl rfl rfl rfl rfl ⟨rfl, rfl⟩ ?_
  refine iw_putF (q0 := 0) hC dX8_init_23 fg_RX8_20 ff_6_1 rfl rfl rfl rfl rfl ?_
  refine iw_eq (ws2 := (List.append ([(h0, .inr (6, [.ref q1, .ref (f2 0), .null, .null, .null, .null, .null, .null, .null, .null, .null, .null, .null, .int 0, .int 0, .int 0, .int 0, .int 0, .int 0]))]) (Y_X6_init cy q1 f2))) rfl ?_
  refine iw_aload_n hC dX8_init_26 rfl ?_
  refine iw_new (ci := 0) (N := 2) (fs := [.null, .int 0]) hC dX8_init_27 inlX1 tyX1_ok tw1_85 tw1_40 tw1_3 rfl (by decide +kernel) ⟨rfl, rfl⟩ (fun q3 => ?_)
  refine iw_dup hC dX8_init_30 ?_
  refine iw_bipush hC dX8_init_31 (v := 120) (by decide) ?_
  refine iw_callI (y := yX1_init) (n := 1) (b := q3) (mc2 := 1) (ms2 := 120) (As := [.int 120]) hC dX8_init_33 (I_X1_init l D cy q3 120 120 (by decide) (by decide) rfl) (Or.inl tw1_86) tw1_3 tw1_43 tw1_42 rfl ⟨by decide, by decide, by decide +kernel⟩ rfl rfl rfl rfl rfl ⟨rfl, rfl⟩ rfl (fun f4 => ?_)
  refine iw_putF (q0 := 0) hC dX8_init_36 fg_RX8_29 ff_6_2 rfl rfl rfl rfl rfl ?_
  refine iw_eq (ws2 := (List.append (List.append ([(h0, .inr (6, [.ref q1, .ref (f2 0), .ref q3, .null, .null, .null, .null, .null, .null, .null, .null, .null, .null, .int 0, .int 0, .int 0, .int 0, .int 0, .int 0]))]) (Y_X6_init cy q1 f2)) (Y_X1_init cy q3 120 f4))) rfl ?_
  refine iw_aload_n hC dX8_init_39 rfl ?_
  refine iw_new (ci := 3) (N := 7) (fs := [.null, .null, .null, .null, .null, .int 0, .int 0]) hC dX8_init_40 inlX5 tyX5_ok tw1_87 tw1_88 tw1_4 rfl (by decide +kernel) ⟨rfl, rfl⟩ (fun q5 => ?_)
  refine iw_dup hC dX8_init_43 ?_
  refine iw_callI (y := yX5_init) (n := 0) (b := q5) (mc2 := 5) (ms2 := 122) (As := []) hC dX8_init_44 (I_X5_init l D cy q5) (Or.inr ⟨"ParkingCircle", by decide +kernel⟩) tw1_4 tw1_91 tw1_90 rfl ⟨by decide, by decide, by decide +kernel⟩ rfl rfl rfl rfl rfl ⟨rfl, rfl⟩ rfl (fun f6 => ?_)
  refine iw_putF (q0 := 0) hC dX8_init_47 fg_RX8_35 ff_6_3 rfl rfl rfl rfl rfl ?_
  refine iw_eq (ws2 := (List.append (List.append (List.append ([(h0, .inr (6, [.ref q1, .ref (f2 0), .ref q3, .ref q5, .null, .null, .null, .null, .null, .null, .null, .null, .null, .int 0, .int 0, .int 0, .int 0, .int 0, .int 0]))]) (Y_X6_init cy q1 f2)) (Y_X1_init cy q3 120 f4)) (Y_X5_init cy q5 f6))) rfl ?_
  refine iw_aload_n hC dX8_init_50 rfl ?_
  refine iw_new (ci := 1) (N := 4) (fs := [.null, .null, .int 0, .int 0]) hC dX8_init_51 inlX2 tyX2_ok tw1_119 tw1_120 tw1_5 rfl (by decide +kernel) ⟨rfl, rfl⟩ (fun q7 => ?_)
  refine iw_dup hC dX8_init_54 ?_
  refine iw_callI (y := yX2_init) (n := 0) (b := q7) (mc2 := 2) (ms2 := 22) (As := []) hC dX8_init_55 (I_X2_init l D cy q7) (Or.inr ⟨"ParkingCircle", by decide +kernel⟩) tw1_5 tw1_123 tw1_122 rfl ⟨by decide, by decide, by decide +kernel⟩ rfl rfl rfl rfl rfl ⟨rfl, rfl⟩ rfl (fun f8 => ?_)
  refine iw_putF (q0 := 0) hC dX8_init_58 fg_RX8_42 ff_6_4 rfl rfl rfl rfl rfl ?_
  refine iw_eq (ws2 := (List.append (List.append (List.append (List.append ([(h0, .inr (6, [.ref q1, .ref (f2 0), .ref q3, .ref q5, .ref q7, .null, .null, .null, .null, .null, .null, .null, .null, .int 0, .int 0, .int 0, .int 0, .int 0, .int 0]))]) (Y_X6_init cy q1 f2)) (Y_X1_init cy q3 120 f4)) (Y_X5_init cy q5 f6)) (Y_X2_init cy q7 f8))) rfl ?_
  refine iw_aload_n hC dX8_init_61 rfl ?_
  refine iw_new (ci := 1) (N := 4) (fs := [.null, .null, .int 0, .int 0]) hC dX8_init_62 inlX2 tyX2_ok tw1_119 tw1_120 tw1_5 rfl (by decide +kernel) ⟨rfl, rfl⟩ (fun q9 => ?_)
  refine iw_dup hC dX8_init_65 ?_
  refine iw_callI (y := yX2_init) (n := 0) (b := q9) (mc2 := 2) (ms2 := 22) (As := []) hC dX8_init_66 (I_X2_init l D cy q9) (Or.inr ⟨"ParkingCircle", by decide +kernel⟩) tw1_5 tw1_123 tw1_122 rfl ⟨by decide, by decide, by decide +kernel⟩ rfl rfl rfl rfl rfl ⟨rfl, rfl⟩ rfl (fun f10 => ?_)
  refine iw_putF (q0 := 0) hC dX8_init_69 fg_RX8_46 ff_6_5 rfl rfl rfl rfl rfl ?_
  refine iw_eq (ws2 := (List.append (List.append (List.append (List.append (List.append ([(h0, .inr (6, [.ref q1, .ref (f2 0), .ref q3, .ref q5, .ref q7, .ref q9, .null, .null, .null, .null, .null, .null, .null, .int 0, .int 0, .int 0, .int 0, .int 0, .int 0]))]) (Y_X6_init cy q1 f2)) (Y_X1_init cy q3 120 f4)) (Y_X5_init cy q5 f6)) (Y_X2_init cy q7 f8)) (Y_X2_init cy q9 f10))) rfl ?_
  refine iw_aload_n hC dX8_init_72 rfl ?_
  refine iw_new (ci := 1) (N := 4) (fs := [.null, .null, .int 0, .int 0]) hC dX8_init_73 inlX2 tyX2_ok tw1_119 tw1_120 tw1_5 rfl (by decide +kernel) ⟨rfl, rfl⟩ (fun q11 => ?_)
  refine iw_dup hC dX8_init_76 ?_
  refine iw_callI (y := yX2_init) (n := 0) (b := q11) (mc2 := 2) (ms2 := 22) (As := []) hC dX8_init_77 (I_X2_init l D cy q11) (Or.inr ⟨"ParkingCircle", by decide +kernel⟩) tw1_5 tw1_123 tw1_122 rfl ⟨by decide, by decide, by decide +kernel⟩ rfl rfl rfl rfl rfl ⟨rfl, rfl⟩ rfl (fun f12 => ?_)
  refine iw_putF (q0 := 0) hC dX8_init_80 fg_RX8_49 ff_6_6 rfl rfl rfl rfl rfl ?_
  refine iw_eq (ws2 := (List.append (List.append (List.append (List.append (List.append (List.append ([(h0, .inr (6, [.ref q1, .ref (f2 0), .ref q3, .ref q5, .ref q7, .ref q9, .ref q11, .null, .null, .null, .null, .null, .null, .int 0, .int 0, .int 0, .int 0, .int 0, .int 0]))]) (Y_X6_init cy q1 f2)) (Y_X1_init cy q3 120 f4)) (Y_X5_init cy q5 f6)) (Y_X2_init cy q7 f8)) (Y_X2_init cy q9 f10)) (Y_X2_init cy q11 f12))) rfl ?_
  refine iw_aload_n hC dX8_init_83 rfl ?_
  refine iw_new (ci := 1) (N := 4) (fs := [.null, .null, .int 0, .int 0]) hC dX8_init_84 inlX2 tyX2_ok tw1_119 tw1_120 tw1_5 rfl (by decide +kernel) ⟨rfl, rfl⟩ (fun q13 => ?_)
  refine iw_dup hC dX8_init_87 ?_
  refine iw_callI (y := yX2_init) (n := 0) (b := q13) (mc2 := 2) (ms2 := 22) (As := []) hC dX8_init_88 (I_X2_init l D cy q13) (Or.inr ⟨"ParkingCircle", by decide +kernel⟩) tw1_5 tw1_123 tw1_122 rfl ⟨by decide, by decide, by decide +kernel⟩ rfl rfl rfl rfl rfl ⟨rfl, rfl⟩ rfl (fun f14 => ?_)
  refine iw_putF (q0 := 0) hC dX8_init_91 fg_RX8_52 ff_6_7 rfl rfl rfl rfl rfl ?_
  refine iw_eq (ws2 := (List.append (List.append (List.append (List.append (List.append (List.append (List.append ([(h0, .inr (6, [.ref q1, .ref (f2 0), .ref q3, .ref q5, .ref q7, .ref q9, .ref q11, .ref q13, .null, .null, .null, .null, .null, .int 0, .int 0, .int 0, .int 0, .int 0, .int 0]))]) (Y_X6_init cy q1 f2)) (Y_X1_init cy q3 120 f4)) (Y_X5_init cy q5 f6)) (Y_X2_init cy q7 f8)) (Y_X2_init cy q9 f10)) (Y_X2_init cy q11 f12)) (Y_X2_init cy q13 f14))) rfl ?_
  refine iw_aload_n hC dX8_init_94 rfl ?_
  refine iw_bipush hC dX8_init_95 (v := 6) (by decide) ?_
  refine iw_newq (C := "ParkingCircle$Cars") (t := 5) (N := 6) hC dX8_init_97 tw1_119 hC.2.2.2.2.2.2.1.2.2.1 rfl (by decide) (by decide) rfl ⟨rfl, rfl⟩ (fun q15 => ?_)
  refine iw_putF (q0 := 0) hC dX8_init_100 fg_RX8_55 ff_6_8 rfl rfl rfl rfl rfl ?_
  refine iw_eq (ws2 := (List.append (List.append (List.append (List.append (List.append (List.append (List.append (List.append ([(h0, .inr (6, [.ref q1, .ref (f2 0), .ref q3, .ref q5, .ref q7, .ref q9, .ref q11, .ref q13, .ref q15, .null, .null, .null, .null, .int 0, .int 0, .int 0, .int 0, .int 0, .int 0]))]) (Y_X6_init cy q1 f2)) (Y_X1_init cy q3 120 f4)) (Y_X5_init cy q5 f6)) (Y_X2_init cy q7 f8)) (Y_X2_init cy q9 f10)) (Y_X2_init cy q11 f12)) (Y_X2_init cy q13 f14)) ([(q15, .inl (cy 5, 6, .inr (.inr (.inr (.inr (fun _ => none))))))]))) rfl ?_
  refine iw_aload_n hC dX8_init_103 rfl ?_
  refine iw_new (ci := 2) (N := 9) (fs := [.null, .null, .null, .null, .int 0, .int 0, .int 0, .int 0, .int 0]) hC dX8_init_104 inlX4 tyX4_ok tw1_139 tw1_140 tw1_6 rfl (by decide +kernel) ⟨rfl, rfl⟩ (fun q16 => ?_)
  refine iw_dup hC dX8_init_107 ?_
  refine iw_callI (y := yX4_init) (n := 0) (b := q16) (mc2 := 4) (ms2 := 45) (As := []) hC dX8_init_108 (I_X4_init l D cy q16) (Or.inr ⟨"ParkingCircle", by decide +kernel⟩) tw1_6 tw1_143 tw1_142 rfl ⟨by decide, by decide, by decide +kernel⟩ rfl rfl rfl rfl rfl ⟨rfl, rfl⟩ rfl (fun f17 => ?_)
  refine iw_putF (q0 := 0) hC dX8_init_111 fg_RX8_62 ff_6_9 rfl rfl rfl rfl rfl ?_
  refine iw_eq (ws2 := (List.append (List.append (List.append (List.append (List.append (List.append (List.append (List.append (List.append ([(h0, .inr (6, [.ref q1, .ref (f2 0), .ref q3, .ref q5, .ref q7, .ref q9, .ref q11, .ref q13, .ref q15, .ref q16, .null, .null, .null, .int 0, .int 0, .int 0, .int 0, .int 0, .int 0]))]) (Y_X6_init cy q1 f2)) (Y_X1_init cy q3 120 f4)) (Y_X5_init cy q5 f6)) (Y_X2_init cy q7 f8)) (Y_X2_init cy q9 f10)) (Y_X2_init cy q11 f12)) (Y_X2_init cy q13 f14)) ([(q15, .inl (cy 5, 6, .inr (.inr (.inr (.inr (fun _ => none))))))])) (Y_X4_init cy q16 f17))) rfl ?_
  refine iw_aload_n hC dX8_init_114 rfl ?_
  refine iw_new (ci := 2) (N := 9) (fs := [.null, .null, .null, .null, .int 0, .int 0, .int 0, .int 0, .int 0]) hC dX8_init_115 inlX4 tyX4_ok tw1_139 tw1_140 tw1_6 rfl (by decide +kernel) ⟨rfl, rfl⟩ (fun q18 => ?_)
  refine iw_dup hC dX8_init_118 ?_
  refine iw_callI (y := yX4_init) (n := 0) (b := q18) (mc2 := 4) (ms2 := 45) (As := []) hC dX8_init_119 (I_X4_init l D cy q18) (Or.inr ⟨"ParkingCircle", by decide +kernel⟩) tw1_6 tw1_143 tw1_142 rfl ⟨by decide, by decide, by decide +kernel⟩ rfl rfl rfl rfl rfl ⟨rfl, rfl⟩ rfl (fun f19 => ?_)
  refine iw_putF (q0 := 0) hC dX8_init_122 fg_RX8_66 ff_6_10 rfl rfl rfl rfl rfl ?_
  refine iw_eq (ws2 := (List.append (List.append (List.append (List.append (List.append (List.append (List.append (List.append (List.append (List.append ([(h0, .inr (6, [.ref q1, .ref (f2 0), .ref q3, .ref q5, .ref q7, .ref q9, .ref q11, .ref q13, .ref q15, .ref q16, .ref q18, .null, .null, .int 0, .int 0, .int 0, .int 0, .int 0, .int 0]))]) (Y_X6_init cy q1 f2)) (Y_X1_init cy q3 120 f4)) (Y_X5_init cy q5 f6)) (Y_X2_init cy q7 f8)) (Y_X2_init cy q9 f10)) (Y_X2_init cy q11 f12)) (Y_X2_init cy q13 f14)) ([(q15, .inl (cy 5, 6, .inr (.inr (.inr (.inr (fun _ => none))))))])) (Y_X4_init cy q16 f17)) (Y_X4_init cy q18 f19))) rfl ?_
  refine iw_aload_n hC dX8_init_125 rfl ?_
  refine iw_new (ci := 5) (N := 9) (fs := [.null, .null, .null, .null, .null, .null, .int 0, .int 0, .int 0]) hC dX8_init_126 inlX7 tyX7_ok tw1_173 tw1_174 tw1_7 rfl (by decide +kernel) ⟨rfl, rfl⟩ (fun q20 => ?_)
  refine iw_dup hC dX8_init_129 ?_
  refine iw_callI (y := yX7_init) (n := 0) (b := q20) (mc2 := 18) (ms2 := 212) (As := []) hC dX8_init_130 (I_X7_init l D cy q20) (Or.inr ⟨"ParkingCircle", by decide +kernel⟩) tw1_7 tw1_177 tw1_176 rfl ⟨by decide, by decide, by decide +kernel⟩ rfl rfl rfl rfl rfl ⟨rfl, rfl⟩ rfl (fun f21 => ?_)
  refine iw_putF (q0 := 0) hC dX8_init_133 fg_RX8_72 ff_6_11 rfl rfl rfl rfl rfl ?_
  refine iw_eq (ws2 := (List.append (List.append (List.append (List.append (List.append (List.append (List.append (List.append (List.append (List.append (List.append ([(h0, .inr (6, [.ref q1, .ref (f2 0), .ref q3, .ref q5, .ref q7, .ref q9, .ref q11, .ref q13, .ref q15, .ref q16, .ref q18, .ref q20, .null, .int 0, .int 0, .int 0, .int 0, .int 0, .int 0]))]) (Y_X6_init cy q1 f2)) (Y_X1_init cy q3 120 f4)) (Y_X5_init cy q5 f6)) (Y_X2_init cy q7 f8)) (Y_X2_init cy q9 f10)) (Y_X2_init cy q11 f12)) (Y_X2_init cy q13 f14)) ([(q15, .inl (cy 5, 6, .inr (.inr (.inr (.inr (fun _ => none))))))])) (Y_X4_init cy q16 f17)) (Y_X4_init cy q18 f19)) (Y_X7_init cy q20 f21))) rfl ?_
  refine iw_aload_n hC dX8_init_136 rfl ?_
  refine iw_iconst hC dX8_init_137 (v := 5) (by decide) ?_
  refine iw_newa (atype := .int) (t := 1) (N := 5) (a0 := (5, .inl (fun _ => 0))) hC dX8_init_138 tw1_118 rfl rfl ra_int (fun _ => rfl) (by decide) (by decide) rfl ⟨rfl, rfl⟩ (fun q22 => ?_)
  refine iw_putF (q0 := 0) hC dX8_init_140 fg_RX8_76 ff_6_12 rfl rfl rfl rfl rfl ?_
  refine iw_eq (ws2 := (List.append (List.append (List.append (List.append (List.append (List.append (List.append (List.append (List.append (List.append (List.append (List.append ([(h0, .inr (6, [.ref q1, .ref (f2 0), .ref q3, .ref q5, .ref q7, .ref q9, .ref q11, .ref q13, .ref q15, .ref q16, .ref q18, .ref q20, .ref q22, .int 0, .int 0, .int 0, .int 0, .int 0, .int 0]))]) (Y_X6_init cy q1 f2)) (Y_X1_init cy q3 120 f4)) (Y_X5_init cy q5 f6)) (Y_X2_init cy q7 f8)) (Y_X2_init cy q9 f10)) (Y_X2_init cy q11 f12)) (Y_X2_init cy q13 f14)) ([(q15, .inl (cy 5, 6, .inr (.inr (.inr (.inr (fun _ => none))))))])) (Y_X4_init cy q16 f17)) (Y_X4_init cy q18 f19)) (Y_X7_init cy q20 f21)) ([(q22, .inl (cy 1, 5, .inl (fun _ => 0)))]))) rfl ?_
  refine iw_aload_n hC dX8_init_143 rfl ?_
  refine iw_iconst hC dX8_init_144 (v := 0) (by decide) ?_
  refine iw_put (q0 := 0) hC dX8_init_145 fg_RX8_80 fq_6_13 rfl rfl (by decide) rfl ?_
  refine iw_eq (ws2 := (List.append (List.append (List.append (List.append (List.append (List.append (List.append (List.append (List.append (List.append (List.append (List.append ([(h0, .inr (6, [.ref q1, .ref (f2 0), .ref q3, .ref q5, .ref q7, .ref q9, .ref q11, .ref q13, .ref q15, .ref q16, .ref q18, .ref q20, .ref q22, .int 0, .int 0, .int 0, .int 0, .int 0, .int 0]))]) (Y_X6_init cy q1 f2)) (Y_X1_init cy q3 120 f4)) (Y_X5_init cy q5 f6)) (Y_X2_init cy q7 f8)) (Y_X2_init cy q9 f10)) (Y_X2_init cy q11 f12)) (Y_X2_init cy q13 f14)) ([(q15, .inl (cy 5, 6, .inr (.inr (.inr (.inr (fun _ => none))))))])) (Y_X4_init cy q16 f17)) (Y_X4_init cy q18 f19)) (Y_X7_init cy q20 f21)) ([(q22, .inl (cy 1, 5, .inl (fun _ => 0)))]))) rfl ?_
  refine iw_aload_n hC dX8_init_148 rfl ?_
  refine iw_iconst hC dX8_init_149 (v := 0) (by decide) ?_
  refine iw_put (q0 := 0) hC dX8_init_150 fg_RX8_84 fq_6_14 rfl rfl (by decide) rfl ?_
  refine iw_eq (ws2 := (List.append (List.append (List.append (List.append (List.append (List.append (List.append (List.append (List.append (List.append (List.append (List.append ([(h0, .inr (6, [.ref q1, .ref (f2 0), .ref q3, .ref q5, .ref q7, .ref q9, .ref q11, .ref q13, .ref q15, .ref q16, .ref q18, .ref q20, .ref q22, .int 0, .int 0, .int 0, .int 0, .int 0, .int 0]))]) (Y_X6_init cy q1 f2)) (Y_X1_init cy q3 120 f4)) (Y_X5_init cy q5 f6)) (Y_X2_init cy q7 f8)) (Y_X2_init cy q9 f10)) (Y_X2_init cy q11 f12)) (Y_X2_init cy q13 f14)) ([(q15, .inl (cy 5, 6, .inr (.inr (.inr (.inr (fun _ => none))))))])) (Y_X4_init cy q16 f17)) (Y_X4_init cy q18 f19)) (Y_X7_init cy q20 f21)) ([(q22, .inl (cy 1, 5, .inl (fun _ => 0)))]))) rfl ?_
  refine iw_aload_n hC dX8_init_153 rfl ?_
  refine iw_iconst hC dX8_init_154 (v := 0) (by decide) ?_
  refine iw_put (q0 := 0) hC dX8_init_155 fg_RX8_88 fq_6_15 rfl rfl (by decide) rfl ?_
  refine iw_eq (ws2 := (List.append (List.append (List.append (List.append (List.append (List.append (List.append (List.append (List.append (List.append (List.append (List.append ([(h0, .inr (6, [.ref q1, .ref (f2 0), .ref q3, .ref q5, .ref q7, .ref q9, .ref q11, .ref q13, .ref q15, .ref q16, .ref q18, .ref q20, .ref q22, .int 0, .int 0, .int 0, .int 0, .int 0, .int 0]))]) (Y_X6_init cy q1 f2)) (Y_X1_init cy q3 120 f4)) (Y_X5_init cy q5 f6)) (Y_X2_init cy q7 f8)) (Y_X2_init cy q9 f10)) (Y_X2_init cy q11 f12)) (Y_X2_init cy q13 f14)) ([(q15, .inl (cy 5, 6, .inr (.inr (.inr (.inr (fun _ => none))))))])) (Y_X4_init cy q16 f17)) (Y_X4_init cy q18 f19)) (Y_X7_init cy q20 f21)) ([(q22, .inl (cy 1, 5, .inl (fun _ => 0)))]))) rfl ?_
  refine iw_aload_n hC dX8_init_158 rfl ?_
  refine iw_iconst hC dX8_init_159 (v := 0) (by decide) ?_
  refine iw_put (q0 := 0) hC dX8_init_160 fg_RX8_91 fq_6_16 rfl rfl (by decide) rfl ?_
  refine iw_eq (ws2 := (List.append (List.append (List.append (List.append (List.append (List.append (List.append (List.append (List.append (List.append (List.append (List.append ([(h0, .inr (6, [.ref q1, .ref (f2 0), .ref q3, .ref q5, .ref q7, .ref q9, .ref q11, .ref q13, .ref q15, .ref q16, .ref q18, .ref q20, .ref q22, .int 0, .int 0, .int 0, .int 0, .int 0, .int 0]))]) (Y_X6_init cy q1 f2)) (Y_X1_init cy q3 120 f4)) (Y_X5_init cy q5 f6)) (Y_X2_init cy q7 f8)) (Y_X2_init cy q9 f10)) (Y_X2_init cy q11 f12)) (Y_X2_init cy q13 f14)) ([(q15, .inl (cy 5, 6, .inr (.inr (.inr (.inr (fun _ => none))))))])) (Y_X4_init cy q16 f17)) (Y_X4_init cy q18 f19)) (Y_X7_init cy q20 f21)) ([(q22, .inl (cy 1, 5, .inl (fun _ => 0)))]))) rfl ?_
  refine iw_aload_n hC dX8_init_163 rfl ?_
  refine iw_iconst hC dX8_init_164 (v := 0) (by decide) ?_
  refine iw_put (q0 := 0) hC dX8_init_165 fg_RX8_94 fq_6_17 rfl rfl (by decide) rfl ?_
  refine iw_eq (ws2 := (List.append (List.append (List.append (List.append (List.append (List.append (List.append (List.append (List.append (List.append (List.append (List.append ([(h0, .inr (6, [.ref q1, .ref (f2 0), .ref q3, .ref q5, .ref q7, .ref q9, .ref q11, .ref q13, .ref q15, .ref q16, .ref q18, .ref q20, .ref q22, .int 0, .int 0, .int 0, .int 0, .int 0, .int 0]))]) (Y_X6_init cy q1 f2)) (Y_X1_init cy q3 120 f4)) (Y_X5_init cy q5 f6)) (Y_X2_init cy q7 f8)) (Y_X2_init cy q9 f10)) (Y_X2_init cy q11 f12)) (Y_X2_init cy q13 f14)) ([(q15, .inl (cy 5, 6, .inr (.inr (.inr (.inr (fun _ => none))))))])) (Y_X4_init cy q16 f17)) (Y_X4_init cy q18 f19)) (Y_X7_init cy q20 f21)) ([(q22, .inl (cy 1, 5, .inl (fun _ => 0)))]))) rfl ?_
  refine iw_aload_n hC dX8_init_168 rfl ?_
  refine iw_iconst hC dX8_init_169 (v := -1) (by decide) ?_
  refine iw_put (q0 := 0) hC dX8_init_170 fg_RX8_97 fq_6_18 rfl rfl (by decide) rfl ?_
  refine iw_eq (ws2 := (List.append (List.append (List.append (List.append (List.append (List.append (List.append (List.append (List.append (List.append (List.append (List.append ([(h0, .inr (6, [.ref q1, .ref (f2 0), .ref q3, .ref q5, .ref q7, .ref q9, .ref q11, .ref q13, .ref q15, .ref q16, .ref q18, .ref q20, .ref q22, .int 0, .int 0, .int 0, .int 0, .int 0, .int (-1)]))]) (Y_X6_init cy q1 f2)) (Y_X1_init cy q3 120 f4)) (Y_X5_init cy q5 f6)) (Y_X2_init cy q7 f8)) (Y_X2_init cy q9 f10)) (Y_X2_init cy q11 f12)) (Y_X2_init cy q13 f14)) ([(q15, .inl (cy 5, 6, .inr (.inr (.inr (.inr (fun _ => none))))))])) (Y_X4_init cy q16 f17)) (Y_X4_init cy q18 f19)) (Y_X7_init cy q20 f21)) ([(q22, .inl (cy 1, 5, .inl (fun _ => 0)))]))) rfl ?_
  refine iw_iconst hC dX8_init_173 (v := 0) (by decide) ?_
  refine iw_istore_n hC dX8_init_174 (by decide) ?_
  refine iw_iload_n hC dX8_init_175 rfl ?_
  refine iw_bipush hC dX8_init_176 (v := 6) (by decide) ?_
  refine iw_icmp_ge_f hC dX8_init_178 (tgt := 200) (by decide) (by decide) ?_
  refine iw_aload_n hC dX8_init_181 rfl ?_
  refine iw_get (q0 := 0) hC dX8_init_182 fg_RX8_55 rfl rfl ?_
  refine iw_iload_n hC dX8_init_185 rfl ?_
  refine iw_new (ci := 1) (N := 4) (fs := [.null, .null, .int 0, .int 0]) hC dX8_init_186 inlX2 tyX2_ok tw1_119 tw1_120 tw1_5 rfl (by decide +kernel) ⟨rfl, rfl⟩ (fun q23 => ?_)
  refine iw_dup hC dX8_init_189 ?_
  refine iw_callI (y := yX2_init) (n := 0) (b := q23) (mc2 := 2) (ms2 := 22) (As := []) hC dX8_init_190 (I_X2_init l D cy q23) (Or.inr ⟨"ParkingCircle", by decide +kernel⟩) tw1_5 tw1_123 tw1_122 rfl ⟨by decide, by decide, by decide +kernel⟩ rfl rfl rfl rfl rfl ⟨rfl, rfl⟩ rfl (fun f24 => ?_)
  refine iw_aast (q0 := 24) (qk := 55) (t := 5) (ci := 1) hC dX8_init_193 rfl rfl rfl rfl rfl ?_
  refine iw_iinc hC dX8_init_194 rfl (v := 1) (by decide) (by decide) ?_
  refine iw_goto hC dX8_init_197 (tgt := 175) (by decide) ?_
  refine iw_iload_n hC dX8_init_175 rfl ?_
  refine iw_bipush hC dX8_init_176 (v := 6) (by decide) ?_
  refine iw_icmp_ge_f hC dX8_init_178 (tgt := 200) (by decide) (by decide) ?_
  refine iw_aload_n hC dX8_init_181 rfl ?_
  refine iw_get (q0 := 0) hC dX8_init_182 fg_RX8_55 rfl rfl ?_
  refine iw_iload_n hC dX8_init_185 rfl ?_
  refine iw_new (ci := 1) (N := 4) (fs := [.null, .null, .int 0, .int 0]) hC dX8_init_186 inlX2 tyX2_ok tw1_119 tw1_120 tw1_5 rfl (by decide +kernel) ⟨rfl, rfl⟩ (fun q25 => ?_)
  refine iw_dup hC dX8_init_189 ?_
  refine iw_callI (y := yX2_init) (n := 0) (b := q25) (mc2 := 2) (ms2 := 22) (As := []) hC dX8_init_190 (I_X2_init l D cy q25) (Or.inr ⟨"ParkingCircle", by decide +kernel⟩) tw1_5 tw1_123 tw1_122 rfl ⟨by decide, by decide, by decide +kernel⟩ rfl rfl rfl rfl rfl ⟨rfl, rfl⟩ rfl (fun f26 => ?_)
  refine iw_aast (q0 := 24) (qk := 58) (t := 5) (ci := 1) hC dX8_init_193 rfl rfl rfl rfl rfl ?_
  refine iw_iinc hC dX8_init_194 rfl (v := 2) (by decide) (by decide) ?_
  refine iw_goto hC dX8_init_197 (tgt := 175) (by decide) ?_
  refine iw_iload_n hC dX8_init_175 rfl ?_
  refine iw_bipush hC dX8_init_176 (v := 6) (by decide) ?_
  refine iw_icmp_ge_f hC dX8_init_178 (tgt := 200) (by decide) (by decide) ?_
  refine iw_aload_n hC dX8_init_181 rfl ?_
  refine iw_get (q0 := 0) hC dX8_init_182 fg_RX8_55 rfl rfl ?_
  refine iw_iload_n hC dX8_init_185 rfl ?_
  refine iw_new (ci := 1) (N := 4) (fs := [.null, .null, .int 0, .int 0]) hC dX8_init_186 inlX2 tyX2_ok tw1_119 tw1_120 tw1_5 rfl (by decide +kernel) ⟨rfl, rfl⟩ (fun q27 => ?_)
  refine iw_dup hC dX8_init_189 ?_
  refine iw_callI (y := yX2_init) (n := 0) (b := q27) (mc2 := 2) (ms2 := 22) (As := []) hC dX8_init_190 (I_X2_init l D cy q27) (Or.inr ⟨"ParkingCircle", by decide +kernel⟩) tw1_5 tw1_123 tw1_122 rfl ⟨by decide, by decide, by decide +kernel⟩ rfl rfl rfl rfl rfl ⟨rfl, rfl⟩ rfl (fun f28 => ?_)
  refine iw_aast (q0 := 24) (qk := 61) (t := 5) (ci := 1) hC dX8_init_193 rfl rfl rfl rfl rfl ?_
  refine iw_iinc hC dX8_init_194 rfl (v := 3) (by decide) (by decide) ?_
  refine iw_goto hC dX8_init_197 (tgt := 175) (by decide) ?_
  refine iw_iload_n hC dX8_init_175 rfl ?_
  refine iw_bipush hC dX8_init_176 (v := 6) (by decide) ?_
  refine iw_icmp_ge_f hC dX8_init_178 (tgt := 200) (by decide) (by decide) ?_
  refine iw_aload_n hC dX8_init_181 rfl ?_
  refine iw_get (q0 := 0) hC dX8_init_182 fg_RX8_55 rfl rfl ?_
  refine iw_iload_n hC dX8_init_185 rfl ?_
  refine iw_new (ci := 1) (N := 4) (fs := [.null, .null, .int 0, .int 0]) hC dX8_init_186 inlX2 tyX2_ok tw1_119 tw1_120 tw1_5 rfl (by decide +kernel) ⟨rfl, rfl⟩ (fun q29 => ?_)
  refine iw_dup hC dX8_init_189 ?_
  refine iw_callI (y := yX2_init) (n := 0) (b := q29) (mc2 := 2) (ms2 := 22) (As := []) hC dX8_init_190 (I_X2_init l D cy q29) (Or.inr ⟨"ParkingCircle", by decide +kernel⟩) tw1_5 tw1_123 tw1_122 rfl ⟨by decide, by decide, by decide +kernel⟩ rfl rfl rfl rfl rfl ⟨rfl, rfl⟩ rfl (fun f30 => ?_)
  refine iw_aast (q0 := 24) (qk := 64) (t := 5) (ci := 1) hC dX8_init_193 rfl rfl rfl rfl rfl ?_
  refine iw_iinc hC dX8_init_194 rfl (v := 4) (by decide) (by decide) ?_
  refine iw_goto hC dX8_init_197 (tgt := 175) (by decide) ?_
  refine iw_iload_n hC dX8_init_175 rfl ?_
  refine iw_bipush hC dX8_init_176 (v := 6) (by decide) ?_
  refine iw_icmp_ge_f hC dX8_init_178 (tgt := 200) (by decide) (by decide) ?_
  refine iw_aload_n hC dX8_init_181 rfl ?_
  refine iw_get (q0 := 0) hC dX8_init_182 fg_RX8_55 rfl rfl ?_
  refine iw_iload_n hC dX8_init_185 rfl ?_
  refine iw_new (ci := 1) (N := 4) (fs := [.null, .null, .int 0, .int 0]) hC dX8_init_186 inlX2 tyX2_ok tw1_119 tw1_120 tw1_5 rfl (by decide +kernel) ⟨rfl, rfl⟩ (fun q31 => ?_)
  refine iw_dup hC dX8_init_189 ?_
  refine iw_callI (y := yX2_init) (n := 0) (b := q31) (mc2 := 2) (ms2 := 22) (As := []) hC dX8_init_190 (I_X2_init l D cy q31) (Or.inr ⟨"ParkingCircle", by decide +kernel⟩) tw1_5 tw1_123 tw1_122 rfl ⟨by decide, by decide, by decide +kernel⟩ rfl rfl rfl rfl rfl ⟨rfl, rfl⟩ rfl (fun f32 => ?_)
  refine iw_aast (q0 := 24) (qk := 67) (t := 5) (ci := 1) hC dX8_init_193 rfl rfl rfl rfl rfl ?_
  refine iw_iinc hC dX8_init_194 rfl (v := 5) (by decide) (by decide) ?_
  refine iw_goto hC dX8_init_197 (tgt := 175) (by decide) ?_
  refine iw_iload_n hC dX8_init_175 rfl ?_
  refine iw_bipush hC dX8_init_176 (v := 6) (by decide) ?_
  refine iw_icmp_ge_f hC dX8_init_178 (tgt := 200) (by decide) (by decide) ?_
  refine iw_aload_n hC dX8_init_181 rfl ?_
  refine iw_get (q0 := 0) hC dX8_init_182 fg_RX8_55 rfl rfl ?_
  refine iw_iload_n hC dX8_init_185 rfl ?_
  refine iw_new (ci := 1) (N := 4) (fs := [.null, .null, .int 0, .int 0]) hC dX8_init_186 inlX2 tyX2_ok tw1_119 tw1_120 tw1_5 rfl (by decide +kernel) ⟨rfl, rfl⟩ (fun q33 => ?_)
  refine iw_dup hC dX8_init_189 ?_
  refine iw_callI (y := yX2_init) (n := 0) (b := q33) (mc2 := 2) (ms2 := 22) (As := []) hC dX8_init_190 (I_X2_init l D cy q33) (Or.inr ⟨"ParkingCircle", by decide +kernel⟩) tw1_5 tw1_123 tw1_122 rfl ⟨by decide, by decide, by decide +kernel⟩ rfl rfl rfl rfl rfl ⟨rfl, rfl⟩ rfl (fun f34 => ?_)
  refine iw_aast (q0 := 24) (qk := 70) (t := 5) (ci := 1) hC dX8_init_193 rfl rfl rfl rfl rfl ?_
  refine iw_iinc hC dX8_init_194 rfl (v := 6) (by decide) (by decide) ?_
  refine iw_goto hC dX8_init_197 (tgt := 175) (by decide) ?_
  refine iw_iload_n hC dX8_init_175 rfl ?_
  refine iw_bipush hC dX8_init_176 (v := 6) (by decide) ?_
  refine iw_icmp_ge_t hC dX8_init_178 (tgt := 200) (by decide) (by decide) ?_
  exact iw_vret (fun i => ([q1, (f2 0), (f2 1), q3, (f4 0), q5, (f6 0), (f6 1), (f6 2), (f6 3), (f6 4), q7, (f8 0), (f8 1), q9, (f10 0), (f10 1), q11, (f12 0), (f12 1), q13, (f14 0), (f14 1), q15, q16, (f17 0), (f17 1), (f17 2), (f17 3), q18, (f19 0), (f19 1), (f19 2), (f19 3), q20, (f21 0), (f21 1), (f21 2), (f21 3), (f21 4), (f21 5), (f21 6), (f21 7), (f21 8), (f21 9), (f21 10), (f21 11), (f21 12), (f21 13), (f21 14), (f21 15), (f21 16), (f21 17), q22, q23, (f24 0), (f24 1), q25, (f26 0), (f26 1), q27, (f28 0), (f28 1), q29, (f30 0), (f30 1), q31, (f32 0), (f32 1), q33, (f34 0), (f34 1)] : List Nat).getD i 0) hC hA dX8_init_200 rfl rfl rfl rfl
