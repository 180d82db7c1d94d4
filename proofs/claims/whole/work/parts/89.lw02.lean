section LWC
variable {p : Program} {l : Launch} {e : Env} {R : Room} {s : State} {m : MethodId} {args : Array Value} {below : List Frame} {meth : Method} {c : Code} {D : va_G} {loc : Rf → Nat} {cy : Nat → ClassId} {A : Nat → Prop} {ret : Option FieldType} {cb sb : Nat} {Qof : RR → State → Prop} {α : Type} {RF : α → Option RR} {kn : Nat × Nat} {h : HD} {X : α} {b n : Nat} {xs : Nat → Int32} {i : Int32}
theorem W_14 (hC : Cx p l e R s m args meth c D loc cy A cL_law 9 ret RL 2048 84000 cb sb) (hX : SX A s b n xs) (hI : IB i n) (hkn : kn.1 + 3 ≤ cb ∧ kn.2 + 18 ≤ sb) (hR : Rel h) (kk : ∀ h2, Rel h2 → AW p l e R s m args below meth c D loc cy A 9 Qof RF (kn.1 + 3, kn.2 + 18) 2459 (LL b loc i) [] h2 X) : AW p l e R s m args below meth c D loc cy A 9 Qof RF kn 944 (LL b loc i) [] h X := by
  have hl0 := hC.2.2.2.2.2.2.2.2.2.2.2.2.1
  obtain ⟨i1, i2, i3, i4, i5⟩ := hI
  unfold LL
  have hk0 : Nat.ble kn.1 cb = true ∧ Nat.ble kn.2 sb = true := ⟨ble_le (Nat.le_trans (Nat.le_add_right _ _) hkn.1), ble_le (Nat.le_trans (Nat.le_add_right _ _) hkn.2)⟩
  obtain ⟨v, h1, h2, e8, e9, hR2⟩ := p_isParking hR 
  refine aw_aload_n hC dL_law_944 rfl ?_
  refine aw_cVb (v := v) (h2 := h1) hC dL_law_945 cv_RL_167 rfl rm_6_0_0 (by have q := A_X8_isParking l hl0 D loc cy  h; rw [e8] at q; exact q) rfl rfl rfl rfl rfl hk0 ?_
  refine aw_aload_n hC dL_law_948 rfl ?_
  refine aw_cVb (v := v) (h2 := h2) hC dL_law_949 cv_RL_171 rfl rm_7_0_0 (by have q := A_X9_isParking l hl0 D loc cy  h1; rw [e9] at q; exact q) rfl rfl rfl rfl rfl hk0 ?_
  refine aw_icmp_eq_t hC dL_law_952 (tgt := 2459) (by decide) rfl ?_
  exact aw_widen (Nat.le_add_right _ _) (Nat.le_add_right _ _) (kk h2 hR2)
theorem W_15 (hC : Cx p l e R s m args meth c D loc cy A cL_law 9 ret RL 2048 84000 cb sb) (hX : SX A s b n xs) (hI : IB i n) (hkn : kn.1 + 3 ≤ cb ∧ kn.2 + 18 ≤ sb) (hR : Rel h) (kk : ∀ h2, Rel h2 → AW p l e R s m args below meth c D loc cy A 9 Qof RF (kn.1 + 3, kn.2 + 18) 2459 (LL b loc i) [] h2 X) : AW p l e R s m args below meth c D loc cy A 9 Qof RF kn 957 (LL b loc i) [] h X := by
  have hl0 := hC.2.2.2.2.2.2.2.2.2.2.2.2.1
  obtain ⟨i1, i2, i3, i4, i5⟩ := hI
  unfold LL
  have hk0 : Nat.ble kn.1 cb = true ∧ Nat.ble kn.2 sb = true := ⟨ble_le (Nat.le_trans (Nat.le_add_right _ _) hkn.1), ble_le (Nat.le_trans (Nat.le_add_right _ _) hkn.2)⟩
  obtain ⟨v, h1, h2, e8, e9, hR2⟩ := p_breakAt hR (xs (i + 1).toNatClampNeg)
  refine aw_aload_n hC dL_law_957 rfl ?_
  refine aw_aload_n hC dL_law_958 rfl ?_
  refine aw_iload hC dL_law_959 rfl ?_
  refine aw_iconst hC dL_law_961 (v := 1) (by decide) ?_
  refine aw_iadd hC dL_law_962 ?_
  refine aw_sld hC hX dL_law_963 i1 ?_
  refine aw_cVi (v := v) (h2 := h1) hC dL_law_964 cv_RL_172 rfl rm_6_0_0 (by have q := A_X8_breakAt l hl0 D loc cy (xs (i + 1).toNatClampNeg) h; rw [e8] at q; exact q) rfl rfl rfl rfl rfl hk0 ?_
  refine aw_aload_n hC dL_law_967 rfl ?_
  refine aw_aload_n hC dL_law_968 rfl ?_
  refine aw_iload hC dL_law_969 rfl ?_
  refine aw_iconst hC dL_law_971 (v := 1) (by decide) ?_
  refine aw_iadd hC dL_law_972 ?_
  refine aw_sld hC hX dL_law_973 i1 ?_
  refine aw_cVi (v := v) (h2 := h2) hC dL_law_974 cv_RL_175 rfl rm_7_0_0 (by have q := A_X9_breakAt l hl0 D loc cy (xs (i + 1).toNatClampNeg) h1; rw [e9] at q; exact q) rfl rfl rfl rfl rfl hk0 ?_
  refine aw_icmp_eq_t hC dL_law_977 (tgt := 2459) (by decide) rfl ?_
  exact aw_widen (Nat.le_add_right _ _) (Nat.le_add_right _ _) (kk h2 hR2)
theorem W_16 (hC : Cx p l e R s m args meth c D loc cy A cL_law 9 ret RL 2048 84000 cb sb) (hX : SX A s b n xs) (hI : IB i n) (hkn : kn.1 + 3 ≤ cb ∧ kn.2 + 18 ≤ sb) (hR : Rel h) (kk : ∀ h2, Rel h2 → AW p l e R s m args below meth c D loc cy A 9 Qof RF (kn.1 + 3, kn.2 + 18) 2459 (LL b loc i) [] h2 X) : AW p l e R s m args below meth c D loc cy A 9 Qof RF kn 982 (LL b loc i) [] h X := by
  have hl0 := hC.2.2.2.2.2.2.2.2.2.2.2.2.1
  obtain ⟨i1, i2, i3, i4, i5⟩ := hI
  unfold LL
  have hk0 : Nat.ble kn.1 cb = true ∧ Nat.ble kn.2 sb = true := ⟨ble_le (Nat.le_trans (Nat.le_add_right _ _) hkn.1), ble_le (Nat.le_trans (Nat.le_add_right _ _) hkn.2)⟩
  obtain ⟨r, h1, k, hL, v, hM, e8, hq, e9, hR2, ek, ej⟩ := PPL (by decide) (fun w h => o_X9_whoAfter w (xs (i + 1).toNatClampNeg) (xs (i + 2).toNatClampNeg) h) (p_whoAfter hR (xs (i + 1).toNatClampNeg) (xs (i + 2).toNatClampNeg))
  refine aw_aload_n hC dL_law_982 rfl ?_
  refine aw_aload_n hC dL_law_983 rfl ?_
  refine aw_iload hC dL_law_984 rfl ?_
  refine aw_iconst hC dL_law_986 (v := 1) (by decide) ?_
  refine aw_iadd hC dL_law_987 ?_
  refine aw_sld hC hX dL_law_988 i1 ?_
  refine aw_aload_n hC dL_law_989 rfl ?_
  refine aw_iload hC dL_law_990 rfl ?_
  refine aw_iconst hC dL_law_992 (v := 2) (by decide) ?_
  refine aw_iadd hC dL_law_993 ?_
  refine aw_sld hC hX dL_law_994 i2 ?_
  refine aw_aload_n hC dL_law_995 rfl ?_
  refine aw_callL (k := k) (h2 := hL) (mc2 := 2) (ms2 := 12) (As := [.ref (loc (6, 0, 0)), .int (xs (i + 1).toNatClampNeg), .int (xs (i + 2).toNatClampNeg), .ref (loc (8, 0, 1))]) hC dL_law_996 cl_RL_176 (A_L_whoAfter l hl0 D loc cy (xs (i + 1).toNatClampNeg) (xs (i + 2).toNatClampNeg) h (by have q := A_X8_whoAfter l hl0 D loc cy (xs (i + 1).toNatClampNeg) (xs (i + 2).toNatClampNeg) h; rw [e8] at q; exact q) hq) rfl rfl rfl rfl rfl ⟨Nat.le_trans (Nat.add_le_add_left (by decide) _) hkn.1, Nat.le_trans (Nat.add_le_add_left (by decide) _) hkn.2⟩ ?_
  have hk1 : Nat.ble (kn.1 + 2, kn.2 + 12).1 cb = true ∧ Nat.ble (kn.1 + 2, kn.2 + 12).2 sb = true := ⟨ble_le (Nat.le_trans (Nat.add_le_add_left (by decide) _) hkn.1), ble_le (Nat.le_trans (Nat.add_le_add_left (by decide) _) hkn.2)⟩
  refine aw_istore hC dL_law_999 (by decide) ?_
  refine aw_aload_n hC dL_law_1001 rfl ?_
  refine aw_aload_n hC dL_law_1002 rfl ?_
  refine aw_iload hC dL_law_1003 rfl ?_
  refine aw_iconst hC dL_law_1005 (v := 1) (by decide) ?_
  refine aw_iadd hC dL_law_1006 ?_
  refine aw_sld hC hX dL_law_1007 i1 ?_
  refine aw_aload_n hC dL_law_1008 rfl ?_
  refine aw_iload hC dL_law_1009 rfl ?_
  refine aw_iconst hC dL_law_1011 (v := 2) (by decide) ?_
  refine aw_iadd hC dL_law_1012 ?_
  refine aw_sld hC hX dL_law_1013 i2 ?_
  refine aw_cVi (v := v) (h2 := hM) hC dL_law_1014 cv_RL_178 rfl rm_7_0_0 (by have q := A_X9_whoAfter l hl0 D loc cy (xs (i + 1).toNatClampNeg) (xs (i + 2).toNatClampNeg) hL; rw [e9] at q; exact q) rfl rfl rfl rfl rfl hk1 ?_
  refine aw_istore hC dL_law_1017 (by decide) ?_
  refine aw_aload_n hC dL_law_1019 rfl ?_
  refine aw_cVi (v := jX9_thrown hM) (h2 := hM) hC dL_law_1020 cv_RL_118 rfl rm_7_0_0 (A_X9_thrown l hl0 D loc cy hM) rfl rfl rfl rfl rfl hk1 ?_
  refine aw_iload hC dL_law_1023 rfl ?_
  refine aw_icmp_eq_t hC dL_law_1025 (tgt := 1030) (by decide) ek ?_
  refine aw_iload hC dL_law_1030 rfl ?_
  have kE : AW p l e R s m args below meth c D loc cy A 9 Qof RF (kn.1 + 2, kn.2 + 12) 1047 [(0, .ref b), (1, .ref (loc (6, 0, 0))), (2, .ref (loc (7, 0, 0))), (3, .ref (loc (8, 0, 1))), (4, .int i)] [] hM X := by
    refine aw_goto hC dL_law_1047 (tgt := 2459) (by decide) ?_
    exact aw_widen (Nat.add_le_add_left (by decide) _) (Nat.add_le_add_left (by decide) _) (kk hM hR2)
  by_cases hk : k = 0
  · refine aw_if_ne_f hC dL_law_1032 (tgt := 1047) (by decide) (fun z => z hk) ?_
    refine aw_aload_n hC dL_law_1035 rfl ?_
    refine aw_iconst hC dL_law_1036 (v := 0) (by decide) ?_
    refine aw_lald (r := (8, 0, 1)) (n := 1) (k := 0) hC dL_law_1037 (by decide +kernel) rfl rfl rfl rfl ?_
    refine aw_iload hC dL_law_1038 rfl ?_
    refine aw_i2l hC dL_law_1040 ?_
    refine aw_lcmp hC dL_law_1041 ?_
    refine aw_if_eq_t hC dL_law_1042 (tgt := 1047) (by decide) (lcmp_eq (ej hk)) ?_
    exact aw_sub [0, 1, 2, 3, 4] kE
  · refine aw_if_ne_t hC dL_law_1032 (tgt := 1047) (by decide) hk ?_
    exact aw_sub [0, 1, 2, 3, 4] kE
theorem W_17 (hC : Cx p l e R s m args meth c D loc cy A cL_law 9 ret RL 2048 84000 cb sb) (hX : SX A s b n xs) (hI : IB i n) (hkn : kn.1 + 3 ≤ cb ∧ kn.2 + 18 ≤ sb) (hR : Rel h) (kk : ∀ h2, Rel h2 → AW p l e R s m args below meth c D loc cy A 9 Qof RF (kn.1 + 3, kn.2 + 18) 2459 (LL b loc i) [] h2 X) : AW p l e R s m args below meth c D loc cy A 9 Qof RF kn 1050 (LL b loc i) [] h X := by
  have hl0 := hC.2.2.2.2.2.2.2.2.2.2.2.2.1
  obtain ⟨i1, i2, i3, i4, i5⟩ := hI
  unfold LL
  have hk0 : Nat.ble kn.1 cb = true ∧ Nat.ble kn.2 sb = true := ⟨ble_le (Nat.le_trans (Nat.le_add_right _ _) hkn.1), ble_le (Nat.le_trans (Nat.le_add_right _ _) hkn.2)⟩
  obtain ⟨r, h1, k, hL, v, hM, e8, hq, e9, hR2, ek, ej⟩ := PPL (by decide) (fun w h => o_X9_longestAfter w (xs (i + 1).toNatClampNeg) h) (p_longestAfter hR (xs (i + 1).toNatClampNeg))
  refine aw_aload_n hC dL_law_1050 rfl ?_
  refine aw_aload_n hC dL_law_1051 rfl ?_
  refine aw_iload hC dL_law_1052 rfl ?_
  refine aw_iconst hC dL_law_1054 (v := 1) (by decide) ?_
  refine aw_iadd hC dL_law_1055 ?_
  refine aw_sld hC hX dL_law_1056 i1 ?_
  refine aw_aload_n hC dL_law_1057 rfl ?_
  refine aw_callL (k := k) (h2 := hL) (mc2 := 1) (ms2 := 6) (As := [.ref (loc (6, 0, 0)), .int (xs (i + 1).toNatClampNeg), .ref (loc (8, 0, 1))]) hC dL_law_1058 cl_RL_179 (A_L_longestAfter l hl0 D loc cy (xs (i + 1).toNatClampNeg) h (by have q := A_X8_longestAfter l hl0 D loc cy (xs (i + 1).toNatClampNeg) h; rw [e8] at q; exact q) hq) rfl rfl rfl rfl rfl ⟨Nat.le_trans (Nat.add_le_add_left (by decide) _) hkn.1, Nat.le_trans (Nat.add_le_add_left (by decide) _) hkn.2⟩ ?_
  have hk1 : Nat.ble (kn.1 + 1, kn.2 + 6).1 cb = true ∧ Nat.ble (kn.1 + 1, kn.2 + 6).2 sb = true := ⟨ble_le (Nat.le_trans (Nat.add_le_add_left (by decide) _) hkn.1), ble_le (Nat.le_trans (Nat.add_le_add_left (by decide) _) hkn.2)⟩
  refine aw_istore hC dL_law_1061 (by decide) ?_
  refine aw_aload_n hC dL_law_1063 rfl ?_
  refine aw_aload_n hC dL_law_1064 rfl ?_
  refine aw_iload hC dL_law_1065 rfl ?_
  refine aw_iconst hC dL_law_1067 (v := 1) (by decide) ?_
  refine aw_iadd hC dL_law_1068 ?_
  refine aw_sld hC hX dL_law_1069 i1 ?_
  refine aw_cVi (v := v) (h2 := hM) hC dL_law_1070 cv_RL_181 rfl rm_7_0_0 (by have q := A_X9_longestAfter l hl0 D loc cy (xs (i + 1).toNatClampNeg) hL; rw [e9] at q; exact q) rfl rfl rfl rfl rfl hk1 ?_
  refine aw_istore hC dL_law_1073 (by decide) ?_
  refine aw_aload_n hC dL_law_1075 rfl ?_
  refine aw_cVi (v := jX9_thrown hM) (h2 := hM) hC dL_law_1076 cv_RL_118 rfl rm_7_0_0 (A_X9_thrown l hl0 D loc cy hM) rfl rfl rfl rfl rfl hk1 ?_
  refine aw_iload hC dL_law_1079 rfl ?_
  refine aw_icmp_eq_t hC dL_law_1081 (tgt := 1086) (by decide) ek ?_
  refine aw_iload hC dL_law_1086 rfl ?_
  have kE : AW p l e R s m args below meth c D loc cy A 9 Qof RF (kn.1 + 1, kn.2 + 6) 1103 [(0, .ref b), (1, .ref (loc (6, 0, 0))), (2, .ref (loc (7, 0, 0))), (3, .ref (loc (8, 0, 1))), (4, .int i)] [] hM X := by
    refine aw_goto hC dL_law_1103 (tgt := 2459) (by decide) ?_
    exact aw_widen (Nat.add_le_add_left (by decide) _) (Nat.add_le_add_left (by decide) _) (kk hM hR2)
  by_cases hk : k = 0
  · refine aw_if_ne_f hC dL_law_1088 (tgt := 1103) (by decide) (fun z => z hk) ?_
    refine aw_aload_n hC dL_law_1091 rfl ?_
    refine aw_iconst hC dL_law_1092 (v := 0) (by decide) ?_
    refine aw_lald (r := (8, 0, 1)) (n := 1) (k := 0) hC dL_law_1093 (by decide +kernel) rfl rfl rfl rfl ?_
    refine aw_iload hC dL_law_1094 rfl ?_
    refine aw_i2l hC dL_law_1096 ?_
    refine aw_lcmp hC dL_law_1097 ?_
    refine aw_if_eq_t hC dL_law_1098 (tgt := 1103) (by decide) (lcmp_eq (ej hk)) ?_
    exact aw_sub [0, 1, 2, 3, 4] kE
  · refine aw_if_ne_t hC dL_law_1088 (tgt := 1103) (by decide) hk ?_
    exact aw_sub [0, 1, 2, 3, 4] kE
theorem W_18 (hC : Cx p l e R s m args meth c D loc cy A cL_law 9 ret RL 2048 84000 cb sb) (hX : SX A s b n xs) (hI : IB i n) (hkn : kn.1 + 3 ≤ cb ∧ kn.2 + 18 ≤ sb) (hR : Rel h) (kk : ∀ h2, Rel h2 → AW p l e R s m args below meth c D loc cy A 9 Qof RF (kn.1 + 3, kn.2 + 18) 2459 (LL b loc i) [] h2 X) : AW p l e R s m args below meth c D loc cy A 9 Qof RF kn 1106 (LL b loc i) [] h X := by
  have hl0 := hC.2.2.2.2.2.2.2.2.2.2.2.2.1
  obtain ⟨i1, i2, i3, i4, i5⟩ := hI
  unfold LL
  have hk0 : Nat.ble kn.1 cb = true ∧ Nat.ble kn.2 sb = true := ⟨ble_le (Nat.le_trans (Nat.le_add_right _ _) hkn.1), ble_le (Nat.le_trans (Nat.le_add_right _ _) hkn.2)⟩
  obtain ⟨r, h1, k, hL, v, hM, e8, hq, e9, hR2, ek, ej⟩ := PPL (by decide) (fun w h => o_X9_inWay w (xs (i + 1).toNatClampNeg) h) (p_inWay hR (xs (i + 1).toNatClampNeg))
  refine aw_aload_n hC dL_law_1106 rfl ?_
  refine aw_aload_n hC dL_law_1107 rfl ?_
  refine aw_iload hC dL_law_1108 rfl ?_
  refine aw_iconst hC dL_law_1110 (v := 1) (by decide) ?_
  refine aw_iadd hC dL_law_1111 ?_
  refine aw_sld hC hX dL_law_1112 i1 ?_
  refine aw_aload_n hC dL_law_1113 rfl ?_
  refine aw_callL (k := k) (h2 := hL) (mc2 := 1) (ms2 := 6) (As := [.ref (loc (6, 0, 0)), .int (xs (i + 1).toNatClampNeg), .ref (loc (8, 0, 1))]) hC dL_law_1114 cl_RL_182 (A_L_inWay l hl0 D loc cy (xs (i + 1).toNatClampNeg) h (by have q := A_X8_inWay l hl0 D loc cy (xs (i + 1).toNatClampNeg) h; rw [e8] at q; exact q) hq) rfl rfl rfl rfl rfl ⟨Nat.le_trans (Nat.add_le_add_left (by decide) _) hkn.1, Nat.le_trans (Nat.add_le_add_left (by decide) _) hkn.2⟩ ?_
  have hk1 : Nat.ble (kn.1 + 1, kn.2 + 6).1 cb = true ∧ Nat.ble (kn.1 + 1, kn.2 + 6).2 sb = true := ⟨ble_le (Nat.le_trans (Nat.add_le_add_left (by decide) _) hkn.1), ble_le (Nat.le_trans (Nat.add_le_add_left (by decide) _) hkn.2)⟩
  refine aw_istore hC dL_law_1117 (by decide) ?_
  refine aw_aload_n hC dL_law_1119 rfl ?_
  refine aw_aload_n hC dL_law_1120 rfl ?_
  refine aw_iload hC dL_law_1121 rfl ?_
  refine aw_iconst hC dL_law_1123 (v := 1) (by decide) ?_
  refine aw_iadd hC dL_law_1124 ?_
  refine aw_sld hC hX dL_law_1125 i1 ?_
  refine aw_cVi (v := v) (h2 := hM) hC dL_law_1126 cv_RL_184 rfl rm_7_0_0 (by have q := A_X9_inWay l hl0 D loc cy (xs (i + 1).toNatClampNeg) hL; rw [e9] at q; exact q) rfl rfl rfl rfl rfl hk1 ?_
  refine aw_istore hC dL_law_1129 (by decide) ?_
  refine aw_aload_n hC dL_law_1131 rfl ?_
  refine aw_cVi (v := jX9_thrown hM) (h2 := hM) hC dL_law_1132 cv_RL_118 rfl rm_7_0_0 (A_X9_thrown l hl0 D loc cy hM) rfl rfl rfl rfl rfl hk1 ?_
  refine aw_iload hC dL_law_1135 rfl ?_
  refine aw_icmp_eq_t hC dL_law_1137 (tgt := 1142) (by decide) ek ?_
  refine aw_iload hC dL_law_1142 rfl ?_
  have kE : AW p l e R s m args below meth c D loc cy A 9 Qof RF (kn.1 + 1, kn.2 + 6) 1159 [(0, .ref b), (1, .ref (loc (6, 0, 0))), (2, .ref (loc (7, 0, 0))), (3, .ref (loc (8, 0, 1))), (4, .int i)] [] hM X := by
    refine aw_goto hC dL_law_1159 (tgt := 2459) (by decide) ?_
    exact aw_widen (Nat.add_le_add_left (by decide) _) (Nat.add_le_add_left (by decide) _) (kk hM hR2)
  by_cases hk : k = 0
  · refine aw_if_ne_f hC dL_law_1144 (tgt := 1159) (by decide) (fun z => z hk) ?_
    refine aw_aload_n hC dL_law_1147 rfl ?_
    refine aw_iconst hC dL_law_1148 (v := 0) (by decide) ?_
    refine aw_lald (r := (8, 0, 1)) (n := 1) (k := 0) hC dL_law_1149 (by decide +kernel) rfl rfl rfl rfl ?_
    refine aw_iload hC dL_law_1150 rfl ?_
    refine aw_i2l hC dL_law_1152 ?_
    refine aw_lcmp hC dL_law_1153 ?_
    refine aw_if_eq_t hC dL_law_1154 (tgt := 1159) (by decide) (lcmp_eq (ej hk)) ?_
    exact aw_sub [0, 1, 2, 3, 4] kE
  · refine aw_if_ne_t hC dL_law_1144 (tgt := 1159) (by decide) hk ?_
    exact aw_sub [0, 1, 2, 3, 4] kE
theorem W_19 (hC : Cx p l e R s m args meth c D loc cy A cL_law 9 ret RL 2048 84000 cb sb) (hX : SX A s b n xs) (hI : IB i n) (hkn : kn.1 + 3 ≤ cb ∧ kn.2 + 18 ≤ sb) (hR : Rel h) (kk : ∀ h2, Rel h2 → AW p l e R s m args below meth c D loc cy A 9 Qof RF (kn.1 + 3, kn.2 + 18) 2459 (LL b loc i) [] h2 X) : AW p l e R s m args below meth c D loc cy A 9 Qof RF kn 1162 (LL b loc i) [] h X := by
  have hl0 := hC.2.2.2.2.2.2.2.2.2.2.2.2.1
  obtain ⟨i1, i2, i3, i4, i5⟩ := hI
  unfold LL
  have hk0 : Nat.ble kn.1 cb = true ∧ Nat.ble kn.2 sb = true := ⟨ble_le (Nat.le_trans (Nat.le_add_right _ _) hkn.1), ble_le (Nat.le_trans (Nat.le_add_right _ _) hkn.2)⟩
  obtain ⟨v, h1, h2, e8, e9, hR2⟩ := p_fibre hR 
  refine aw_aload_n hC dL_law_1162 rfl ?_
  refine aw_cVj (v := v) (h2 := h1) hC dL_law_1163 cv_RL_185 rfl rm_6_0_0 (by have q := A_X8_fibre l hl0 D loc cy  h; rw [e8] at q; exact q) rfl rfl rfl rfl rfl hk0 ?_
  refine aw_aload_n hC dL_law_1166 rfl ?_
  refine aw_cVj (v := v) (h2 := h2) hC dL_law_1167 cv_RL_189 rfl rm_7_0_0 (by have q := A_X9_fibre l hl0 D loc cy  h1; rw [e9] at q; exact q) rfl rfl rfl rfl rfl hk0 ?_
  refine aw_lcmp hC dL_law_1170 ?_
  refine aw_if_eq_t hC dL_law_1171 (tgt := 2459) (by decide) (lcmp_eq rfl) ?_
  exact aw_widen (Nat.le_add_right _ _) (Nat.le_add_right _ _) (kk h2 hR2)
theorem W_20 (hC : Cx p l e R s m args meth c D loc cy A cL_law 9 ret RL 2048 84000 cb sb) (hX : SX A s b n xs) (hI : IB i n) (hkn : kn.1 + 3 ≤ cb ∧ kn.2 + 18 ≤ sb) (hR : Rel h) (kk : ∀ h2, Rel h2 → AW p l e R s m args below meth c D loc cy A 9 Qof RF (kn.1 + 3, kn.2 + 18) 2459 (LL b loc i) [] h2 X) : AW p l e R s m args below meth c D loc cy A 9 Qof RF kn 1176 (LL b loc i) [] h X := by
  have hl0 := hC.2.2.2.2.2.2.2.2.2.2.2.2.1
  obtain ⟨i1, i2, i3, i4, i5⟩ := hI
  unfold LL
  have hk0 : Nat.ble kn.1 cb = true ∧ Nat.ble kn.2 sb = true := ⟨ble_le (Nat.le_trans (Nat.le_add_right _ _) hkn.1), ble_le (Nat.le_trans (Nat.le_add_right _ _) hkn.2)⟩
  obtain ⟨v, h1, h2, e8, e9, hR2⟩ := p_arrangements hR 
  refine aw_aload_n hC dL_law_1176 rfl ?_
  refine aw_cVj (v := v) (h2 := h1) hC dL_law_1177 cv_RL_190 rfl rm_6_0_0 (am_nh (f := (fun r => .inr (some (.long r)))) (A_X8_arrangements l hl0 D loc cy  h) e8) rfl rfl rfl rfl rfl hk0 ?_
  refine aw_aload_n hC dL_law_1180 rfl ?_
  refine aw_cVj (v := v) (h2 := h2) hC dL_law_1181 cv_RL_193 rfl rm_7_0_0 (by have q := A_X9_arrangements l hl0 D loc cy  h1; rw [e9] at q; exact q) rfl rfl rfl rfl rfl hk0 ?_
  refine aw_lcmp hC dL_law_1184 ?_
  refine aw_if_eq_t hC dL_law_1185 (tgt := 2459) (by decide) (lcmp_eq rfl) ?_
  exact aw_widen (Nat.le_add_right _ _) (Nat.le_add_right _ _) (kk h2 hR2)
theorem W_21 (hC : Cx p l e R s m args meth c D loc cy A cL_law 9 ret RL 2048 84000 cb sb) (hX : SX A s b n xs) (hI : IB i n) (hkn : kn.1 + 3 ≤ cb ∧ kn.2 + 18 ≤ sb) (hR : Rel h) (kk : ∀ h2, Rel h2 → AW p l e R s m args below meth c D loc cy A 9 Qof RF (kn.1 + 3, kn.2 + 18) 2459 (LL b loc i) [] h2 X) : AW p l e R s m args below meth c D loc cy A 9 Qof RF kn 1190 (LL b loc i) [] h X := by
  have hl0 := hC.2.2.2.2.2.2.2.2.2.2.2.2.1
  obtain ⟨i1, i2, i3, i4, i5⟩ := hI
  unfold LL
  have hk0 : Nat.ble kn.1 cb = true ∧ Nat.ble kn.2 sb = true := ⟨ble_le (Nat.le_trans (Nat.le_add_right _ _) hkn.1), ble_le (Nat.le_trans (Nat.le_add_right _ _) hkn.2)⟩
  obtain ⟨v, h1, h2, e8, e9, hR2⟩ := p_all hR 
  refine aw_aload_n hC dL_law_1190 rfl ?_
  refine aw_cVj (v := v) (h2 := h1) hC dL_law_1191 cv_RL_194 rfl rm_6_0_0 (am_nh (f := (fun r => .inr (some (.long r)))) (A_X8_all l hl0 D loc cy  h) e8) rfl rfl rfl rfl rfl hk0 ?_
  refine aw_aload_n hC dL_law_1194 rfl ?_
  refine aw_cVj (v := v) (h2 := h2) hC dL_law_1195 cv_RL_197 rfl rm_7_0_0 (by have q := A_X9_all l hl0 D loc cy  h1; rw [e9] at q; exact q) rfl rfl rfl rfl rfl hk0 ?_
  refine aw_lcmp hC dL_law_1198 ?_
  refine aw_if_eq_t hC dL_law_1199 (tgt := 2459) (by decide) (lcmp_eq rfl) ?_
  exact aw_widen (Nat.le_add_right _ _) (Nat.le_add_right _ _) (kk h2 hR2)
theorem W_22 (hC : Cx p l e R s m args meth c D loc cy A cL_law 9 ret RL 2048 84000 cb sb) (hX : SX A s b n xs) (hI : IB i n) (hkn : kn.1 + 3 ≤ cb ∧ kn.2 + 18 ≤ sb) (hR : Rel h) (kk : ∀ h2, Rel h2 → AW p l e R s m args below meth c D loc cy A 9 Qof RF (kn.1 + 3, kn.2 + 18) 2459 (LL b loc i) [] h2 X) : AW p l e R s m args below meth c D loc cy A 9 Qof RF kn 1204 (LL b loc i) [] h X := by
  have hl0 := hC.2.2.2.2.2.2.2.2.2.2.2.2.1
  obtain ⟨i1, i2, i3, i4, i5⟩ := hI
  unfold LL
  have hk0 : Nat.ble kn.1 cb = true ∧ Nat.ble kn.2 sb = true := ⟨ble_le (Nat.le_trans (Nat.le_add_right _ _) hkn.1), ble_le (Nat.le_trans (Nat.le_add_right _ _) hkn.2)⟩
  obtain ⟨v, h1, h2, e8, e9, hR2⟩ := p_inversions hR 
  refine aw_aload_n hC dL_law_1204 rfl ?_
  refine aw_cVi (v := v) (h2 := h1) hC dL_law_1205 cv_RL_198 rfl rm_6_0_0 (by have q := A_X8_inversions l hl0 D loc cy  h; rw [e8] at q; exact q) rfl rfl rfl rfl rfl hk0 ?_
  refine aw_aload_n hC dL_law_1208 rfl ?_
  refine aw_cVi (v := v) (h2 := h2) hC dL_law_1209 cv_RL_201 rfl rm_7_0_0 (by have q := A_X9_inversions l hl0 D loc cy  h1; rw [e9] at q; exact q) rfl rfl rfl rfl rfl hk0 ?_
  refine aw_icmp_eq_t hC dL_law_1212 (tgt := 2459) (by decide) rfl ?_
  exact aw_widen (Nat.le_add_right _ _) (Nat.le_add_right _ _) (kk h2 hR2)
theorem W_23 (hC : Cx p l e R s m args meth c D loc cy A cL_law 9 ret RL 2048 84000 cb sb) (hX : SX A s b n xs) (hI : IB i n) (hkn : kn.1 + 3 ≤ cb ∧ kn.2 + 18 ≤ sb) (hR : Rel h) (kk : ∀ h2, Rel h2 → AW p l e R s m args below meth c D loc cy A 9 Qof RF (kn.1 + 3, kn.2 + 18) 2459 (LL b loc i) [] h2 X) : AW p l e R s m args below meth c D loc cy A 9 Qof RF kn 1217 (LL b loc i) [] h X := by
  have hl0 := hC.2.2.2.2.2.2.2.2.2.2.2.2.1
  obtain ⟨i1, i2, i3, i4, i5⟩ := hI
  unfold LL
  have hk0 : Nat.ble kn.1 cb = true ∧ Nat.ble kn.2 sb = true := ⟨ble_le (Nat.le_trans (Nat.le_add_right _ _) hkn.1), ble_le (Nat.le_trans (Nat.le_add_right _ _) hkn.2)⟩
  obtain ⟨v, h1, h2, e8, e9, hR2⟩ := p_descents hR 
  refine aw_aload_n hC dL_law_1217 rfl ?_
  refine aw_cVi (v := v) (h2 := h1) hC dL_law_1218 cv_RL_202 rfl rm_6_0_0 (am_nh (f := (fun r => .inr (some (.int r)))) (A_X8_descents l hl0 D loc cy  h) e8) rfl rfl rfl rfl rfl hk0 ?_
  refine aw_aload_n hC dL_law_1221 rfl ?_
  refine aw_cVi (v := v) (h2 := h2) hC dL_law_1222 cv_RL_205 rfl rm_7_0_0 (by have q := A_X9_descents l hl0 D loc cy  h1; rw [e9] at q; exact q) rfl rfl rfl rfl rfl hk0 ?_
  refine aw_icmp_eq_t hC dL_law_1225 (tgt := 2459) (by decide) rfl ?_
  exact aw_widen (Nat.le_add_right _ _) (Nat.le_add_right _ _) (kk h2 hR2)
theorem W_24 (hC : Cx p l e R s m args meth c D loc cy A cL_law 9 ret RL 2048 84000 cb sb) (hX : SX A s b n xs) (hI : IB i n) (hkn : kn.1 + 3 ≤ cb ∧ kn.2 + 18 ≤ sb) (hR : Rel h) (kk : ∀ h2, Rel h2 → AW p l e R s m args below meth c D loc cy A 9 Qof RF (kn.1 + 3, kn.2 + 18) 2459 (LL b loc i) [] h2 X) : AW p l e R s m args below meth c D loc cy A 9 Qof RF kn 1230 (LL b loc i) [] h X := by
  have hl0 := hC.2.2.2.2.2.2.2.2.2.2.2.2.1
  obtain ⟨i1, i2, i3, i4, i5⟩ := hI
  unfold LL
  have hk0 : Nat.ble kn.1 cb = true ∧ Nat.ble kn.2 sb = true := ⟨ble_le (Nat.le_trans (Nat.le_add_right _ _) hkn.1), ble_le (Nat.le_trans (Nat.le_add_right _ _) hkn.2)⟩
  obtain ⟨v, h1, h2, e8, e9, hR2⟩ := p_code hR (xs (i + 1).toNatClampNeg)
  refine aw_aload_n hC dL_law_1230 rfl ?_
  refine aw_aload_n hC dL_law_1231 rfl ?_
  refine aw_iload hC dL_law_1232 rfl ?_
  refine aw_iconst hC dL_law_1234 (v := 1) (by decide) ?_
  refine aw_iadd hC dL_law_1235 ?_
  refine aw_sld hC hX dL_law_1236 i1 ?_
  refine aw_cVi (v := v) (h2 := h1) hC dL_law_1237 cv_RL_206 rfl rm_6_0_0 (by have q := A_X8_code l hl0 D loc cy (xs (i + 1).toNatClampNeg) h; rw [e8] at q; exact q) rfl rfl rfl rfl rfl hk0 ?_
  refine aw_aload_n hC dL_law_1240 rfl ?_
  refine aw_aload_n hC dL_law_1241 rfl ?_
  refine aw_iload hC dL_law_1242 rfl ?_
  refine aw_iconst hC dL_law_1244 (v := 1) (by decide) ?_
  refine aw_iadd hC dL_law_1245 ?_
  refine aw_sld hC hX dL_law_1246 i1 ?_
  refine aw_cVi (v := v) (h2 := h2) hC dL_law_1247 cv_RL_209 rfl rm_7_0_0 (by have q := A_X9_code l hl0 D loc cy (xs (i + 1).toNatClampNeg) h1; rw [e9] at q; exact q) rfl rfl rfl rfl rfl hk0 ?_
  refine aw_icmp_eq_t hC dL_law_1250 (tgt := 2459) (by decide) rfl ?_
  exact aw_widen (Nat.le_add_right _ _) (Nat.le_add_right _ _) (kk h2 hR2)
theorem W_25 (hC : Cx p l e R s m args meth c D loc cy A cL_law 9 ret RL 2048 84000 cb sb) (hX : SX A s b n xs) (hI : IB i n) (hkn : kn.1 + 3 ≤ cb ∧ kn.2 + 18 ≤ sb) (hR : Rel h) (kk : ∀ h2, Rel h2 → AW p l e R s m args below meth c D loc cy A 9 Qof RF (kn.1 + 3, kn.2 + 18) 2459 (LL b loc i) [] h2 X) : AW p l e R s m args below meth c D loc cy A 9 Qof RF kn 1255 (LL b loc i) [] h X := by
  have hl0 := hC.2.2.2.2.2.2.2.2.2.2.2.2.1
  obtain ⟨i1, i2, i3, i4, i5⟩ := hI
  unfold LL
  have hk0 : Nat.ble kn.1 cb = true ∧ Nat.ble kn.2 sb = true := ⟨ble_le (Nat.le_trans (Nat.le_add_right _ _) hkn.1), ble_le (Nat.le_trans (Nat.le_add_right _ _) hkn.2)⟩
  obtain ⟨v, h1, h2, e8, e9, hR2⟩ := p_edge hR (xs (i + 1).toNatClampNeg)
  refine aw_aload_n hC dL_law_1255 rfl ?_
  refine aw_aload_n hC dL_law_1256 rfl ?_
  refine aw_iload hC dL_law_1257 rfl ?_
  refine aw_iconst hC dL_law_1259 (v := 1) (by decide) ?_
  refine aw_iadd hC dL_law_1260 ?_
  refine aw_sld hC hX dL_law_1261 i1 ?_
  refine aw_cVi (v := v) (h2 := h1) hC dL_law_1262 cv_RL_210 rfl rm_6_0_0 (by have q := A_X8_edge l hl0 D loc cy (xs (i + 1).toNatClampNeg) h; rw [e8] at q; exact q) rfl rfl rfl rfl rfl hk0 ?_
  refine aw_aload_n hC dL_law_1265 rfl ?_
  refine aw_aload_n hC dL_law_1266 rfl ?_
  refine aw_iload hC dL_law_1267 rfl ?_
  refine aw_iconst hC dL_law_1269 (v := 1) (by decide) ?_
  refine aw_iadd hC dL_law_1270 ?_
  refine aw_sld hC hX dL_law_1271 i1 ?_
  refine aw_cVi (v := v) (h2 := h2) hC dL_law_1272 cv_RL_213 rfl rm_7_0_0 (by have q := A_X9_edge l hl0 D loc cy (xs (i + 1).toNatClampNeg) h1; rw [e9] at q; exact q) rfl rfl rfl rfl rfl hk0 ?_
  refine aw_icmp_eq_t hC dL_law_1275 (tgt := 2459) (by decide) rfl ?_
  exact aw_widen (Nat.le_add_right _ _) (Nat.le_add_right _ _) (kk h2 hR2)
theorem W_26 (hC : Cx p l e R s m args meth c D loc cy A cL_law 9 ret RL 2048 84000 cb sb) (hX : SX A s b n xs) (hI : IB i n) (hkn : kn.1 + 3 ≤ cb ∧ kn.2 + 18 ≤ sb) (hR : Rel h) (kk : ∀ h2, Rel h2 → AW p l e R s m args below meth c D loc cy A 9 Qof RF (kn.1 + 3, kn.2 + 18) 2459 (LL b loc i) [] h2 X) : AW p l e R s m args below meth c D loc cy A 9 Qof RF kn 1280 (LL b loc i) [] h X := by
  have hl0 := hC.2.2.2.2.2.2.2.2.2.2.2.2.1
  obtain ⟨i1, i2, i3, i4, i5⟩ := hI
  unfold LL
  have hk0 : Nat.ble kn.1 cb = true ∧ Nat.ble kn.2 sb = true := ⟨ble_le (Nat.le_trans (Nat.le_add_right _ _) hkn.1), ble_le (Nat.le_trans (Nat.le_add_right _ _) hkn.2)⟩
  obtain ⟨r, h1, k, hL, v, hM, e8, hq, e9, hR2, ek, ej⟩ := PPL (by decide) (fun w h => o_X9_degree w (xs (i + 1).toNatClampNeg) h) (p_degree hR (xs (i + 1).toNatClampNeg))
  refine aw_aload_n hC dL_law_1280 rfl ?_
  refine aw_aload_n hC dL_law_1281 rfl ?_
  refine aw_iload hC dL_law_1282 rfl ?_
  refine aw_iconst hC dL_law_1284 (v := 1) (by decide) ?_
  refine aw_iadd hC dL_law_1285 ?_
  refine aw_sld hC hX dL_law_1286 i1 ?_
  refine aw_aload_n hC dL_law_1287 rfl ?_
  refine aw_callL (k := k) (h2 := hL) (mc2 := 1) (ms2 := 6) (As := [.ref (loc (6, 0, 0)), .int (xs (i + 1).toNatClampNeg), .ref (loc (8, 0, 1))]) hC dL_law_1288 cl_RL_214 (A_L_degree l hl0 D loc cy (xs (i + 1).toNatClampNeg) h (by have q := A_X8_degree l hl0 D loc cy (xs (i + 1).toNatClampNeg) h; rw [e8] at q; exact q) hq) rfl rfl rfl rfl rfl ⟨Nat.le_trans (Nat.add_le_add_left (by decide) _) hkn.1, Nat.le_trans (Nat.add_le_add_left (by decide) _) hkn.2⟩ ?_
  have hk1 : Nat.ble (kn.1 + 1, kn.2 + 6).1 cb = true ∧ Nat.ble (kn.1 + 1, kn.2 + 6).2 sb = true := ⟨ble_le (Nat.le_trans (Nat.add_le_add_left (by decide) _) hkn.1), ble_le (Nat.le_trans (Nat.add_le_add_left (by decide) _) hkn.2)⟩
  refine aw_istore hC dL_law_1291 (by decide) ?_
  refine aw_aload_n hC dL_law_1293 rfl ?_
  refine aw_aload_n hC dL_law_1294 rfl ?_
  refine aw_iload hC dL_law_1295 rfl ?_
  refine aw_iconst hC dL_law_1297 (v := 1) (by decide) ?_
  refine aw_iadd hC dL_law_1298 ?_
  refine aw_sld hC hX dL_law_1299 i1 ?_
  refine aw_cVi (v := v) (h2 := hM) hC dL_law_1300 cv_RL_216 rfl rm_7_0_0 (by have q := A_X9_degree l hl0 D loc cy (xs (i + 1).toNatClampNeg) hL; rw [e9] at q; exact q) rfl rfl rfl rfl rfl hk1 ?_
  refine aw_istore hC dL_law_1303 (by decide) ?_
  refine aw_aload_n hC dL_law_1305 rfl ?_
  refine aw_cVi (v := jX9_thrown hM) (h2 := hM) hC dL_law_1306 cv_RL_118 rfl rm_7_0_0 (A_X9_thrown l hl0 D loc cy hM) rfl rfl rfl rfl rfl hk1 ?_
  refine aw_iload hC dL_law_1309 rfl ?_
  refine aw_icmp_eq_t hC dL_law_1311 (tgt := 1316) (by decide) ek ?_
  refine aw_iload hC dL_law_1316 rfl ?_
  have kE : AW p l e R s m args below meth c D loc cy A 9 Qof RF (kn.1 + 1, kn.2 + 6) 1333 [(0, .ref b), (1, .ref (loc (6, 0, 0))), (2, .ref (loc (7, 0, 0))), (3, .ref (loc (8, 0, 1))), (4, .int i)] [] hM X := by
    refine aw_goto hC dL_law_1333 (tgt := 2459) (by decide) ?_
    exact aw_widen (Nat.add_le_add_left (by decide) _) (Nat.add_le_add_left (by decide) _) (kk hM hR2)
  by_cases hk : k = 0
  · refine aw_if_ne_f hC dL_law_1318 (tgt := 1333) (by decide) (fun z => z hk) ?_
    refine aw_aload_n hC dL_law_1321 rfl ?_
    refine aw_iconst hC dL_law_1322 (v := 0) (by decide) ?_
    refine aw_lald (r := (8, 0, 1)) (n := 1) (k := 0) hC dL_law_1323 (by decide +kernel) rfl rfl rfl rfl ?_
    refine aw_iload hC dL_law_1324 rfl ?_
    refine aw_i2l hC dL_law_1326 ?_
    refine aw_lcmp hC dL_law_1327 ?_
    refine aw_if_eq_t hC dL_law_1328 (tgt := 1333) (by decide) (lcmp_eq (ej hk)) ?_
    exact aw_sub [0, 1, 2, 3, 4] kE
  · refine aw_if_ne_t hC dL_law_1318 (tgt := 1333) (by decide) hk ?_
    exact aw_sub [0, 1, 2, 3, 4] kE
theorem W_27 (hC : Cx p l e R s m args meth c D loc cy A cL_law 9 ret RL 2048 84000 cb sb) (hX : SX A s b n xs) (hI : IB i n) (hkn : kn.1 + 3 ≤ cb ∧ kn.2 + 18 ≤ sb) (hR : Rel h) (kk : ∀ h2, Rel h2 → AW p l e R s m args below meth c D loc cy A 9 Qof RF (kn.1 + 3, kn.2 + 18) 2459 (LL b loc i) [] h2 X) : AW p l e R s m args below meth c D loc cy A 9 Qof RF kn 1336 (LL b loc i) [] h X := by
  have hl0 := hC.2.2.2.2.2.2.2.2.2.2.2.2.1
  obtain ⟨i1, i2, i3, i4, i5⟩ := hI
  unfold LL
  have hk0 : Nat.ble kn.1 cb = true ∧ Nat.ble kn.2 sb = true := ⟨ble_le (Nat.le_trans (Nat.le_add_right _ _) hkn.1), ble_le (Nat.le_trans (Nat.le_add_right _ _) hkn.2)⟩
  obtain ⟨r, h1, k, hL, v, hM, e8, hq, e9, hR2, ek, ej⟩ := PPL (by decide) (fun w h => o_X9_far w (xs (i + 1).toNatClampNeg) (xs (i + 2).toNatClampNeg) h) (p_far hR (xs (i + 1).toNatClampNeg) (xs (i + 2).toNatClampNeg))
  refine aw_aload_n hC dL_law_1336 rfl ?_
  refine aw_aload_n hC dL_law_1337 rfl ?_
  refine aw_iload hC dL_law_1338 rfl ?_
  refine aw_iconst hC dL_law_1340 (v := 1) (by decide) ?_
  refine aw_iadd hC dL_law_1341 ?_
  refine aw_sld hC hX dL_law_1342 i1 ?_
  refine aw_aload_n hC dL_law_1343 rfl ?_
  refine aw_iload hC dL_law_1344 rfl ?_
  refine aw_iconst hC dL_law_1346 (v := 2) (by decide) ?_
  refine aw_iadd hC dL_law_1347 ?_
  refine aw_sld hC hX dL_law_1348 i2 ?_
  refine aw_aload_n hC dL_law_1349 rfl ?_
  refine aw_callL (k := k) (h2 := hL) (mc2 := 2) (ms2 := 12) (As := [.ref (loc (6, 0, 0)), .int (xs (i + 1).toNatClampNeg), .int (xs (i + 2).toNatClampNeg), .ref (loc (8, 0, 1))]) hC dL_law_1350 cl_RL_217 (A_L_far l hl0 D loc cy (xs (i + 1).toNatClampNeg) (xs (i + 2).toNatClampNeg) h (by have q := A_X8_far l hl0 D loc cy (xs (i + 1).toNatClampNeg) (xs (i + 2).toNatClampNeg) h; rw [e8] at q; exact q) hq) rfl rfl rfl rfl rfl ⟨Nat.le_trans (Nat.add_le_add_left (by decide) _) hkn.1, Nat.le_trans (Nat.add_le_add_left (by decide) _) hkn.2⟩ ?_
  have hk1 : Nat.ble (kn.1 + 2, kn.2 + 12).1 cb = true ∧ Nat.ble (kn.1 + 2, kn.2 + 12).2 sb = true := ⟨ble_le (Nat.le_trans (Nat.add_le_add_left (by decide) _) hkn.1), ble_le (Nat.le_trans (Nat.add_le_add_left (by decide) _) hkn.2)⟩
  refine aw_istore hC dL_law_1353 (by decide) ?_
  refine aw_aload_n hC dL_law_1355 rfl ?_
  refine aw_aload_n hC dL_law_1356 rfl ?_
  refine aw_iload hC dL_law_1357 rfl ?_
  refine aw_iconst hC dL_law_1359 (v := 1) (by decide) ?_
  refine aw_iadd hC dL_law_1360 ?_
  refine aw_sld hC hX dL_law_1361 i1 ?_
  refine aw_aload_n hC dL_law_1362 rfl ?_
  refine aw_iload hC dL_law_1363 rfl ?_
  refine aw_iconst hC dL_law_1365 (v := 2) (by decide) ?_
  refine aw_iadd hC dL_law_1366 ?_
  refine aw_sld hC hX dL_law_1367 i2 ?_
  refine aw_cVi (v := v) (h2 := hM) hC dL_law_1368 cv_RL_219 rfl rm_7_0_0 (by have q := A_X9_far l hl0 D loc cy (xs (i + 1).toNatClampNeg) (xs (i + 2).toNatClampNeg) hL; rw [e9] at q; exact q) rfl rfl rfl rfl rfl hk1 ?_
  refine aw_istore hC dL_law_1371 (by decide) ?_
  refine aw_aload_n hC dL_law_1373 rfl ?_
  refine aw_cVi (v := jX9_thrown hM) (h2 := hM) hC dL_law_1374 cv_RL_118 rfl rm_7_0_0 (A_X9_thrown l hl0 D loc cy hM) rfl rfl rfl rfl rfl hk1 ?_
  refine aw_iload hC dL_law_1377 rfl ?_
  refine aw_icmp_eq_t hC dL_law_1379 (tgt := 1384) (by decide) ek ?_
  refine aw_iload hC dL_law_1384 rfl ?_
  have kE : AW p l e R s m args below meth c D loc cy A 9 Qof RF (kn.1 + 2, kn.2 + 12) 1401 [(0, .ref b), (1, .ref (loc (6, 0, 0))), (2, .ref (loc (7, 0, 0))), (3, .ref (loc (8, 0, 1))), (4, .int i)] [] hM X := by
    refine aw_goto hC dL_law_1401 (tgt := 2459) (by decide) ?_
    exact aw_widen (Nat.add_le_add_left (by decide) _) (Nat.add_le_add_left (by decide) _) (kk hM hR2)
  by_cases hk : k = 0
  · refine aw_if_ne_f hC dL_law_1386 (tgt := 1401) (by decide) (fun z => z hk) ?_
    refine aw_aload_n hC dL_law_1389 rfl ?_
    refine aw_iconst hC dL_law_1390 (v := 0) (by decide) ?_
    refine aw_lald (r := (8, 0, 1)) (n := 1) (k := 0) hC dL_law_1391 (by decide +kernel) rfl rfl rfl rfl ?_
    refine aw_iload hC dL_law_1392 rfl ?_
    refine aw_i2l hC dL_law_1394 ?_
    refine aw_lcmp hC dL_law_1395 ?_
    refine aw_if_eq_t hC dL_law_1396 (tgt := 1401) (by decide) (lcmp_eq (ej hk)) ?_
    exact aw_sub [0, 1, 2, 3, 4] kE
  · refine aw_if_ne_t hC dL_law_1386 (tgt := 1401) (by decide) hk ?_
    exact aw_sub [0, 1, 2, 3, 4] kE
end LWC
