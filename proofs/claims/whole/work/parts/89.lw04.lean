section LWC
variable {p : Program} {l : Launch} {e : Env} {R : Room} {s : State} {m : MethodId} {args : Array Value} {below : List Frame} {meth : Method} {c : Code} {D : va_G} {loc : Rf → Nat} {cy : Nat → ClassId} {A : Nat → Prop} {ret : Option FieldType} {cb sb : Nat} {Qof : RR → State → Prop} {α : Type} {RF : α → Option RR} {kn : Nat × Nat} {h : HD} {X : α} {b n : Nat} {xs : Nat → Int32} {i : Int32}
theorem W_42 (hC : Cx p l e R s m args meth c D loc cy A cL_law 9 ret RL 2048 84000 cb sb) (hX : SX A s b n xs) (hI : IB i n) (hkn : kn.1 + 3 ≤ cb ∧ kn.2 + 18 ≤ sb) (hR : Rel h) (kk : ∀ h2, Rel h2 → AW p l e R s m args below meth c D loc cy A 9 Qof RF (kn.1 + 3, kn.2 + 18) 2459 (LL b loc i) [] h2 X) : AW p l e R s m args below meth c D loc cy A 9 Qof RF kn 2043 (LL b loc i) [] h X := by
  have hl0 := hC.2.2.2.2.2.2.2.2.2.2.2.2.1
  obtain ⟨i1, i2, i3, i4, i5⟩ := hI
  unfold LL
  have hk0 : Nat.ble kn.1 cb = true ∧ Nat.ble kn.2 sb = true := ⟨ble_le (Nat.le_trans (Nat.le_add_right _ _) hkn.1), ble_le (Nat.le_trans (Nat.le_add_right _ _) hkn.2)⟩
  obtain ⟨r, h1, k, hL, v, hM, e8, hq, e9, hR2, ek, ej⟩ := PPL (by decide) (fun w h => o_X9_setBack w (xs (i + 1).toNatClampNeg) h) (p_setBack hR (xs (i + 1).toNatClampNeg))
  refine aw_aload_n hC dL_law_2043 rfl ?_
  refine aw_aload_n hC dL_law_2044 rfl ?_
  refine aw_iload hC dL_law_2045 rfl ?_
  refine aw_iconst hC dL_law_2047 (v := 1) (by decide) ?_
  refine aw_iadd hC dL_law_2048 ?_
  refine aw_sld hC hX dL_law_2049 i1 ?_
  refine aw_aload_n hC dL_law_2050 rfl ?_
  refine aw_callL (k := k) (h2 := hL) (mc2 := 1) (ms2 := 6) (As := [.ref (loc (6, 0, 0)), .int (xs (i + 1).toNatClampNeg), .ref (loc (8, 0, 1))]) hC dL_law_2051 cl_RL_271 (A_L_setBack l hl0 D loc cy (xs (i + 1).toNatClampNeg) h (by have q := A_X8_setBack l hl0 D loc cy (xs (i + 1).toNatClampNeg) h; rw [e8] at q; exact q) hq) rfl rfl rfl rfl rfl ⟨Nat.le_trans (Nat.add_le_add_left (by decide) _) hkn.1, Nat.le_trans (Nat.add_le_add_left (by decide) _) hkn.2⟩ ?_
  have hk1 : Nat.ble (kn.1 + 1, kn.2 + 6).1 cb = true ∧ Nat.ble (kn.1 + 1, kn.2 + 6).2 sb = true := ⟨ble_le (Nat.le_trans (Nat.add_le_add_left (by decide) _) hkn.1), ble_le (Nat.le_trans (Nat.add_le_add_left (by decide) _) hkn.2)⟩
  refine aw_istore hC dL_law_2054 (by decide) ?_
  refine aw_aload_n hC dL_law_2056 rfl ?_
  refine aw_aload_n hC dL_law_2057 rfl ?_
  refine aw_iload hC dL_law_2058 rfl ?_
  refine aw_iconst hC dL_law_2060 (v := 1) (by decide) ?_
  refine aw_iadd hC dL_law_2061 ?_
  refine aw_sld hC hX dL_law_2062 i1 ?_
  refine aw_cVi (v := v) (h2 := hM) hC dL_law_2063 cv_RL_273 rfl rm_7_0_0 (by have q := A_X9_setBack l hl0 D loc cy (xs (i + 1).toNatClampNeg) hL; rw [e9] at q; exact q) rfl rfl rfl rfl rfl hk1 ?_
  refine aw_istore hC dL_law_2066 (by decide) ?_
  refine aw_aload_n hC dL_law_2068 rfl ?_
  refine aw_cVi (v := jX9_thrown hM) (h2 := hM) hC dL_law_2069 cv_RL_118 rfl rm_7_0_0 (A_X9_thrown l hl0 D loc cy hM) rfl rfl rfl rfl rfl hk1 ?_
  refine aw_iload hC dL_law_2072 rfl ?_
  refine aw_icmp_eq_t hC dL_law_2074 (tgt := 2079) (by decide) ek ?_
  refine aw_iload hC dL_law_2079 rfl ?_
  have kE : AW p l e R s m args below meth c D loc cy A 9 Qof RF (kn.1 + 1, kn.2 + 6) 2096 [(0, .ref b), (1, .ref (loc (6, 0, 0))), (2, .ref (loc (7, 0, 0))), (3, .ref (loc (8, 0, 1))), (4, .int i)] [] hM X := by
    refine aw_goto hC dL_law_2096 (tgt := 2459) (by decide) ?_
    exact aw_widen (Nat.add_le_add_left (by decide) _) (Nat.add_le_add_left (by decide) _) (kk hM hR2)
  by_cases hk : k = 0
  · refine aw_if_ne_f hC dL_law_2081 (tgt := 2096) (by decide) (fun z => z hk) ?_
    refine aw_aload_n hC dL_law_2084 rfl ?_
    refine aw_iconst hC dL_law_2085 (v := 0) (by decide) ?_
    refine aw_lald (r := (8, 0, 1)) (n := 1) (k := 0) hC dL_law_2086 (by decide +kernel) rfl rfl rfl rfl ?_
    refine aw_iload hC dL_law_2087 rfl ?_
    refine aw_i2l hC dL_law_2089 ?_
    refine aw_lcmp hC dL_law_2090 ?_
    refine aw_if_eq_t hC dL_law_2091 (tgt := 2096) (by decide) (lcmp_eq (ej hk)) ?_
    exact aw_sub [0, 1, 2, 3, 4] kE
  · refine aw_if_ne_t hC dL_law_2081 (tgt := 2096) (by decide) hk ?_
    exact aw_sub [0, 1, 2, 3, 4] kE
theorem W_43 (hC : Cx p l e R s m args meth c D loc cy A cL_law 9 ret RL 2048 84000 cb sb) (hX : SX A s b n xs) (hI : IB i n) (hkn : kn.1 + 3 ≤ cb ∧ kn.2 + 18 ≤ sb) (hR : Rel h) (kk : ∀ h2, Rel h2 → AW p l e R s m args below meth c D loc cy A 9 Qof RF (kn.1 + 3, kn.2 + 18) 2459 (LL b loc i) [] h2 X) : AW p l e R s m args below meth c D loc cy A 9 Qof RF kn 2099 (LL b loc i) [] h X := by
  have hl0 := hC.2.2.2.2.2.2.2.2.2.2.2.2.1
  obtain ⟨i1, i2, i3, i4, i5⟩ := hI
  unfold LL
  have hk0 : Nat.ble kn.1 cb = true ∧ Nat.ble kn.2 sb = true := ⟨ble_le (Nat.le_trans (Nat.le_add_right _ _) hkn.1), ble_le (Nat.le_trans (Nat.le_add_right _ _) hkn.2)⟩
  obtain ⟨r, h1, k, hL, v, hM, e8, hq, e9, hR2, ek, ej⟩ := PBL (by decide) (fun w h => o_X9_come w (xs (i + 1).toNatClampNeg) h) (p_come hR (xs (i + 1).toNatClampNeg))
  refine aw_aload_n hC dL_law_2099 rfl ?_
  refine aw_aload_n hC dL_law_2100 rfl ?_
  refine aw_iload hC dL_law_2101 rfl ?_
  refine aw_iconst hC dL_law_2103 (v := 1) (by decide) ?_
  refine aw_iadd hC dL_law_2104 ?_
  refine aw_sld hC hX dL_law_2105 i1 ?_
  refine aw_aload_n hC dL_law_2106 rfl ?_
  refine aw_callL (k := k) (h2 := hL) (mc2 := 1) (ms2 := 6) (As := [.ref (loc (6, 0, 0)), .int (xs (i + 1).toNatClampNeg), .ref (loc (8, 0, 1))]) hC dL_law_2107 cl_RL_274 (A_L_come l hl0 D loc cy (xs (i + 1).toNatClampNeg) h (by have q := A_X8_come l hl0 D loc cy (xs (i + 1).toNatClampNeg) h; rw [e8] at q; exact q) hq) rfl rfl rfl rfl rfl ⟨Nat.le_trans (Nat.add_le_add_left (by decide) _) hkn.1, Nat.le_trans (Nat.add_le_add_left (by decide) _) hkn.2⟩ ?_
  have hk1 : Nat.ble (kn.1 + 1, kn.2 + 6).1 cb = true ∧ Nat.ble (kn.1 + 1, kn.2 + 6).2 sb = true := ⟨ble_le (Nat.le_trans (Nat.add_le_add_left (by decide) _) hkn.1), ble_le (Nat.le_trans (Nat.add_le_add_left (by decide) _) hkn.2)⟩
  refine aw_istore hC dL_law_2110 (by decide) ?_
  refine aw_aload_n hC dL_law_2112 rfl ?_
  refine aw_aload_n hC dL_law_2113 rfl ?_
  refine aw_iload hC dL_law_2114 rfl ?_
  refine aw_iconst hC dL_law_2116 (v := 1) (by decide) ?_
  refine aw_iadd hC dL_law_2117 ?_
  refine aw_sld hC hX dL_law_2118 i1 ?_
  refine aw_cVb (v := v) (h2 := hM) hC dL_law_2119 cv_RL_276 rfl rm_7_0_0 (by have q := A_X9_come l hl0 D loc cy (xs (i + 1).toNatClampNeg) hL; rw [e9] at q; exact q) rfl rfl rfl rfl rfl hk1 ?_
  refine aw_istore hC dL_law_2122 (by decide) ?_
  refine aw_aload_n hC dL_law_2124 rfl ?_
  refine aw_cVi (v := jX9_thrown hM) (h2 := hM) hC dL_law_2125 cv_RL_118 rfl rm_7_0_0 (A_X9_thrown l hl0 D loc cy hM) rfl rfl rfl rfl rfl hk1 ?_
  refine aw_iload hC dL_law_2128 rfl ?_
  refine aw_icmp_eq_t hC dL_law_2130 (tgt := 2135) (by decide) ek ?_
  refine aw_iload hC dL_law_2135 rfl ?_
  have kE : AW p l e R s m args below meth c D loc cy A 9 Qof RF (kn.1 + 1, kn.2 + 6) 2159 [(0, .ref b), (1, .ref (loc (6, 0, 0))), (2, .ref (loc (7, 0, 0))), (3, .ref (loc (8, 0, 1))), (4, .int i)] [] hM X := by
    refine aw_goto hC dL_law_2159 (tgt := 2459) (by decide) ?_
    exact aw_widen (Nat.add_le_add_left (by decide) _) (Nat.add_le_add_left (by decide) _) (kk hM hR2)
  by_cases hk : k = 0
  · refine aw_if_ne_f hC dL_law_2137 (tgt := 2159) (by decide) (fun z => z hk) ?_
    refine aw_aload_n hC dL_law_2140 rfl ?_
    refine aw_iconst hC dL_law_2141 (v := 0) (by decide) ?_
    refine aw_lald (r := (8, 0, 1)) (n := 1) (k := 0) hC dL_law_2142 (by decide +kernel) rfl rfl rfl rfl ?_
    refine aw_iload hC dL_law_2143 rfl ?_
    cases v with
    | true =>
      refine aw_if_eq_f hC dL_law_2145 (tgt := 2152) (by decide) (by decide) ?_
      refine aw_lconst hC dL_law_2148 (v := 1) (by decide) ?_
      refine aw_goto hC dL_law_2149 (tgt := 2153) (by decide) ?_
      refine aw_lcmp hC dL_law_2153 ?_
      refine aw_if_eq_t hC dL_law_2154 (tgt := 2159) (by decide) (lcmp_eq (ej hk)) ?_
      exact aw_sub [0, 1, 2, 3, 4] kE
    | false =>
      refine aw_if_eq_t hC dL_law_2145 (tgt := 2152) (by decide) (by decide) ?_
      refine aw_lconst hC dL_law_2152 (v := 0) (by decide) ?_
      refine aw_lcmp hC dL_law_2153 ?_
      refine aw_if_eq_t hC dL_law_2154 (tgt := 2159) (by decide) (lcmp_eq (ej hk)) ?_
      exact aw_sub [0, 1, 2, 3, 4] kE
  · refine aw_if_ne_t hC dL_law_2137 (tgt := 2159) (by decide) hk ?_
    exact aw_sub [0, 1, 2, 3, 4] kE
theorem W_44 (hC : Cx p l e R s m args meth c D loc cy A cL_law 9 ret RL 2048 84000 cb sb) (hX : SX A s b n xs) (hI : IB i n) (hkn : kn.1 + 3 ≤ cb ∧ kn.2 + 18 ≤ sb) (hR : Rel h) (kk : ∀ h2, Rel h2 → AW p l e R s m args below meth c D loc cy A 9 Qof RF (kn.1 + 3, kn.2 + 18) 2459 (LL b loc i) [] h2 X) : AW p l e R s m args below meth c D loc cy A 9 Qof RF kn 2162 (LL b loc i) [] h X := by
  have hl0 := hC.2.2.2.2.2.2.2.2.2.2.2.2.1
  obtain ⟨i1, i2, i3, i4, i5⟩ := hI
  unfold LL
  have hk0 : Nat.ble kn.1 cb = true ∧ Nat.ble kn.2 sb = true := ⟨ble_le (Nat.le_trans (Nat.le_add_right _ _) hkn.1), ble_le (Nat.le_trans (Nat.le_add_right _ _) hkn.2)⟩
  obtain ⟨r, h1, k, hL, v, hM, e8, hq, e9, hR2, ek, ej⟩ := PBL (by decide) (fun w h => o_X9_go w (xs (i + 1).toNatClampNeg) h) (p_go hR (xs (i + 1).toNatClampNeg))
  refine aw_aload_n hC dL_law_2162 rfl ?_
  refine aw_aload_n hC dL_law_2163 rfl ?_
  refine aw_iload hC dL_law_2164 rfl ?_
  refine aw_iconst hC dL_law_2166 (v := 1) (by decide) ?_
  refine aw_iadd hC dL_law_2167 ?_
  refine aw_sld hC hX dL_law_2168 i1 ?_
  refine aw_aload_n hC dL_law_2169 rfl ?_
  refine aw_callL (k := k) (h2 := hL) (mc2 := 1) (ms2 := 6) (As := [.ref (loc (6, 0, 0)), .int (xs (i + 1).toNatClampNeg), .ref (loc (8, 0, 1))]) hC dL_law_2170 cl_RL_277 (A_L_go l hl0 D loc cy (xs (i + 1).toNatClampNeg) h (by have q := A_X8_go l hl0 D loc cy (xs (i + 1).toNatClampNeg) h; rw [e8] at q; exact q) hq) rfl rfl rfl rfl rfl ⟨Nat.le_trans (Nat.add_le_add_left (by decide) _) hkn.1, Nat.le_trans (Nat.add_le_add_left (by decide) _) hkn.2⟩ ?_
  have hk1 : Nat.ble (kn.1 + 1, kn.2 + 6).1 cb = true ∧ Nat.ble (kn.1 + 1, kn.2 + 6).2 sb = true := ⟨ble_le (Nat.le_trans (Nat.add_le_add_left (by decide) _) hkn.1), ble_le (Nat.le_trans (Nat.add_le_add_left (by decide) _) hkn.2)⟩
  refine aw_istore hC dL_law_2173 (by decide) ?_
  refine aw_aload_n hC dL_law_2175 rfl ?_
  refine aw_aload_n hC dL_law_2176 rfl ?_
  refine aw_iload hC dL_law_2177 rfl ?_
  refine aw_iconst hC dL_law_2179 (v := 1) (by decide) ?_
  refine aw_iadd hC dL_law_2180 ?_
  refine aw_sld hC hX dL_law_2181 i1 ?_
  refine aw_cVb (v := v) (h2 := hM) hC dL_law_2182 cv_RL_279 rfl rm_7_0_0 (by have q := A_X9_go l hl0 D loc cy (xs (i + 1).toNatClampNeg) hL; rw [e9] at q; exact q) rfl rfl rfl rfl rfl hk1 ?_
  refine aw_istore hC dL_law_2185 (by decide) ?_
  refine aw_aload_n hC dL_law_2187 rfl ?_
  refine aw_cVi (v := jX9_thrown hM) (h2 := hM) hC dL_law_2188 cv_RL_118 rfl rm_7_0_0 (A_X9_thrown l hl0 D loc cy hM) rfl rfl rfl rfl rfl hk1 ?_
  refine aw_iload hC dL_law_2191 rfl ?_
  refine aw_icmp_eq_t hC dL_law_2193 (tgt := 2198) (by decide) ek ?_
  refine aw_iload hC dL_law_2198 rfl ?_
  have kE : AW p l e R s m args below meth c D loc cy A 9 Qof RF (kn.1 + 1, kn.2 + 6) 2222 [(0, .ref b), (1, .ref (loc (6, 0, 0))), (2, .ref (loc (7, 0, 0))), (3, .ref (loc (8, 0, 1))), (4, .int i)] [] hM X := by
    refine aw_goto hC dL_law_2222 (tgt := 2459) (by decide) ?_
    exact aw_widen (Nat.add_le_add_left (by decide) _) (Nat.add_le_add_left (by decide) _) (kk hM hR2)
  by_cases hk : k = 0
  · refine aw_if_ne_f hC dL_law_2200 (tgt := 2222) (by decide) (fun z => z hk) ?_
    refine aw_aload_n hC dL_law_2203 rfl ?_
    refine aw_iconst hC dL_law_2204 (v := 0) (by decide) ?_
    refine aw_lald (r := (8, 0, 1)) (n := 1) (k := 0) hC dL_law_2205 (by decide +kernel) rfl rfl rfl rfl ?_
    refine aw_iload hC dL_law_2206 rfl ?_
    cases v with
    | true =>
      refine aw_if_eq_f hC dL_law_2208 (tgt := 2215) (by decide) (by decide) ?_
      refine aw_lconst hC dL_law_2211 (v := 1) (by decide) ?_
      refine aw_goto hC dL_law_2212 (tgt := 2216) (by decide) ?_
      refine aw_lcmp hC dL_law_2216 ?_
      refine aw_if_eq_t hC dL_law_2217 (tgt := 2222) (by decide) (lcmp_eq (ej hk)) ?_
      exact aw_sub [0, 1, 2, 3, 4] kE
    | false =>
      refine aw_if_eq_t hC dL_law_2208 (tgt := 2215) (by decide) (by decide) ?_
      refine aw_lconst hC dL_law_2215 (v := 0) (by decide) ?_
      refine aw_lcmp hC dL_law_2216 ?_
      refine aw_if_eq_t hC dL_law_2217 (tgt := 2222) (by decide) (lcmp_eq (ej hk)) ?_
      exact aw_sub [0, 1, 2, 3, 4] kE
  · refine aw_if_ne_t hC dL_law_2200 (tgt := 2222) (by decide) hk ?_
    exact aw_sub [0, 1, 2, 3, 4] kE
theorem W_45 (hC : Cx p l e R s m args meth c D loc cy A cL_law 9 ret RL 2048 84000 cb sb) (hX : SX A s b n xs) (hI : IB i n) (hkn : kn.1 + 3 ≤ cb ∧ kn.2 + 18 ≤ sb) (hR : Rel h) (kk : ∀ h2, Rel h2 → AW p l e R s m args below meth c D loc cy A 9 Qof RF (kn.1 + 3, kn.2 + 18) 2459 (LL b loc i) [] h2 X) : AW p l e R s m args below meth c D loc cy A 9 Qof RF kn 2225 (LL b loc i) [] h X := by
  have hl0 := hC.2.2.2.2.2.2.2.2.2.2.2.2.1
  obtain ⟨i1, i2, i3, i4, i5⟩ := hI
  unfold LL
  have hk0 : Nat.ble kn.1 cb = true ∧ Nat.ble kn.2 sb = true := ⟨ble_le (Nat.le_trans (Nat.le_add_right _ _) hkn.1), ble_le (Nat.le_trans (Nat.le_add_right _ _) hkn.2)⟩
  obtain ⟨v, h1, h2, e8, e9, hR2⟩ := p_sort hR 
  refine aw_aload_n hC dL_law_2225 rfl ?_
  refine aw_cVi (v := v) (h2 := h1) hC dL_law_2226 cv_RL_280 rfl rm_6_0_0 (by have q := A_X8_sort l hl0 D loc cy  h; rw [e8] at q; exact q) rfl rfl rfl rfl rfl hk0 ?_
  refine aw_aload_n hC dL_law_2229 rfl ?_
  refine aw_cVi (v := v) (h2 := h2) hC dL_law_2230 cv_RL_283 rfl rm_7_0_0 (by have q := A_X9_sort l hl0 D loc cy  h1; rw [e9] at q; exact q) rfl rfl rfl rfl rfl hk0 ?_
  refine aw_icmp_eq_t hC dL_law_2233 (tgt := 2459) (by decide) rfl ?_
  exact aw_widen (Nat.le_add_right _ _) (Nat.le_add_right _ _) (kk h2 hR2)
theorem W_46 (hC : Cx p l e R s m args meth c D loc cy A cL_law 9 ret RL 2048 84000 cb sb) (hX : SX A s b n xs) (hI : IB i n) (hkn : kn.1 + 3 ≤ cb ∧ kn.2 + 18 ≤ sb) (hR : Rel h) (kk : ∀ h2, Rel h2 → AW p l e R s m args below meth c D loc cy A 9 Qof RF (kn.1 + 3, kn.2 + 18) 2459 (LL b loc i) [] h2 X) : AW p l e R s m args below meth c D loc cy A 9 Qof RF kn 2238 (LL b loc i) [] h X := by
  have hl0 := hC.2.2.2.2.2.2.2.2.2.2.2.2.1
  obtain ⟨i1, i2, i3, i4, i5⟩ := hI
  unfold LL
  have hk0 : Nat.ble kn.1 cb = true ∧ Nat.ble kn.2 sb = true := ⟨ble_le (Nat.le_trans (Nat.le_add_right _ _) hkn.1), ble_le (Nat.le_trans (Nat.le_add_right _ _) hkn.2)⟩
  obtain ⟨v, h1, h2, e8, e9, hR2⟩ := p_reverse hR 
  refine aw_aload_n hC dL_law_2238 rfl ?_
  refine aw_cVi (v := v) (h2 := h1) hC dL_law_2239 cv_RL_284 rfl rm_6_0_0 (by have q := A_X8_reverse l hl0 D loc cy  h; rw [e8] at q; exact q) rfl rfl rfl rfl rfl hk0 ?_
  refine aw_aload_n hC dL_law_2242 rfl ?_
  refine aw_cVi (v := v) (h2 := h2) hC dL_law_2243 cv_RL_287 rfl rm_7_0_0 (by have q := A_X9_reverse l hl0 D loc cy  h1; rw [e9] at q; exact q) rfl rfl rfl rfl rfl hk0 ?_
  refine aw_icmp_eq_t hC dL_law_2246 (tgt := 2459) (by decide) rfl ?_
  exact aw_widen (Nat.le_add_right _ _) (Nat.le_add_right _ _) (kk h2 hR2)
theorem W_47 (hC : Cx p l e R s m args meth c D loc cy A cL_law 9 ret RL 2048 84000 cb sb) (hX : SX A s b n xs) (hI : IB i n) (hkn : kn.1 + 3 ≤ cb ∧ kn.2 + 18 ≤ sb) (hR : Rel h) (kk : ∀ h2, Rel h2 → AW p l e R s m args below meth c D loc cy A 9 Qof RF (kn.1 + 3, kn.2 + 18) 2459 (LL b loc i) [] h2 X) : AW p l e R s m args below meth c D loc cy A 9 Qof RF kn 2251 (LL b loc i) [] h X := by
  have hl0 := hC.2.2.2.2.2.2.2.2.2.2.2.2.1
  obtain ⟨i1, i2, i3, i4, i5⟩ := hI
  unfold LL
  have hk0 : Nat.ble kn.1 cb = true ∧ Nat.ble kn.2 sb = true := ⟨ble_le (Nat.le_trans (Nat.le_add_right _ _) hkn.1), ble_le (Nat.le_trans (Nat.le_add_right _ _) hkn.2)⟩
  obtain ⟨v, h1, h2, e8, e9, hR2⟩ := p_refusal hR 
  refine aw_aload_n hC dL_law_2251 rfl ?_
  refine aw_cVi (v := v) (h2 := h1) hC dL_law_2252 cv_RL_288 rfl rm_6_0_0 (am_val (f := (fun r => .inr (some (.int r)))) (A_X8_refusal l hl0 D loc cy  h) e8) rfl rfl rfl rfl rfl hk0 ?_
  refine aw_aload_n hC dL_law_2255 rfl ?_
  refine aw_cVi (v := v) (h2 := h2) hC dL_law_2256 cv_RL_291 rfl rm_7_0_0 (by have q := A_X9_refusal l hl0 D loc cy  h1; rw [e9] at q; exact q) rfl rfl rfl rfl rfl hk0 ?_
  refine aw_icmp_eq_t hC dL_law_2259 (tgt := 2459) (by decide) rfl ?_
  exact aw_widen (Nat.le_add_right _ _) (Nat.le_add_right _ _) (kk h2 hR2)
theorem W_48 (hC : Cx p l e R s m args meth c D loc cy A cL_law 9 ret RL 2048 84000 cb sb) (hX : SX A s b n xs) (hI : IB i n) (hkn : kn.1 + 3 ≤ cb ∧ kn.2 + 18 ≤ sb) (hR : Rel h) (kk : ∀ h2, Rel h2 → AW p l e R s m args below meth c D loc cy A 9 Qof RF (kn.1 + 3, kn.2 + 18) 2459 (LL b loc i) [] h2 X) : AW p l e R s m args below meth c D loc cy A 9 Qof RF kn 2264 (LL b loc i) [] h X := by
  have hl0 := hC.2.2.2.2.2.2.2.2.2.2.2.2.1
  obtain ⟨i1, i2, i3, i4, i5⟩ := hI
  unfold LL
  have hk0 : Nat.ble kn.1 cb = true ∧ Nat.ble kn.2 sb = true := ⟨ble_le (Nat.le_trans (Nat.le_add_right _ _) hkn.1), ble_le (Nat.le_trans (Nat.le_add_right _ _) hkn.2)⟩
  obtain ⟨r, h1, k, hL, v, hM, e8, hq, e9, hR2, ek, ej⟩ := PPL (by decide) (fun w h => o_X9_account w (xs (i + 1).toNatClampNeg) h) (p_account hR (xs (i + 1).toNatClampNeg))
  refine aw_aload_n hC dL_law_2264 rfl ?_
  refine aw_aload_n hC dL_law_2265 rfl ?_
  refine aw_iload hC dL_law_2266 rfl ?_
  refine aw_iconst hC dL_law_2268 (v := 1) (by decide) ?_
  refine aw_iadd hC dL_law_2269 ?_
  refine aw_sld hC hX dL_law_2270 i1 ?_
  refine aw_aload_n hC dL_law_2271 rfl ?_
  refine aw_callL (k := k) (h2 := hL) (mc2 := 1) (ms2 := 6) (As := [.ref (loc (6, 0, 0)), .int (xs (i + 1).toNatClampNeg), .ref (loc (8, 0, 1))]) hC dL_law_2272 cl_RL_292 (A_L_account l hl0 D loc cy (xs (i + 1).toNatClampNeg) h (ax_nh (A_X8_account l hl0 D loc cy (xs (i + 1).toNatClampNeg) h) e8) hq) rfl rfl rfl rfl rfl ⟨Nat.le_trans (Nat.add_le_add_left (by decide) _) hkn.1, Nat.le_trans (Nat.add_le_add_left (by decide) _) hkn.2⟩ ?_
  have hk1 : Nat.ble (kn.1 + 1, kn.2 + 6).1 cb = true ∧ Nat.ble (kn.1 + 1, kn.2 + 6).2 sb = true := ⟨ble_le (Nat.le_trans (Nat.add_le_add_left (by decide) _) hkn.1), ble_le (Nat.le_trans (Nat.add_le_add_left (by decide) _) hkn.2)⟩
  refine aw_istore hC dL_law_2275 (by decide) ?_
  refine aw_aload_n hC dL_law_2277 rfl ?_
  refine aw_aload_n hC dL_law_2278 rfl ?_
  refine aw_iload hC dL_law_2279 rfl ?_
  refine aw_iconst hC dL_law_2281 (v := 1) (by decide) ?_
  refine aw_iadd hC dL_law_2282 ?_
  refine aw_sld hC hX dL_law_2283 i1 ?_
  refine aw_cVi (v := v) (h2 := hM) hC dL_law_2284 cv_RL_294 rfl rm_7_0_0 (by have q := A_X9_account l hl0 D loc cy (xs (i + 1).toNatClampNeg) hL; rw [e9] at q; exact q) rfl rfl rfl rfl rfl hk1 ?_
  refine aw_istore hC dL_law_2287 (by decide) ?_
  refine aw_aload_n hC dL_law_2289 rfl ?_
  refine aw_cVi (v := jX9_thrown hM) (h2 := hM) hC dL_law_2290 cv_RL_118 rfl rm_7_0_0 (A_X9_thrown l hl0 D loc cy hM) rfl rfl rfl rfl rfl hk1 ?_
  refine aw_iload hC dL_law_2293 rfl ?_
  refine aw_icmp_eq_t hC dL_law_2295 (tgt := 2300) (by decide) ek ?_
  refine aw_iload hC dL_law_2300 rfl ?_
  have kE : AW p l e R s m args below meth c D loc cy A 9 Qof RF (kn.1 + 1, kn.2 + 6) 2317 [(0, .ref b), (1, .ref (loc (6, 0, 0))), (2, .ref (loc (7, 0, 0))), (3, .ref (loc (8, 0, 1))), (4, .int i)] [] hM X := by
    refine aw_goto hC dL_law_2317 (tgt := 2459) (by decide) ?_
    exact aw_widen (Nat.add_le_add_left (by decide) _) (Nat.add_le_add_left (by decide) _) (kk hM hR2)
  by_cases hk : k = 0
  · refine aw_if_ne_f hC dL_law_2302 (tgt := 2317) (by decide) (fun z => z hk) ?_
    refine aw_aload_n hC dL_law_2305 rfl ?_
    refine aw_iconst hC dL_law_2306 (v := 0) (by decide) ?_
    refine aw_lald (r := (8, 0, 1)) (n := 1) (k := 0) hC dL_law_2307 (by decide +kernel) rfl rfl rfl rfl ?_
    refine aw_iload hC dL_law_2308 rfl ?_
    refine aw_i2l hC dL_law_2310 ?_
    refine aw_lcmp hC dL_law_2311 ?_
    refine aw_if_eq_t hC dL_law_2312 (tgt := 2317) (by decide) (lcmp_eq (ej hk)) ?_
    exact aw_sub [0, 1, 2, 3, 4] kE
  · refine aw_if_ne_t hC dL_law_2302 (tgt := 2317) (by decide) hk ?_
    exact aw_sub [0, 1, 2, 3, 4] kE
theorem W_49 (hC : Cx p l e R s m args meth c D loc cy A cL_law 9 ret RL 2048 84000 cb sb) (hX : SX A s b n xs) (hI : IB i n) (hkn : kn.1 + 3 ≤ cb ∧ kn.2 + 18 ≤ sb) (hR : Rel h) (kk : ∀ h2, Rel h2 → AW p l e R s m args below meth c D loc cy A 9 Qof RF (kn.1 + 3, kn.2 + 18) 2459 (LL b loc i) [] h2 X) : AW p l e R s m args below meth c D loc cy A 9 Qof RF kn 2320 (LL b loc i) [] h X := by
  have hl0 := hC.2.2.2.2.2.2.2.2.2.2.2.2.1
  obtain ⟨i1, i2, i3, i4, i5⟩ := hI
  unfold LL
  have hk0 : Nat.ble kn.1 cb = true ∧ Nat.ble kn.2 sb = true := ⟨ble_le (Nat.le_trans (Nat.le_add_right _ _) hkn.1), ble_le (Nat.le_trans (Nat.le_add_right _ _) hkn.2)⟩
  obtain ⟨v, h1, h2, e8, e9, hR2⟩ := p_undo hR 
  refine aw_aload_n hC dL_law_2320 rfl ?_
  refine aw_cVi (v := v) (h2 := h1) hC dL_law_2321 cv_RL_295 rfl rm_6_0_0 (by have q := A_X8_undo l hl0 D loc cy  h; rw [e8] at q; exact q) rfl rfl rfl rfl rfl hk0 ?_
  refine aw_aload_n hC dL_law_2324 rfl ?_
  refine aw_cVi (v := v) (h2 := h2) hC dL_law_2325 cv_RL_298 rfl rm_7_0_0 (by have q := A_X9_undo l hl0 D loc cy  h1; rw [e9] at q; exact q) rfl rfl rfl rfl rfl hk0 ?_
  refine aw_icmp_eq_t hC dL_law_2328 (tgt := 2459) (by decide) rfl ?_
  exact aw_widen (Nat.le_add_right _ _) (Nat.le_add_right _ _) (kk h2 hR2)
theorem W_50 (hC : Cx p l e R s m args meth c D loc cy A cL_law 9 ret RL 2048 84000 cb sb) (hX : SX A s b n xs) (hI : IB i n) (hkn : kn.1 + 3 ≤ cb ∧ kn.2 + 18 ≤ sb) (hR : Rel h) (kk : ∀ h2, Rel h2 → AW p l e R s m args below meth c D loc cy A 9 Qof RF (kn.1 + 3, kn.2 + 18) 2459 (LL b loc i) [] h2 X) : AW p l e R s m args below meth c D loc cy A 9 Qof RF kn 2333 (LL b loc i) [] h X := by
  have hl0 := hC.2.2.2.2.2.2.2.2.2.2.2.2.1
  obtain ⟨i1, i2, i3, i4, i5⟩ := hI
  unfold LL
  have hk0 : Nat.ble kn.1 cb = true ∧ Nat.ble kn.2 sb = true := ⟨ble_le (Nat.le_trans (Nat.le_add_right _ _) hkn.1), ble_le (Nat.le_trans (Nat.le_add_right _ _) hkn.2)⟩
  obtain ⟨v, h1, h2, e8, e9, hR2⟩ := p_report hR 
  refine aw_aload_n hC dL_law_2333 rfl ?_
  refine aw_cVi (v := v) (h2 := h1) hC dL_law_2334 cv_RL_299 rfl rm_6_0_0 (by have q := A_X8_report l hl0 D loc cy  h; rw [e8] at q; exact q) rfl rfl rfl rfl rfl hk0 ?_
  refine aw_aload_n hC dL_law_2337 rfl ?_
  refine aw_cVi (v := v) (h2 := h2) hC dL_law_2338 cv_RL_302 rfl rm_7_0_0 (by have q := A_X9_report l hl0 D loc cy  h1; rw [e9] at q; exact q) rfl rfl rfl rfl rfl hk0 ?_
  refine aw_icmp_eq_t hC dL_law_2341 (tgt := 2459) (by decide) rfl ?_
  exact aw_widen (Nat.le_add_right _ _) (Nat.le_add_right _ _) (kk h2 hR2)
theorem W_51 (hC : Cx p l e R s m args meth c D loc cy A cL_law 9 ret RL 2048 84000 cb sb) (hX : SX A s b n xs) (hI : IB i n) (hkn : kn.1 + 3 ≤ cb ∧ kn.2 + 18 ≤ sb) (hR : Rel h) (kk : ∀ h2, Rel h2 → AW p l e R s m args below meth c D loc cy A 9 Qof RF (kn.1 + 3, kn.2 + 18) 2459 (LL b loc i) [] h2 X) : AW p l e R s m args below meth c D loc cy A 9 Qof RF kn 2346 (LL b loc i) [] h X := by
  have hl0 := hC.2.2.2.2.2.2.2.2.2.2.2.2.1
  obtain ⟨i1, i2, i3, i4, i5⟩ := hI
  unfold LL
  have hk0 : Nat.ble kn.1 cb = true ∧ Nat.ble kn.2 sb = true := ⟨ble_le (Nat.le_trans (Nat.le_add_right _ _) hkn.1), ble_le (Nat.le_trans (Nat.le_add_right _ _) hkn.2)⟩
  obtain ⟨r, h1, k, hL, v, hM, e8, hq, e9, hR2, ek, ej⟩ := PPL (by decide) (fun w h => o_X9_reportByte w (xs (i + 1).toNatClampNeg) h) (p_reportByte hR (xs (i + 1).toNatClampNeg))
  refine aw_aload_n hC dL_law_2346 rfl ?_
  refine aw_aload_n hC dL_law_2347 rfl ?_
  refine aw_iload hC dL_law_2348 rfl ?_
  refine aw_iconst hC dL_law_2350 (v := 1) (by decide) ?_
  refine aw_iadd hC dL_law_2351 ?_
  refine aw_sld hC hX dL_law_2352 i1 ?_
  refine aw_aload_n hC dL_law_2353 rfl ?_
  refine aw_callL (k := k) (h2 := hL) (mc2 := 1) (ms2 := 6) (As := [.ref (loc (6, 0, 0)), .int (xs (i + 1).toNatClampNeg), .ref (loc (8, 0, 1))]) hC dL_law_2354 cl_RL_303 (A_L_reportByte l hl0 D loc cy (xs (i + 1).toNatClampNeg) h (ax_nh (A_X8_reportByte l hl0 D loc cy (xs (i + 1).toNatClampNeg) h) e8) hq) rfl rfl rfl rfl rfl ⟨Nat.le_trans (Nat.add_le_add_left (by decide) _) hkn.1, Nat.le_trans (Nat.add_le_add_left (by decide) _) hkn.2⟩ ?_
  have hk1 : Nat.ble (kn.1 + 1, kn.2 + 6).1 cb = true ∧ Nat.ble (kn.1 + 1, kn.2 + 6).2 sb = true := ⟨ble_le (Nat.le_trans (Nat.add_le_add_left (by decide) _) hkn.1), ble_le (Nat.le_trans (Nat.add_le_add_left (by decide) _) hkn.2)⟩
  refine aw_istore hC dL_law_2357 (by decide) ?_
  refine aw_aload_n hC dL_law_2359 rfl ?_
  refine aw_aload_n hC dL_law_2360 rfl ?_
  refine aw_iload hC dL_law_2361 rfl ?_
  refine aw_iconst hC dL_law_2363 (v := 1) (by decide) ?_
  refine aw_iadd hC dL_law_2364 ?_
  refine aw_sld hC hX dL_law_2365 i1 ?_
  refine aw_cVi (v := v) (h2 := hM) hC dL_law_2366 cv_RL_305 rfl rm_7_0_0 (by have q := A_X9_reportByte l hl0 D loc cy (xs (i + 1).toNatClampNeg) hL; rw [e9] at q; exact q) rfl rfl rfl rfl rfl hk1 ?_
  refine aw_istore hC dL_law_2369 (by decide) ?_
  refine aw_aload_n hC dL_law_2371 rfl ?_
  refine aw_cVi (v := jX9_thrown hM) (h2 := hM) hC dL_law_2372 cv_RL_118 rfl rm_7_0_0 (A_X9_thrown l hl0 D loc cy hM) rfl rfl rfl rfl rfl hk1 ?_
  refine aw_iload hC dL_law_2375 rfl ?_
  refine aw_icmp_eq_t hC dL_law_2377 (tgt := 2382) (by decide) ek ?_
  refine aw_iload hC dL_law_2382 rfl ?_
  have kE : AW p l e R s m args below meth c D loc cy A 9 Qof RF (kn.1 + 1, kn.2 + 6) 2399 [(0, .ref b), (1, .ref (loc (6, 0, 0))), (2, .ref (loc (7, 0, 0))), (3, .ref (loc (8, 0, 1))), (4, .int i)] [] hM X := by
    refine aw_goto hC dL_law_2399 (tgt := 2459) (by decide) ?_
    exact aw_widen (Nat.add_le_add_left (by decide) _) (Nat.add_le_add_left (by decide) _) (kk hM hR2)
  by_cases hk : k = 0
  · refine aw_if_ne_f hC dL_law_2384 (tgt := 2399) (by decide) (fun z => z hk) ?_
    refine aw_aload_n hC dL_law_2387 rfl ?_
    refine aw_iconst hC dL_law_2388 (v := 0) (by decide) ?_
    refine aw_lald (r := (8, 0, 1)) (n := 1) (k := 0) hC dL_law_2389 (by decide +kernel) rfl rfl rfl rfl ?_
    refine aw_iload hC dL_law_2390 rfl ?_
    refine aw_i2l hC dL_law_2392 ?_
    refine aw_lcmp hC dL_law_2393 ?_
    refine aw_if_eq_t hC dL_law_2394 (tgt := 2399) (by decide) (lcmp_eq (ej hk)) ?_
    exact aw_sub [0, 1, 2, 3, 4] kE
  · refine aw_if_ne_t hC dL_law_2384 (tgt := 2399) (by decide) hk ?_
    exact aw_sub [0, 1, 2, 3, 4] kE
theorem W_52 (hC : Cx p l e R s m args meth c D loc cy A cL_law 9 ret RL 2048 84000 cb sb) (hX : SX A s b n xs) (hI : IB i n) (hkn : kn.1 + 3 ≤ cb ∧ kn.2 + 18 ≤ sb) (hR : Rel h) (kk : ∀ h2, Rel h2 → AW p l e R s m args below meth c D loc cy A 9 Qof RF (kn.1 + 3, kn.2 + 18) 2459 (LL b loc i) [] h2 X) : AW p l e R s m args below meth c D loc cy A 9 Qof RF kn 2402 (LL b loc i) [] h X := by
  have hl0 := hC.2.2.2.2.2.2.2.2.2.2.2.2.1
  obtain ⟨i1, i2, i3, i4, i5⟩ := hI
  unfold LL
  have hk0 : Nat.ble kn.1 cb = true ∧ Nat.ble kn.2 sb = true := ⟨ble_le (Nat.le_trans (Nat.le_add_right _ _) hkn.1), ble_le (Nat.le_trans (Nat.le_add_right _ _) hkn.2)⟩
  obtain ⟨v, h1, h2, e8, e9, hR2⟩ := p_save hR 
  refine aw_aload_n hC dL_law_2402 rfl ?_
  refine aw_cVi (v := v) (h2 := h1) hC dL_law_2403 cv_RL_306 rfl rm_6_0_0 (by have q := A_X8_save l hl0 D loc cy  h; rw [e8] at q; exact q) rfl rfl rfl rfl rfl hk0 ?_
  refine aw_aload_n hC dL_law_2406 rfl ?_
  refine aw_cVi (v := v) (h2 := h2) hC dL_law_2407 cv_RL_309 rfl rm_7_0_0 (by have q := A_X9_save l hl0 D loc cy  h1; rw [e9] at q; exact q) rfl rfl rfl rfl rfl hk0 ?_
  refine aw_icmp_eq_t hC dL_law_2410 (tgt := 2459) (by decide) rfl ?_
  exact aw_widen (Nat.le_add_right _ _) (Nat.le_add_right _ _) (kk h2 hR2)
theorem W_53 (hC : Cx p l e R s m args meth c D loc cy A cL_law 9 ret RL 2048 84000 cb sb) (hX : SX A s b n xs) (hI : IB i n) (hkn : kn.1 + 3 ≤ cb ∧ kn.2 + 18 ≤ sb) (hR : Rel h) (kk : ∀ h2, Rel h2 → AW p l e R s m args below meth c D loc cy A 9 Qof RF (kn.1 + 3, kn.2 + 18) 2459 (LL b loc i) [] h2 X) : AW p l e R s m args below meth c D loc cy A 9 Qof RF kn 2415 (LL b loc i) [] h X := by
  have hl0 := hC.2.2.2.2.2.2.2.2.2.2.2.2.1
  obtain ⟨i1, i2, i3, i4, i5⟩ := hI
  unfold LL
  have hk0 : Nat.ble kn.1 cb = true ∧ Nat.ble kn.2 sb = true := ⟨ble_le (Nat.le_trans (Nat.le_add_right _ _) hkn.1), ble_le (Nat.le_trans (Nat.le_add_right _ _) hkn.2)⟩
  obtain ⟨r, h1, k, hL, v, hM, e8, hq, e9, hR2, ek, ej⟩ := PPL (by decide) (fun w h => o_X9_restore w  h) (p_restore hR )
  refine aw_aload_n hC dL_law_2415 rfl ?_
  refine aw_aload_n hC dL_law_2416 rfl ?_
  refine aw_callL (k := k) (h2 := hL) (mc2 := 1) (ms2 := 6) (As := [.ref (loc (6, 0, 0)), .ref (loc (8, 0, 1))]) hC dL_law_2417 cl_RL_310 (A_L_restore l hl0 D loc cy  h (by have q := A_X8_restore l hl0 D loc cy  h; rw [e8] at q; exact q) hq) rfl rfl rfl rfl rfl ⟨Nat.le_trans (Nat.add_le_add_left (by decide) _) hkn.1, Nat.le_trans (Nat.add_le_add_left (by decide) _) hkn.2⟩ ?_
  have hk1 : Nat.ble (kn.1 + 1, kn.2 + 6).1 cb = true ∧ Nat.ble (kn.1 + 1, kn.2 + 6).2 sb = true := ⟨ble_le (Nat.le_trans (Nat.add_le_add_left (by decide) _) hkn.1), ble_le (Nat.le_trans (Nat.add_le_add_left (by decide) _) hkn.2)⟩
  refine aw_istore hC dL_law_2420 (by decide) ?_
  refine aw_aload_n hC dL_law_2422 rfl ?_
  refine aw_cVi (v := v) (h2 := hM) hC dL_law_2423 cv_RL_312 rfl rm_7_0_0 (by have q := A_X9_restore l hl0 D loc cy  hL; rw [e9] at q; exact q) rfl rfl rfl rfl rfl hk1 ?_
  refine aw_istore hC dL_law_2426 (by decide) ?_
  refine aw_aload_n hC dL_law_2428 rfl ?_
  refine aw_cVi (v := jX9_thrown hM) (h2 := hM) hC dL_law_2429 cv_RL_118 rfl rm_7_0_0 (A_X9_thrown l hl0 D loc cy hM) rfl rfl rfl rfl rfl hk1 ?_
  refine aw_iload hC dL_law_2432 rfl ?_
  refine aw_icmp_eq_t hC dL_law_2434 (tgt := 2439) (by decide) ek ?_
  refine aw_iload hC dL_law_2439 rfl ?_
  have kE : AW p l e R s m args below meth c D loc cy A 9 Qof RF (kn.1 + 1, kn.2 + 6) 2456 [(0, .ref b), (1, .ref (loc (6, 0, 0))), (2, .ref (loc (7, 0, 0))), (3, .ref (loc (8, 0, 1))), (4, .int i)] [] hM X := by
    refine aw_goto hC dL_law_2456 (tgt := 2459) (by decide) ?_
    exact aw_widen (Nat.add_le_add_left (by decide) _) (Nat.add_le_add_left (by decide) _) (kk hM hR2)
  by_cases hk : k = 0
  · refine aw_if_ne_f hC dL_law_2441 (tgt := 2456) (by decide) (fun z => z hk) ?_
    refine aw_aload_n hC dL_law_2444 rfl ?_
    refine aw_iconst hC dL_law_2445 (v := 0) (by decide) ?_
    refine aw_lald (r := (8, 0, 1)) (n := 1) (k := 0) hC dL_law_2446 (by decide +kernel) rfl rfl rfl rfl ?_
    refine aw_iload hC dL_law_2447 rfl ?_
    refine aw_i2l hC dL_law_2449 ?_
    refine aw_lcmp hC dL_law_2450 ?_
    refine aw_if_eq_t hC dL_law_2451 (tgt := 2456) (by decide) (lcmp_eq (ej hk)) ?_
    exact aw_sub [0, 1, 2, 3, 4] kE
  · refine aw_if_ne_t hC dL_law_2441 (tgt := 2456) (by decide) hk ?_
    exact aw_sub [0, 1, 2, 3, 4] kE
end LWC
