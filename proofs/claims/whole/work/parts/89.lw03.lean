section LWC
variable {p : Program} {l : Launch} {e : Env} {R : Room} {s : State} {m : MethodId} {args : Array Value} {below : List Frame} {meth : Method} {c : Code} {D : va_G} {loc : Rf → Nat} {cy : Nat → ClassId} {A : Nat → Prop} {ret : Option FieldType} {cb sb : Nat} {Qof : RR → State → Prop} {α : Type} {RF : α → Option RR} {kn : Nat × Nat} {h : HD} {X : α} {b n : Nat} {xs : Nat → Int32} {i : Int32}
theorem W_28 (hC : Cx p l e R s m args meth c D loc cy A cL_law 9 ret RL 2048 84000 cb sb) (hX : SX A s b n xs) (hI : IB i n) (hkn : kn.1 + 3 ≤ cb ∧ kn.2 + 18 ≤ sb) (hR : Rel h) (kk : ∀ h2, Rel h2 → AW p l e R s m args below meth c D loc cy A 9 Qof RF (kn.1 + 3, kn.2 + 18) 2459 (LL b loc i) [] h2 X) : AW p l e R s m args below meth c D loc cy A 9 Qof RF kn 1404 (LL b loc i) [] h X := by
  have hl0 := hC.2.2.2.2.2.2.2.2.2.2.2.2.1
  obtain ⟨i1, i2, i3, i4, i5⟩ := hI
  unfold LL
  have hk0 : Nat.ble kn.1 cb = true ∧ Nat.ble kn.2 sb = true := ⟨ble_le (Nat.le_trans (Nat.le_add_right _ _) hkn.1), ble_le (Nat.le_trans (Nat.le_add_right _ _) hkn.2)⟩
  obtain ⟨v, h1, h2, e8, e9, hR2⟩ := p_wide hR 
  refine aw_aload_n hC dL_law_1404 rfl ?_
  refine aw_cVi (v := v) (h2 := h1) hC dL_law_1405 cv_RL_220 rfl rm_6_0_0 (by have q := A_X8_wide l hl0 D loc cy  h; rw [e8] at q; exact q) rfl rfl rfl rfl rfl hk0 ?_
  refine aw_aload_n hC dL_law_1408 rfl ?_
  refine aw_cVi (v := v) (h2 := h2) hC dL_law_1409 cv_RL_223 rfl rm_7_0_0 (by have q := A_X9_wide l hl0 D loc cy  h1; rw [e9] at q; exact q) rfl rfl rfl rfl rfl hk0 ?_
  refine aw_icmp_eq_t hC dL_law_1412 (tgt := 2459) (by decide) rfl ?_
  exact aw_widen (Nat.le_add_right _ _) (Nat.le_add_right _ _) (kk h2 hR2)
theorem W_29 (hC : Cx p l e R s m args meth c D loc cy A cL_law 9 ret RL 2048 84000 cb sb) (hX : SX A s b n xs) (hI : IB i n) (hkn : kn.1 + 3 ≤ cb ∧ kn.2 + 18 ≤ sb) (hR : Rel h) (kk : ∀ h2, Rel h2 → AW p l e R s m args below meth c D loc cy A 9 Qof RF (kn.1 + 3, kn.2 + 18) 2459 (LL b loc i) [] h2 X) : AW p l e R s m args below meth c D loc cy A 9 Qof RF kn 1417 (LL b loc i) [] h X := by
  have hl0 := hC.2.2.2.2.2.2.2.2.2.2.2.2.1
  obtain ⟨i1, i2, i3, i4, i5⟩ := hI
  unfold LL
  have hk0 : Nat.ble kn.1 cb = true ∧ Nat.ble kn.2 sb = true := ⟨ble_le (Nat.le_trans (Nat.le_add_right _ _) hkn.1), ble_le (Nat.le_trans (Nat.le_add_right _ _) hkn.2)⟩
  obtain ⟨v, h1, h2, e8, e9, hR2⟩ := p_leaves hR 
  refine aw_aload_n hC dL_law_1417 rfl ?_
  refine aw_cVi (v := v) (h2 := h1) hC dL_law_1418 cv_RL_224 rfl rm_6_0_0 (by have q := A_X8_leaves l hl0 D loc cy  h; rw [e8] at q; exact q) rfl rfl rfl rfl rfl hk0 ?_
  refine aw_aload_n hC dL_law_1421 rfl ?_
  refine aw_cVi (v := v) (h2 := h2) hC dL_law_1422 cv_RL_227 rfl rm_7_0_0 (by have q := A_X9_leaves l hl0 D loc cy  h1; rw [e9] at q; exact q) rfl rfl rfl rfl rfl hk0 ?_
  refine aw_icmp_eq_t hC dL_law_1425 (tgt := 2459) (by decide) rfl ?_
  exact aw_widen (Nat.le_add_right _ _) (Nat.le_add_right _ _) (kk h2 hR2)
theorem W_30 (hC : Cx p l e R s m args meth c D loc cy A cL_law 9 ret RL 2048 84000 cb sb) (hX : SX A s b n xs) (hI : IB i n) (hkn : kn.1 + 3 ≤ cb ∧ kn.2 + 18 ≤ sb) (hR : Rel h) (kk : ∀ h2, Rel h2 → AW p l e R s m args below meth c D loc cy A 9 Qof RF (kn.1 + 3, kn.2 + 18) 2459 (LL b loc i) [] h2 X) : AW p l e R s m args below meth c D loc cy A 9 Qof RF kn 1430 (LL b loc i) [] h X := by
  have hl0 := hC.2.2.2.2.2.2.2.2.2.2.2.2.1
  obtain ⟨i1, i2, i3, i4, i5⟩ := hI
  unfold LL
  have hk0 : Nat.ble kn.1 cb = true ∧ Nat.ble kn.2 sb = true := ⟨ble_le (Nat.le_trans (Nat.le_add_right _ _) hkn.1), ble_le (Nat.le_trans (Nat.le_add_right _ _) hkn.2)⟩
  obtain ⟨v, h1, h2, e8, e9, hR2⟩ := p_codeGap hR 
  refine aw_aload_n hC dL_law_1430 rfl ?_
  refine aw_cVi (v := v) (h2 := h1) hC dL_law_1431 cv_RL_228 rfl rm_6_0_0 (by have q := A_X8_codeGap l hl0 D loc cy  h; rw [e8] at q; exact q) rfl rfl rfl rfl rfl hk0 ?_
  refine aw_aload_n hC dL_law_1434 rfl ?_
  refine aw_cVi (v := v) (h2 := h2) hC dL_law_1435 cv_RL_231 rfl rm_7_0_0 (by have q := A_X9_codeGap l hl0 D loc cy  h1; rw [e9] at q; exact q) rfl rfl rfl rfl rfl hk0 ?_
  refine aw_icmp_eq_t hC dL_law_1438 (tgt := 2459) (by decide) rfl ?_
  exact aw_widen (Nat.le_add_right _ _) (Nat.le_add_right _ _) (kk h2 hR2)
theorem W_31 (hC : Cx p l e R s m args meth c D loc cy A cL_law 9 ret RL 2048 84000 cb sb) (hX : SX A s b n xs) (hI : IB i n) (hkn : kn.1 + 3 ≤ cb ∧ kn.2 + 18 ≤ sb) (hR : Rel h) (kk : ∀ h2, Rel h2 → AW p l e R s m args below meth c D loc cy A 9 Qof RF (kn.1 + 3, kn.2 + 18) 2459 (LL b loc i) [] h2 X) : AW p l e R s m args below meth c D loc cy A 9 Qof RF kn 1443 (LL b loc i) [] h X := by
  have hl0 := hC.2.2.2.2.2.2.2.2.2.2.2.2.1
  obtain ⟨i1, i2, i3, i4, i5⟩ := hI
  unfold LL
  have hk0 : Nat.ble kn.1 cb = true ∧ Nat.ble kn.2 sb = true := ⟨ble_le (Nat.le_trans (Nat.le_add_right _ _) hkn.1), ble_le (Nat.le_trans (Nat.le_add_right _ _) hkn.2)⟩
  obtain ⟨v, h1, h2, e8, e9, hR2⟩ := p_meanWay hR 
  refine aw_aload_n hC dL_law_1443 rfl ?_
  refine aw_cVd (v := v) (h2 := h1) hC dL_law_1444 cv_RL_232 rfl rm_6_0_0 (by have q := A_X8_meanWay l hl0 D loc cy  h; rw [e8] at q; exact q) rfl rfl rfl rfl rfl hk0 ?_
  refine aw_dstore hC dL_law_1447 (by decide) ?_
  refine aw_aload_n hC dL_law_1449 rfl ?_
  refine aw_cVd (v := v) (h2 := h2) hC dL_law_1450 cv_RL_236 rfl rm_7_0_0 (by have q := A_X9_meanWay l hl0 D loc cy  h1; rw [e9] at q; exact q) rfl rfl rfl rfl rfl hk0 ?_
  refine aw_dstore hC dL_law_1453 (by decide) ?_
  refine aw_dload hC dL_law_1455 rfl ?_
  refine aw_dload hC dL_law_1457 rfl ?_
  refine aw_dcmpv hC dL_law_1459 ?_
  have kE : AW p l e R s m args below meth c D loc cy A 9 Qof RF kn 1481 [(0, .ref b), (1, .ref (loc (6, 0, 0))), (2, .ref (loc (7, 0, 0))), (3, .ref (loc (8, 0, 1))), (4, .int i)] [] h2 X := by
    refine aw_goto hC dL_law_1481 (tgt := 2459) (by decide) ?_
    exact aw_widen (Nat.le_add_right _ _) (Nat.le_add_right _ _) (kk h2 hR2)
  by_cases hk : Op.cmpValue (FP.dcmp v v) .l = 0
  · refine aw_if_eq_t hC dL_law_1460 (tgt := 1481) (by decide) hk ?_
    exact aw_sub [0, 1, 2, 3, 4] kE
  · refine aw_if_eq_f hC dL_law_1460 (tgt := 1481) (by decide) hk ?_
    refine aw_dload hC dL_law_1463 rfl ?_
    refine aw_dload hC dL_law_1465 rfl ?_
    refine aw_dcmpv hC dL_law_1467 ?_
    refine aw_if_eq_f hC dL_law_1468 (tgt := 1479) (by decide) hk ?_
    refine aw_dload hC dL_law_1471 rfl ?_
    refine aw_dload hC dL_law_1473 rfl ?_
    refine aw_dcmpv hC dL_law_1475 ?_
    refine aw_if_ne_t hC dL_law_1476 (tgt := 1481) (by decide) hk ?_
    exact aw_sub [0, 1, 2, 3, 4] kE
theorem W_32 (hC : Cx p l e R s m args meth c D loc cy A cL_law 9 ret RL 2048 84000 cb sb) (hX : SX A s b n xs) (hI : IB i n) (hkn : kn.1 + 3 ≤ cb ∧ kn.2 + 18 ≤ sb) (hR : Rel h) (kk : ∀ h2, Rel h2 → AW p l e R s m args below meth c D loc cy A 9 Qof RF (kn.1 + 3, kn.2 + 18) 2459 (LL b loc i) [] h2 X) : AW p l e R s m args below meth c D loc cy A 9 Qof RF kn 1484 (LL b loc i) [] h X := by
  have hl0 := hC.2.2.2.2.2.2.2.2.2.2.2.2.1
  obtain ⟨i1, i2, i3, i4, i5⟩ := hI
  unfold LL
  have hk0 : Nat.ble kn.1 cb = true ∧ Nat.ble kn.2 sb = true := ⟨ble_le (Nat.le_trans (Nat.le_add_right _ _) hkn.1), ble_le (Nat.le_trans (Nat.le_add_right _ _) hkn.2)⟩
  obtain ⟨v, h1, h2, e8, e9, hR2⟩ := p_luckyShare hR 
  refine aw_aload_n hC dL_law_1484 rfl ?_
  refine aw_cVf (v := v) (h2 := h1) hC dL_law_1485 cv_RL_237 rfl rm_6_0_0 (by have q := A_X8_luckyShare l hl0 D loc cy  h; rw [e8] at q; exact q) rfl rfl rfl rfl rfl hk0 ?_
  refine aw_f2d hC dL_law_1488 (ls_ok hR e8) ?_
  refine aw_dstore hC dL_law_1489 (by decide) ?_
  refine aw_aload_n hC dL_law_1491 rfl ?_
  refine aw_cVf (v := v) (h2 := h2) hC dL_law_1492 cv_RL_241 rfl rm_7_0_0 (by have q := A_X9_luckyShare l hl0 D loc cy  h1; rw [e9] at q; exact q) rfl rfl rfl rfl rfl hk0 ?_
  refine aw_f2d hC dL_law_1495 (ls_ok hR e8) ?_
  refine aw_dstore hC dL_law_1496 (by decide) ?_
  refine aw_dload hC dL_law_1498 rfl ?_
  refine aw_dload hC dL_law_1500 rfl ?_
  refine aw_dcmpv hC dL_law_1502 ?_
  have kE : AW p l e R s m args below meth c D loc cy A 9 Qof RF kn 1524 [(0, .ref b), (1, .ref (loc (6, 0, 0))), (2, .ref (loc (7, 0, 0))), (3, .ref (loc (8, 0, 1))), (4, .int i)] [] h2 X := by
    refine aw_goto hC dL_law_1524 (tgt := 2459) (by decide) ?_
    exact aw_widen (Nat.le_add_right _ _) (Nat.le_add_right _ _) (kk h2 hR2)
  by_cases hk : Op.cmpValue (FP.dcmp (FP.f2d v) (FP.f2d v)) .l = 0
  · refine aw_if_eq_t hC dL_law_1503 (tgt := 1524) (by decide) hk ?_
    exact aw_sub [0, 1, 2, 3, 4] kE
  · refine aw_if_eq_f hC dL_law_1503 (tgt := 1524) (by decide) hk ?_
    refine aw_dload hC dL_law_1506 rfl ?_
    refine aw_dload hC dL_law_1508 rfl ?_
    refine aw_dcmpv hC dL_law_1510 ?_
    refine aw_if_eq_f hC dL_law_1511 (tgt := 1522) (by decide) hk ?_
    refine aw_dload hC dL_law_1514 rfl ?_
    refine aw_dload hC dL_law_1516 rfl ?_
    refine aw_dcmpv hC dL_law_1518 ?_
    refine aw_if_ne_t hC dL_law_1519 (tgt := 1524) (by decide) hk ?_
    exact aw_sub [0, 1, 2, 3, 4] kE
theorem W_33 (hC : Cx p l e R s m args meth c D loc cy A cL_law 9 ret RL 2048 84000 cb sb) (hX : SX A s b n xs) (hI : IB i n) (hkn : kn.1 + 3 ≤ cb ∧ kn.2 + 18 ≤ sb) (hR : Rel h) (kk : ∀ h2, Rel h2 → AW p l e R s m args below meth c D loc cy A 9 Qof RF (kn.1 + 3, kn.2 + 18) 2459 (LL b loc i) [] h2 X) : AW p l e R s m args below meth c D loc cy A 9 Qof RF kn 1527 (LL b loc i) [] h X := by
  have hl0 := hC.2.2.2.2.2.2.2.2.2.2.2.2.1
  obtain ⟨i1, i2, i3, i4, i5⟩ := hI
  unfold LL
  have hk0 : Nat.ble kn.1 cb = true ∧ Nat.ble kn.2 sb = true := ⟨ble_le (Nat.le_trans (Nat.le_add_right _ _) hkn.1), ble_le (Nat.le_trans (Nat.le_add_right _ _) hkn.2)⟩
  obtain ⟨r, h1, k, hL, v, hM, e8, hq, e9, hR2, ek, ej⟩ := PPL (by decide) (fun w h => o_X9_spotIf w (xs (i + 1).toNatClampNeg) (xs (i + 2).toNatClampNeg) h) (p_spotIf hR (xs (i + 1).toNatClampNeg) (xs (i + 2).toNatClampNeg))
  refine aw_aload_n hC dL_law_1527 rfl ?_
  refine aw_aload_n hC dL_law_1528 rfl ?_
  refine aw_iload hC dL_law_1529 rfl ?_
  refine aw_iconst hC dL_law_1531 (v := 1) (by decide) ?_
  refine aw_iadd hC dL_law_1532 ?_
  refine aw_sld hC hX dL_law_1533 i1 ?_
  refine aw_aload_n hC dL_law_1534 rfl ?_
  refine aw_iload hC dL_law_1535 rfl ?_
  refine aw_iconst hC dL_law_1537 (v := 2) (by decide) ?_
  refine aw_iadd hC dL_law_1538 ?_
  refine aw_sld hC hX dL_law_1539 i2 ?_
  refine aw_aload_n hC dL_law_1540 rfl ?_
  refine aw_callL (k := k) (h2 := hL) (mc2 := 2) (ms2 := 12) (As := [.ref (loc (6, 0, 0)), .int (xs (i + 1).toNatClampNeg), .int (xs (i + 2).toNatClampNeg), .ref (loc (8, 0, 1))]) hC dL_law_1541 cl_RL_242 (A_L_spotIf l hl0 D loc cy (xs (i + 1).toNatClampNeg) (xs (i + 2).toNatClampNeg) h (by have q := A_X8_spotIf l hl0 D loc cy (xs (i + 1).toNatClampNeg) (xs (i + 2).toNatClampNeg) h; rw [e8] at q; exact q) hq) rfl rfl rfl rfl rfl ⟨Nat.le_trans (Nat.add_le_add_left (by decide) _) hkn.1, Nat.le_trans (Nat.add_le_add_left (by decide) _) hkn.2⟩ ?_
  have hk1 : Nat.ble (kn.1 + 2, kn.2 + 12).1 cb = true ∧ Nat.ble (kn.1 + 2, kn.2 + 12).2 sb = true := ⟨ble_le (Nat.le_trans (Nat.add_le_add_left (by decide) _) hkn.1), ble_le (Nat.le_trans (Nat.add_le_add_left (by decide) _) hkn.2)⟩
  refine aw_istore hC dL_law_1544 (by decide) ?_
  refine aw_aload_n hC dL_law_1546 rfl ?_
  refine aw_aload_n hC dL_law_1547 rfl ?_
  refine aw_iload hC dL_law_1548 rfl ?_
  refine aw_iconst hC dL_law_1550 (v := 1) (by decide) ?_
  refine aw_iadd hC dL_law_1551 ?_
  refine aw_sld hC hX dL_law_1552 i1 ?_
  refine aw_aload_n hC dL_law_1553 rfl ?_
  refine aw_iload hC dL_law_1554 rfl ?_
  refine aw_iconst hC dL_law_1556 (v := 2) (by decide) ?_
  refine aw_iadd hC dL_law_1557 ?_
  refine aw_sld hC hX dL_law_1558 i2 ?_
  refine aw_cVi (v := v) (h2 := hM) hC dL_law_1559 cv_RL_244 rfl rm_7_0_0 (by have q := A_X9_spotIf l hl0 D loc cy (xs (i + 1).toNatClampNeg) (xs (i + 2).toNatClampNeg) hL; rw [e9] at q; exact q) rfl rfl rfl rfl rfl hk1 ?_
  refine aw_istore hC dL_law_1562 (by decide) ?_
  refine aw_aload_n hC dL_law_1564 rfl ?_
  refine aw_cVi (v := jX9_thrown hM) (h2 := hM) hC dL_law_1565 cv_RL_118 rfl rm_7_0_0 (A_X9_thrown l hl0 D loc cy hM) rfl rfl rfl rfl rfl hk1 ?_
  refine aw_iload hC dL_law_1568 rfl ?_
  refine aw_icmp_eq_t hC dL_law_1570 (tgt := 1575) (by decide) ek ?_
  refine aw_iload hC dL_law_1575 rfl ?_
  have kE : AW p l e R s m args below meth c D loc cy A 9 Qof RF (kn.1 + 2, kn.2 + 12) 1592 [(0, .ref b), (1, .ref (loc (6, 0, 0))), (2, .ref (loc (7, 0, 0))), (3, .ref (loc (8, 0, 1))), (4, .int i)] [] hM X := by
    refine aw_goto hC dL_law_1592 (tgt := 2459) (by decide) ?_
    exact aw_widen (Nat.add_le_add_left (by decide) _) (Nat.add_le_add_left (by decide) _) (kk hM hR2)
  by_cases hk : k = 0
  · refine aw_if_ne_f hC dL_law_1577 (tgt := 1592) (by decide) (fun z => z hk) ?_
    refine aw_aload_n hC dL_law_1580 rfl ?_
    refine aw_iconst hC dL_law_1581 (v := 0) (by decide) ?_
    refine aw_lald (r := (8, 0, 1)) (n := 1) (k := 0) hC dL_law_1582 (by decide +kernel) rfl rfl rfl rfl ?_
    refine aw_iload hC dL_law_1583 rfl ?_
    refine aw_i2l hC dL_law_1585 ?_
    refine aw_lcmp hC dL_law_1586 ?_
    refine aw_if_eq_t hC dL_law_1587 (tgt := 1592) (by decide) (lcmp_eq (ej hk)) ?_
    exact aw_sub [0, 1, 2, 3, 4] kE
  · refine aw_if_ne_t hC dL_law_1577 (tgt := 1592) (by decide) hk ?_
    exact aw_sub [0, 1, 2, 3, 4] kE
theorem W_34 (hC : Cx p l e R s m args meth c D loc cy A cL_law 9 ret RL 2048 84000 cb sb) (hX : SX A s b n xs) (hI : IB i n) (hkn : kn.1 + 3 ≤ cb ∧ kn.2 + 18 ≤ sb) (hR : Rel h) (kk : ∀ h2, Rel h2 → AW p l e R s m args below meth c D loc cy A 9 Qof RF (kn.1 + 3, kn.2 + 18) 2459 (LL b loc i) [] h2 X) : AW p l e R s m args below meth c D loc cy A 9 Qof RF kn 1595 (LL b loc i) [] h X := by
  have hl0 := hC.2.2.2.2.2.2.2.2.2.2.2.2.1
  obtain ⟨i1, i2, i3, i4, i5⟩ := hI
  unfold LL
  have hk0 : Nat.ble kn.1 cb = true ∧ Nat.ble kn.2 sb = true := ⟨ble_le (Nat.le_trans (Nat.le_add_right _ _) hkn.1), ble_le (Nat.le_trans (Nat.le_add_right _ _) hkn.2)⟩
  obtain ⟨r, h1, k, hL, v, hM, e8, hq, e9, hR2, ek, ej⟩ := PPL (by decide) (fun w h => o_X9_settingIf w (xs (i + 1).toNatClampNeg) (xs (i + 2).toNatClampNeg) (xs (i + 3).toNatClampNeg) h) (p_settingIf hR (xs (i + 1).toNatClampNeg) (xs (i + 2).toNatClampNeg) (xs (i + 3).toNatClampNeg))
  refine aw_aload_n hC dL_law_1595 rfl ?_
  refine aw_aload_n hC dL_law_1596 rfl ?_
  refine aw_iload hC dL_law_1597 rfl ?_
  refine aw_iconst hC dL_law_1599 (v := 1) (by decide) ?_
  refine aw_iadd hC dL_law_1600 ?_
  refine aw_sld hC hX dL_law_1601 i1 ?_
  refine aw_aload_n hC dL_law_1602 rfl ?_
  refine aw_iload hC dL_law_1603 rfl ?_
  refine aw_iconst hC dL_law_1605 (v := 2) (by decide) ?_
  refine aw_iadd hC dL_law_1606 ?_
  refine aw_sld hC hX dL_law_1607 i2 ?_
  refine aw_aload_n hC dL_law_1608 rfl ?_
  refine aw_iload hC dL_law_1609 rfl ?_
  refine aw_iconst hC dL_law_1611 (v := 3) (by decide) ?_
  refine aw_iadd hC dL_law_1612 ?_
  refine aw_sld hC hX dL_law_1613 i3 ?_
  refine aw_aload_n hC dL_law_1614 rfl ?_
  refine aw_callL (k := k) (h2 := hL) (mc2 := 3) (ms2 := 18) (As := [.ref (loc (6, 0, 0)), .int (xs (i + 1).toNatClampNeg), .int (xs (i + 2).toNatClampNeg), .int (xs (i + 3).toNatClampNeg), .ref (loc (8, 0, 1))]) hC dL_law_1615 cl_RL_245 (A_L_settingIf l hl0 D loc cy (xs (i + 1).toNatClampNeg) (xs (i + 2).toNatClampNeg) (xs (i + 3).toNatClampNeg) h (by have q := A_X8_settingIf l hl0 D loc cy (xs (i + 1).toNatClampNeg) (xs (i + 2).toNatClampNeg) (xs (i + 3).toNatClampNeg) h; rw [e8] at q; exact q) hq) rfl rfl rfl rfl rfl ⟨Nat.le_trans (Nat.add_le_add_left (by decide) _) hkn.1, Nat.le_trans (Nat.add_le_add_left (by decide) _) hkn.2⟩ ?_
  have hk1 : Nat.ble (kn.1 + 3, kn.2 + 18).1 cb = true ∧ Nat.ble (kn.1 + 3, kn.2 + 18).2 sb = true := ⟨ble_le (Nat.le_trans (Nat.add_le_add_left (by decide) _) hkn.1), ble_le (Nat.le_trans (Nat.add_le_add_left (by decide) _) hkn.2)⟩
  refine aw_istore hC dL_law_1618 (by decide) ?_
  refine aw_aload_n hC dL_law_1620 rfl ?_
  refine aw_aload_n hC dL_law_1621 rfl ?_
  refine aw_iload hC dL_law_1622 rfl ?_
  refine aw_iconst hC dL_law_1624 (v := 1) (by decide) ?_
  refine aw_iadd hC dL_law_1625 ?_
  refine aw_sld hC hX dL_law_1626 i1 ?_
  refine aw_aload_n hC dL_law_1627 rfl ?_
  refine aw_iload hC dL_law_1628 rfl ?_
  refine aw_iconst hC dL_law_1630 (v := 2) (by decide) ?_
  refine aw_iadd hC dL_law_1631 ?_
  refine aw_sld hC hX dL_law_1632 i2 ?_
  refine aw_aload_n hC dL_law_1633 rfl ?_
  refine aw_iload hC dL_law_1634 rfl ?_
  refine aw_iconst hC dL_law_1636 (v := 3) (by decide) ?_
  refine aw_iadd hC dL_law_1637 ?_
  refine aw_sld hC hX dL_law_1638 i3 ?_
  refine aw_cVi (v := v) (h2 := hM) hC dL_law_1639 cv_RL_248 rfl rm_7_0_0 (by have q := A_X9_settingIf l hl0 D loc cy (xs (i + 1).toNatClampNeg) (xs (i + 2).toNatClampNeg) (xs (i + 3).toNatClampNeg) hL; rw [e9] at q; exact q) rfl rfl rfl rfl rfl hk1 ?_
  refine aw_istore hC dL_law_1642 (by decide) ?_
  refine aw_aload_n hC dL_law_1644 rfl ?_
  refine aw_cVi (v := jX9_thrown hM) (h2 := hM) hC dL_law_1645 cv_RL_118 rfl rm_7_0_0 (A_X9_thrown l hl0 D loc cy hM) rfl rfl rfl rfl rfl hk1 ?_
  refine aw_iload hC dL_law_1648 rfl ?_
  refine aw_icmp_eq_t hC dL_law_1650 (tgt := 1655) (by decide) ek ?_
  refine aw_iload hC dL_law_1655 rfl ?_
  have kE : AW p l e R s m args below meth c D loc cy A 9 Qof RF (kn.1 + 3, kn.2 + 18) 1672 [(0, .ref b), (1, .ref (loc (6, 0, 0))), (2, .ref (loc (7, 0, 0))), (3, .ref (loc (8, 0, 1))), (4, .int i)] [] hM X := by
    refine aw_goto hC dL_law_1672 (tgt := 2459) (by decide) ?_
    exact aw_widen (Nat.add_le_add_left (by decide) _) (Nat.add_le_add_left (by decide) _) (kk hM hR2)
  by_cases hk : k = 0
  · refine aw_if_ne_f hC dL_law_1657 (tgt := 1672) (by decide) (fun z => z hk) ?_
    refine aw_aload_n hC dL_law_1660 rfl ?_
    refine aw_iconst hC dL_law_1661 (v := 0) (by decide) ?_
    refine aw_lald (r := (8, 0, 1)) (n := 1) (k := 0) hC dL_law_1662 (by decide +kernel) rfl rfl rfl rfl ?_
    refine aw_iload hC dL_law_1663 rfl ?_
    refine aw_i2l hC dL_law_1665 ?_
    refine aw_lcmp hC dL_law_1666 ?_
    refine aw_if_eq_t hC dL_law_1667 (tgt := 1672) (by decide) (lcmp_eq (ej hk)) ?_
    exact aw_sub [0, 1, 2, 3, 4] kE
  · refine aw_if_ne_t hC dL_law_1657 (tgt := 1672) (by decide) hk ?_
    exact aw_sub [0, 1, 2, 3, 4] kE
theorem W_35 (hC : Cx p l e R s m args meth c D loc cy A cL_law 9 ret RL 2048 84000 cb sb) (hX : SX A s b n xs) (hI : IB i n) (hkn : kn.1 + 3 ≤ cb ∧ kn.2 + 18 ≤ sb) (hR : Rel h) (kk : ∀ h2, Rel h2 → AW p l e R s m args below meth c D loc cy A 9 Qof RF (kn.1 + 3, kn.2 + 18) 2459 (LL b loc i) [] h2 X) : AW p l e R s m args below meth c D loc cy A 9 Qof RF kn 1675 (LL b loc i) [] h X := by
  have hl0 := hC.2.2.2.2.2.2.2.2.2.2.2.2.1
  obtain ⟨i1, i2, i3, i4, i5⟩ := hI
  unfold LL
  have hk0 : Nat.ble kn.1 cb = true ∧ Nat.ble kn.2 sb = true := ⟨ble_le (Nat.le_trans (Nat.le_add_right _ _) hkn.1), ble_le (Nat.le_trans (Nat.le_add_right _ _) hkn.2)⟩
  obtain ⟨r, h1, k, hL, v, hM, e8, hq, e9, hR2, ek, ej⟩ := PPL (by decide) (fun w h => o_X9_bestFor w (xs (i + 1).toNatClampNeg) h) (p_bestFor hR (xs (i + 1).toNatClampNeg))
  refine aw_aload_n hC dL_law_1675 rfl ?_
  refine aw_aload_n hC dL_law_1676 rfl ?_
  refine aw_iload hC dL_law_1677 rfl ?_
  refine aw_iconst hC dL_law_1679 (v := 1) (by decide) ?_
  refine aw_iadd hC dL_law_1680 ?_
  refine aw_sld hC hX dL_law_1681 i1 ?_
  refine aw_aload_n hC dL_law_1682 rfl ?_
  refine aw_callL (k := k) (h2 := hL) (mc2 := 1) (ms2 := 6) (As := [.ref (loc (6, 0, 0)), .int (xs (i + 1).toNatClampNeg), .ref (loc (8, 0, 1))]) hC dL_law_1683 cl_RL_249 (A_L_bestFor l hl0 D loc cy (xs (i + 1).toNatClampNeg) h (by have q := A_X8_bestFor l hl0 D loc cy (xs (i + 1).toNatClampNeg) h; rw [e8] at q; exact q) hq) rfl rfl rfl rfl rfl ⟨Nat.le_trans (Nat.add_le_add_left (by decide) _) hkn.1, Nat.le_trans (Nat.add_le_add_left (by decide) _) hkn.2⟩ ?_
  have hk1 : Nat.ble (kn.1 + 1, kn.2 + 6).1 cb = true ∧ Nat.ble (kn.1 + 1, kn.2 + 6).2 sb = true := ⟨ble_le (Nat.le_trans (Nat.add_le_add_left (by decide) _) hkn.1), ble_le (Nat.le_trans (Nat.add_le_add_left (by decide) _) hkn.2)⟩
  refine aw_istore hC dL_law_1686 (by decide) ?_
  refine aw_aload_n hC dL_law_1688 rfl ?_
  refine aw_aload_n hC dL_law_1689 rfl ?_
  refine aw_iload hC dL_law_1690 rfl ?_
  refine aw_iconst hC dL_law_1692 (v := 1) (by decide) ?_
  refine aw_iadd hC dL_law_1693 ?_
  refine aw_sld hC hX dL_law_1694 i1 ?_
  refine aw_cVi (v := v) (h2 := hM) hC dL_law_1695 cv_RL_251 rfl rm_7_0_0 (by have q := A_X9_bestFor l hl0 D loc cy (xs (i + 1).toNatClampNeg) hL; rw [e9] at q; exact q) rfl rfl rfl rfl rfl hk1 ?_
  refine aw_istore hC dL_law_1698 (by decide) ?_
  refine aw_aload_n hC dL_law_1700 rfl ?_
  refine aw_cVi (v := jX9_thrown hM) (h2 := hM) hC dL_law_1701 cv_RL_118 rfl rm_7_0_0 (A_X9_thrown l hl0 D loc cy hM) rfl rfl rfl rfl rfl hk1 ?_
  refine aw_iload hC dL_law_1704 rfl ?_
  refine aw_icmp_eq_t hC dL_law_1706 (tgt := 1711) (by decide) ek ?_
  refine aw_iload hC dL_law_1711 rfl ?_
  have kE : AW p l e R s m args below meth c D loc cy A 9 Qof RF (kn.1 + 1, kn.2 + 6) 1728 [(0, .ref b), (1, .ref (loc (6, 0, 0))), (2, .ref (loc (7, 0, 0))), (3, .ref (loc (8, 0, 1))), (4, .int i)] [] hM X := by
    refine aw_goto hC dL_law_1728 (tgt := 2459) (by decide) ?_
    exact aw_widen (Nat.add_le_add_left (by decide) _) (Nat.add_le_add_left (by decide) _) (kk hM hR2)
  by_cases hk : k = 0
  · refine aw_if_ne_f hC dL_law_1713 (tgt := 1728) (by decide) (fun z => z hk) ?_
    refine aw_aload_n hC dL_law_1716 rfl ?_
    refine aw_iconst hC dL_law_1717 (v := 0) (by decide) ?_
    refine aw_lald (r := (8, 0, 1)) (n := 1) (k := 0) hC dL_law_1718 (by decide +kernel) rfl rfl rfl rfl ?_
    refine aw_iload hC dL_law_1719 rfl ?_
    refine aw_i2l hC dL_law_1721 ?_
    refine aw_lcmp hC dL_law_1722 ?_
    refine aw_if_eq_t hC dL_law_1723 (tgt := 1728) (by decide) (lcmp_eq (ej hk)) ?_
    exact aw_sub [0, 1, 2, 3, 4] kE
  · refine aw_if_ne_t hC dL_law_1713 (tgt := 1728) (by decide) hk ?_
    exact aw_sub [0, 1, 2, 3, 4] kE
theorem W_36 (hC : Cx p l e R s m args meth c D loc cy A cL_law 9 ret RL 2048 84000 cb sb) (hX : SX A s b n xs) (hI : IB i n) (hkn : kn.1 + 3 ≤ cb ∧ kn.2 + 18 ≤ sb) (hR : Rel h) (kk : ∀ h2, Rel h2 → AW p l e R s m args below meth c D loc cy A 9 Qof RF (kn.1 + 3, kn.2 + 18) 2459 (LL b loc i) [] h2 X) : AW p l e R s m args below meth c D loc cy A 9 Qof RF kn 1731 (LL b loc i) [] h X := by
  have hl0 := hC.2.2.2.2.2.2.2.2.2.2.2.2.1
  obtain ⟨i1, i2, i3, i4, i5⟩ := hI
  unfold LL
  have hk0 : Nat.ble kn.1 cb = true ∧ Nat.ble kn.2 sb = true := ⟨ble_le (Nat.le_trans (Nat.le_add_right _ _) hkn.1), ble_le (Nat.le_trans (Nat.le_add_right _ _) hkn.2)⟩
  obtain ⟨r, h1, k, hL, v, hM, e8, hq, e9, hR2, ek, ej⟩ := PPL (by decide) (fun w h => o_X9_latest w (xs (i + 1).toNatClampNeg) h) (p_latest hR (xs (i + 1).toNatClampNeg))
  refine aw_aload_n hC dL_law_1731 rfl ?_
  refine aw_aload_n hC dL_law_1732 rfl ?_
  refine aw_iload hC dL_law_1733 rfl ?_
  refine aw_iconst hC dL_law_1735 (v := 1) (by decide) ?_
  refine aw_iadd hC dL_law_1736 ?_
  refine aw_sld hC hX dL_law_1737 i1 ?_
  refine aw_aload_n hC dL_law_1738 rfl ?_
  refine aw_callL (k := k) (h2 := hL) (mc2 := 1) (ms2 := 6) (As := [.ref (loc (6, 0, 0)), .int (xs (i + 1).toNatClampNeg), .ref (loc (8, 0, 1))]) hC dL_law_1739 cl_RL_252 (A_L_latest l hl0 D loc cy (xs (i + 1).toNatClampNeg) h (by have q := A_X8_latest l hl0 D loc cy (xs (i + 1).toNatClampNeg) h; rw [e8] at q; exact q) hq) rfl rfl rfl rfl rfl ⟨Nat.le_trans (Nat.add_le_add_left (by decide) _) hkn.1, Nat.le_trans (Nat.add_le_add_left (by decide) _) hkn.2⟩ ?_
  have hk1 : Nat.ble (kn.1 + 1, kn.2 + 6).1 cb = true ∧ Nat.ble (kn.1 + 1, kn.2 + 6).2 sb = true := ⟨ble_le (Nat.le_trans (Nat.add_le_add_left (by decide) _) hkn.1), ble_le (Nat.le_trans (Nat.add_le_add_left (by decide) _) hkn.2)⟩
  refine aw_istore hC dL_law_1742 (by decide) ?_
  refine aw_aload_n hC dL_law_1744 rfl ?_
  refine aw_aload_n hC dL_law_1745 rfl ?_
  refine aw_iload hC dL_law_1746 rfl ?_
  refine aw_iconst hC dL_law_1748 (v := 1) (by decide) ?_
  refine aw_iadd hC dL_law_1749 ?_
  refine aw_sld hC hX dL_law_1750 i1 ?_
  refine aw_cVi (v := v) (h2 := hM) hC dL_law_1751 cv_RL_254 rfl rm_7_0_0 (by have q := A_X9_latest l hl0 D loc cy (xs (i + 1).toNatClampNeg) hL; rw [e9] at q; exact q) rfl rfl rfl rfl rfl hk1 ?_
  refine aw_istore hC dL_law_1754 (by decide) ?_
  refine aw_aload_n hC dL_law_1756 rfl ?_
  refine aw_cVi (v := jX9_thrown hM) (h2 := hM) hC dL_law_1757 cv_RL_118 rfl rm_7_0_0 (A_X9_thrown l hl0 D loc cy hM) rfl rfl rfl rfl rfl hk1 ?_
  refine aw_iload hC dL_law_1760 rfl ?_
  refine aw_icmp_eq_t hC dL_law_1762 (tgt := 1767) (by decide) ek ?_
  refine aw_iload hC dL_law_1767 rfl ?_
  have kE : AW p l e R s m args below meth c D loc cy A 9 Qof RF (kn.1 + 1, kn.2 + 6) 1784 [(0, .ref b), (1, .ref (loc (6, 0, 0))), (2, .ref (loc (7, 0, 0))), (3, .ref (loc (8, 0, 1))), (4, .int i)] [] hM X := by
    refine aw_goto hC dL_law_1784 (tgt := 2459) (by decide) ?_
    exact aw_widen (Nat.add_le_add_left (by decide) _) (Nat.add_le_add_left (by decide) _) (kk hM hR2)
  by_cases hk : k = 0
  · refine aw_if_ne_f hC dL_law_1769 (tgt := 1784) (by decide) (fun z => z hk) ?_
    refine aw_aload_n hC dL_law_1772 rfl ?_
    refine aw_iconst hC dL_law_1773 (v := 0) (by decide) ?_
    refine aw_lald (r := (8, 0, 1)) (n := 1) (k := 0) hC dL_law_1774 (by decide +kernel) rfl rfl rfl rfl ?_
    refine aw_iload hC dL_law_1775 rfl ?_
    refine aw_i2l hC dL_law_1777 ?_
    refine aw_lcmp hC dL_law_1778 ?_
    refine aw_if_eq_t hC dL_law_1779 (tgt := 1784) (by decide) (lcmp_eq (ej hk)) ?_
    exact aw_sub [0, 1, 2, 3, 4] kE
  · refine aw_if_ne_t hC dL_law_1769 (tgt := 1784) (by decide) hk ?_
    exact aw_sub [0, 1, 2, 3, 4] kE
theorem W_37 (hC : Cx p l e R s m args meth c D loc cy A cL_law 9 ret RL 2048 84000 cb sb) (hX : SX A s b n xs) (hI : IB i n) (hkn : kn.1 + 3 ≤ cb ∧ kn.2 + 18 ≤ sb) (hR : Rel h) (kk : ∀ h2, Rel h2 → AW p l e R s m args below meth c D loc cy A 9 Qof RF (kn.1 + 3, kn.2 + 18) 2459 (LL b loc i) [] h2 X) : AW p l e R s m args below meth c D loc cy A 9 Qof RF kn 1787 (LL b loc i) [] h X := by
  have hl0 := hC.2.2.2.2.2.2.2.2.2.2.2.2.1
  obtain ⟨i1, i2, i3, i4, i5⟩ := hI
  unfold LL
  have hk0 : Nat.ble kn.1 cb = true ∧ Nat.ble kn.2 sb = true := ⟨ble_le (Nat.le_trans (Nat.le_add_right _ _) hkn.1), ble_le (Nat.le_trans (Nat.le_add_right _ _) hkn.2)⟩
  obtain ⟨r, h1, k, hL, v, hM, e8, hq, e9, hR2, ek, ej⟩ := PPL (by decide) (fun w h => o_X9_wayBy w (xs (i + 1).toNatClampNeg) h) (p_wayBy hR (xs (i + 1).toNatClampNeg))
  refine aw_aload_n hC dL_law_1787 rfl ?_
  refine aw_aload_n hC dL_law_1788 rfl ?_
  refine aw_iload hC dL_law_1789 rfl ?_
  refine aw_iconst hC dL_law_1791 (v := 1) (by decide) ?_
  refine aw_iadd hC dL_law_1792 ?_
  refine aw_sld hC hX dL_law_1793 i1 ?_
  refine aw_aload_n hC dL_law_1794 rfl ?_
  refine aw_callL (k := k) (h2 := hL) (mc2 := 1) (ms2 := 6) (As := [.ref (loc (6, 0, 0)), .int (xs (i + 1).toNatClampNeg), .ref (loc (8, 0, 1))]) hC dL_law_1795 cl_RL_255 (A_L_wayBy l hl0 D loc cy (xs (i + 1).toNatClampNeg) h (by have q := A_X8_wayBy l hl0 D loc cy (xs (i + 1).toNatClampNeg) h; rw [e8] at q; exact q) hq) rfl rfl rfl rfl rfl ⟨Nat.le_trans (Nat.add_le_add_left (by decide) _) hkn.1, Nat.le_trans (Nat.add_le_add_left (by decide) _) hkn.2⟩ ?_
  have hk1 : Nat.ble (kn.1 + 1, kn.2 + 6).1 cb = true ∧ Nat.ble (kn.1 + 1, kn.2 + 6).2 sb = true := ⟨ble_le (Nat.le_trans (Nat.add_le_add_left (by decide) _) hkn.1), ble_le (Nat.le_trans (Nat.add_le_add_left (by decide) _) hkn.2)⟩
  refine aw_istore hC dL_law_1798 (by decide) ?_
  refine aw_aload_n hC dL_law_1800 rfl ?_
  refine aw_aload_n hC dL_law_1801 rfl ?_
  refine aw_iload hC dL_law_1802 rfl ?_
  refine aw_iconst hC dL_law_1804 (v := 1) (by decide) ?_
  refine aw_iadd hC dL_law_1805 ?_
  refine aw_sld hC hX dL_law_1806 i1 ?_
  refine aw_cVi (v := v) (h2 := hM) hC dL_law_1807 cv_RL_257 rfl rm_7_0_0 (by have q := A_X9_wayBy l hl0 D loc cy (xs (i + 1).toNatClampNeg) hL; rw [e9] at q; exact q) rfl rfl rfl rfl rfl hk1 ?_
  refine aw_istore hC dL_law_1810 (by decide) ?_
  refine aw_aload_n hC dL_law_1812 rfl ?_
  refine aw_cVi (v := jX9_thrown hM) (h2 := hM) hC dL_law_1813 cv_RL_118 rfl rm_7_0_0 (A_X9_thrown l hl0 D loc cy hM) rfl rfl rfl rfl rfl hk1 ?_
  refine aw_iload hC dL_law_1816 rfl ?_
  refine aw_icmp_eq_t hC dL_law_1818 (tgt := 1823) (by decide) ek ?_
  refine aw_iload hC dL_law_1823 rfl ?_
  have kE : AW p l e R s m args below meth c D loc cy A 9 Qof RF (kn.1 + 1, kn.2 + 6) 1840 [(0, .ref b), (1, .ref (loc (6, 0, 0))), (2, .ref (loc (7, 0, 0))), (3, .ref (loc (8, 0, 1))), (4, .int i)] [] hM X := by
    refine aw_goto hC dL_law_1840 (tgt := 2459) (by decide) ?_
    exact aw_widen (Nat.add_le_add_left (by decide) _) (Nat.add_le_add_left (by decide) _) (kk hM hR2)
  by_cases hk : k = 0
  · refine aw_if_ne_f hC dL_law_1825 (tgt := 1840) (by decide) (fun z => z hk) ?_
    refine aw_aload_n hC dL_law_1828 rfl ?_
    refine aw_iconst hC dL_law_1829 (v := 0) (by decide) ?_
    refine aw_lald (r := (8, 0, 1)) (n := 1) (k := 0) hC dL_law_1830 (by decide +kernel) rfl rfl rfl rfl ?_
    refine aw_iload hC dL_law_1831 rfl ?_
    refine aw_i2l hC dL_law_1833 ?_
    refine aw_lcmp hC dL_law_1834 ?_
    refine aw_if_eq_t hC dL_law_1835 (tgt := 1840) (by decide) (lcmp_eq (ej hk)) ?_
    exact aw_sub [0, 1, 2, 3, 4] kE
  · refine aw_if_ne_t hC dL_law_1825 (tgt := 1840) (by decide) hk ?_
    exact aw_sub [0, 1, 2, 3, 4] kE
theorem W_38 (hC : Cx p l e R s m args meth c D loc cy A cL_law 9 ret RL 2048 84000 cb sb) (hX : SX A s b n xs) (hI : IB i n) (hkn : kn.1 + 3 ≤ cb ∧ kn.2 + 18 ≤ sb) (hR : Rel h) (kk : ∀ h2, Rel h2 → AW p l e R s m args below meth c D loc cy A 9 Qof RF (kn.1 + 3, kn.2 + 18) 2459 (LL b loc i) [] h2 X) : AW p l e R s m args below meth c D loc cy A 9 Qof RF kn 1843 (LL b loc i) [] h X := by
  have hl0 := hC.2.2.2.2.2.2.2.2.2.2.2.2.1
  obtain ⟨i1, i2, i3, i4, i5⟩ := hI
  unfold LL
  have hk0 : Nat.ble kn.1 cb = true ∧ Nat.ble kn.2 sb = true := ⟨ble_le (Nat.le_trans (Nat.le_add_right _ _) hkn.1), ble_le (Nat.le_trans (Nat.le_add_right _ _) hkn.2)⟩
  obtain ⟨v, h1, h2, e8, e9, hR2⟩ := p_bestBack hR 
  refine aw_aload_n hC dL_law_1843 rfl ?_
  refine aw_cVi (v := v) (h2 := h1) hC dL_law_1844 cv_RL_258 rfl rm_6_0_0 (by have q := A_X8_bestBack l hl0 D loc cy  h; rw [e8] at q; exact q) rfl rfl rfl rfl rfl hk0 ?_
  refine aw_aload_n hC dL_law_1847 rfl ?_
  refine aw_cVi (v := v) (h2 := h2) hC dL_law_1848 cv_RL_261 rfl rm_7_0_0 (by have q := A_X9_bestBack l hl0 D loc cy  h1; rw [e9] at q; exact q) rfl rfl rfl rfl rfl hk0 ?_
  refine aw_icmp_eq_t hC dL_law_1851 (tgt := 2459) (by decide) rfl ?_
  exact aw_widen (Nat.le_add_right _ _) (Nat.le_add_right _ _) (kk h2 hR2)
theorem W_39 (hC : Cx p l e R s m args meth c D loc cy A cL_law 9 ret RL 2048 84000 cb sb) (hX : SX A s b n xs) (hI : IB i n) (hkn : kn.1 + 3 ≤ cb ∧ kn.2 + 18 ≤ sb) (hR : Rel h) (kk : ∀ h2, Rel h2 → AW p l e R s m args below meth c D loc cy A 9 Qof RF (kn.1 + 3, kn.2 + 18) 2459 (LL b loc i) [] h2 X) : AW p l e R s m args below meth c D loc cy A 9 Qof RF kn 1856 (LL b loc i) [] h X := by
  have hl0 := hC.2.2.2.2.2.2.2.2.2.2.2.2.1
  obtain ⟨i1, i2, i3, i4, i5⟩ := hI
  unfold LL
  have hk0 : Nat.ble kn.1 cb = true ∧ Nat.ble kn.2 sb = true := ⟨ble_le (Nat.le_trans (Nat.le_add_right _ _) hkn.1), ble_le (Nat.le_trans (Nat.le_add_right _ _) hkn.2)⟩
  obtain ⟨r, h1, k, hL, v, hM, e8, hq, e9, hR2, ek, ej⟩ := PPL (by decide) (fun w h => o_X9_prefer w (xs (i + 1).toNatClampNeg) (xs (i + 2).toNatClampNeg) h) (p_prefer hR (xs (i + 1).toNatClampNeg) (xs (i + 2).toNatClampNeg))
  refine aw_aload_n hC dL_law_1856 rfl ?_
  refine aw_aload_n hC dL_law_1857 rfl ?_
  refine aw_iload hC dL_law_1858 rfl ?_
  refine aw_iconst hC dL_law_1860 (v := 1) (by decide) ?_
  refine aw_iadd hC dL_law_1861 ?_
  refine aw_sld hC hX dL_law_1862 i1 ?_
  refine aw_aload_n hC dL_law_1863 rfl ?_
  refine aw_iload hC dL_law_1864 rfl ?_
  refine aw_iconst hC dL_law_1866 (v := 2) (by decide) ?_
  refine aw_iadd hC dL_law_1867 ?_
  refine aw_sld hC hX dL_law_1868 i2 ?_
  refine aw_aload_n hC dL_law_1869 rfl ?_
  refine aw_callL (k := k) (h2 := hL) (mc2 := 2) (ms2 := 12) (As := [.ref (loc (6, 0, 0)), .int (xs (i + 1).toNatClampNeg), .int (xs (i + 2).toNatClampNeg), .ref (loc (8, 0, 1))]) hC dL_law_1870 cl_RL_262 (A_L_prefer l hl0 D loc cy (xs (i + 1).toNatClampNeg) (xs (i + 2).toNatClampNeg) h (by have q := A_X8_prefer l hl0 D loc cy (xs (i + 1).toNatClampNeg) (xs (i + 2).toNatClampNeg) h; rw [e8] at q; exact q) hq) rfl rfl rfl rfl rfl ⟨Nat.le_trans (Nat.add_le_add_left (by decide) _) hkn.1, Nat.le_trans (Nat.add_le_add_left (by decide) _) hkn.2⟩ ?_
  have hk1 : Nat.ble (kn.1 + 2, kn.2 + 12).1 cb = true ∧ Nat.ble (kn.1 + 2, kn.2 + 12).2 sb = true := ⟨ble_le (Nat.le_trans (Nat.add_le_add_left (by decide) _) hkn.1), ble_le (Nat.le_trans (Nat.add_le_add_left (by decide) _) hkn.2)⟩
  refine aw_istore hC dL_law_1873 (by decide) ?_
  refine aw_aload_n hC dL_law_1875 rfl ?_
  refine aw_aload_n hC dL_law_1876 rfl ?_
  refine aw_iload hC dL_law_1877 rfl ?_
  refine aw_iconst hC dL_law_1879 (v := 1) (by decide) ?_
  refine aw_iadd hC dL_law_1880 ?_
  refine aw_sld hC hX dL_law_1881 i1 ?_
  refine aw_aload_n hC dL_law_1882 rfl ?_
  refine aw_iload hC dL_law_1883 rfl ?_
  refine aw_iconst hC dL_law_1885 (v := 2) (by decide) ?_
  refine aw_iadd hC dL_law_1886 ?_
  refine aw_sld hC hX dL_law_1887 i2 ?_
  refine aw_cVi (v := v) (h2 := hM) hC dL_law_1888 cv_RL_264 rfl rm_7_0_0 (by have q := A_X9_prefer l hl0 D loc cy (xs (i + 1).toNatClampNeg) (xs (i + 2).toNatClampNeg) hL; rw [e9] at q; exact q) rfl rfl rfl rfl rfl hk1 ?_
  refine aw_istore hC dL_law_1891 (by decide) ?_
  refine aw_aload_n hC dL_law_1893 rfl ?_
  refine aw_cVi (v := jX9_thrown hM) (h2 := hM) hC dL_law_1894 cv_RL_118 rfl rm_7_0_0 (A_X9_thrown l hl0 D loc cy hM) rfl rfl rfl rfl rfl hk1 ?_
  refine aw_iload hC dL_law_1897 rfl ?_
  refine aw_icmp_eq_t hC dL_law_1899 (tgt := 1904) (by decide) ek ?_
  refine aw_iload hC dL_law_1904 rfl ?_
  have kE : AW p l e R s m args below meth c D loc cy A 9 Qof RF (kn.1 + 2, kn.2 + 12) 1921 [(0, .ref b), (1, .ref (loc (6, 0, 0))), (2, .ref (loc (7, 0, 0))), (3, .ref (loc (8, 0, 1))), (4, .int i)] [] hM X := by
    refine aw_goto hC dL_law_1921 (tgt := 2459) (by decide) ?_
    exact aw_widen (Nat.add_le_add_left (by decide) _) (Nat.add_le_add_left (by decide) _) (kk hM hR2)
  by_cases hk : k = 0
  · refine aw_if_ne_f hC dL_law_1906 (tgt := 1921) (by decide) (fun z => z hk) ?_
    refine aw_aload_n hC dL_law_1909 rfl ?_
    refine aw_iconst hC dL_law_1910 (v := 0) (by decide) ?_
    refine aw_lald (r := (8, 0, 1)) (n := 1) (k := 0) hC dL_law_1911 (by decide +kernel) rfl rfl rfl rfl ?_
    refine aw_iload hC dL_law_1912 rfl ?_
    refine aw_i2l hC dL_law_1914 ?_
    refine aw_lcmp hC dL_law_1915 ?_
    refine aw_if_eq_t hC dL_law_1916 (tgt := 1921) (by decide) (lcmp_eq (ej hk)) ?_
    exact aw_sub [0, 1, 2, 3, 4] kE
  · refine aw_if_ne_t hC dL_law_1906 (tgt := 1921) (by decide) hk ?_
    exact aw_sub [0, 1, 2, 3, 4] kE
theorem W_40 (hC : Cx p l e R s m args meth c D loc cy A cL_law 9 ret RL 2048 84000 cb sb) (hX : SX A s b n xs) (hI : IB i n) (hkn : kn.1 + 3 ≤ cb ∧ kn.2 + 18 ≤ sb) (hR : Rel h) (kk : ∀ h2, Rel h2 → AW p l e R s m args below meth c D loc cy A 9 Qof RF (kn.1 + 3, kn.2 + 18) 2459 (LL b loc i) [] h2 X) : AW p l e R s m args below meth c D loc cy A 9 Qof RF kn 1924 (LL b loc i) [] h X := by
  have hl0 := hC.2.2.2.2.2.2.2.2.2.2.2.2.1
  obtain ⟨i1, i2, i3, i4, i5⟩ := hI
  unfold LL
  have hk0 : Nat.ble kn.1 cb = true ∧ Nat.ble kn.2 sb = true := ⟨ble_le (Nat.le_trans (Nat.le_add_right _ _) hkn.1), ble_le (Nat.le_trans (Nat.le_add_right _ _) hkn.2)⟩
  obtain ⟨r, h1, k, hL, v, hM, e8, hq, e9, hR2, ek, ej⟩ := PBL (by decide) (fun w h => o_X9_swap w (xs (i + 1).toNatClampNeg) h) (p_swap hR (xs (i + 1).toNatClampNeg))
  refine aw_aload_n hC dL_law_1924 rfl ?_
  refine aw_aload_n hC dL_law_1925 rfl ?_
  refine aw_iload hC dL_law_1926 rfl ?_
  refine aw_iconst hC dL_law_1928 (v := 1) (by decide) ?_
  refine aw_iadd hC dL_law_1929 ?_
  refine aw_sld hC hX dL_law_1930 i1 ?_
  refine aw_aload_n hC dL_law_1931 rfl ?_
  refine aw_callL (k := k) (h2 := hL) (mc2 := 1) (ms2 := 6) (As := [.ref (loc (6, 0, 0)), .int (xs (i + 1).toNatClampNeg), .ref (loc (8, 0, 1))]) hC dL_law_1932 cl_RL_265 (A_L_swap l hl0 D loc cy (xs (i + 1).toNatClampNeg) h (by have q := A_X8_swap l hl0 D loc cy (xs (i + 1).toNatClampNeg) h; rw [e8] at q; exact q) hq) rfl rfl rfl rfl rfl ⟨Nat.le_trans (Nat.add_le_add_left (by decide) _) hkn.1, Nat.le_trans (Nat.add_le_add_left (by decide) _) hkn.2⟩ ?_
  have hk1 : Nat.ble (kn.1 + 1, kn.2 + 6).1 cb = true ∧ Nat.ble (kn.1 + 1, kn.2 + 6).2 sb = true := ⟨ble_le (Nat.le_trans (Nat.add_le_add_left (by decide) _) hkn.1), ble_le (Nat.le_trans (Nat.add_le_add_left (by decide) _) hkn.2)⟩
  refine aw_istore hC dL_law_1935 (by decide) ?_
  refine aw_aload_n hC dL_law_1937 rfl ?_
  refine aw_aload_n hC dL_law_1938 rfl ?_
  refine aw_iload hC dL_law_1939 rfl ?_
  refine aw_iconst hC dL_law_1941 (v := 1) (by decide) ?_
  refine aw_iadd hC dL_law_1942 ?_
  refine aw_sld hC hX dL_law_1943 i1 ?_
  refine aw_cVb (v := v) (h2 := hM) hC dL_law_1944 cv_RL_267 rfl rm_7_0_0 (by have q := A_X9_swap l hl0 D loc cy (xs (i + 1).toNatClampNeg) hL; rw [e9] at q; exact q) rfl rfl rfl rfl rfl hk1 ?_
  refine aw_istore hC dL_law_1947 (by decide) ?_
  refine aw_aload_n hC dL_law_1949 rfl ?_
  refine aw_cVi (v := jX9_thrown hM) (h2 := hM) hC dL_law_1950 cv_RL_118 rfl rm_7_0_0 (A_X9_thrown l hl0 D loc cy hM) rfl rfl rfl rfl rfl hk1 ?_
  refine aw_iload hC dL_law_1953 rfl ?_
  refine aw_icmp_eq_t hC dL_law_1955 (tgt := 1960) (by decide) ek ?_
  refine aw_iload hC dL_law_1960 rfl ?_
  have kE : AW p l e R s m args below meth c D loc cy A 9 Qof RF (kn.1 + 1, kn.2 + 6) 1984 [(0, .ref b), (1, .ref (loc (6, 0, 0))), (2, .ref (loc (7, 0, 0))), (3, .ref (loc (8, 0, 1))), (4, .int i)] [] hM X := by
    refine aw_goto hC dL_law_1984 (tgt := 2459) (by decide) ?_
    exact aw_widen (Nat.add_le_add_left (by decide) _) (Nat.add_le_add_left (by decide) _) (kk hM hR2)
  by_cases hk : k = 0
  · refine aw_if_ne_f hC dL_law_1962 (tgt := 1984) (by decide) (fun z => z hk) ?_
    refine aw_aload_n hC dL_law_1965 rfl ?_
    refine aw_iconst hC dL_law_1966 (v := 0) (by decide) ?_
    refine aw_lald (r := (8, 0, 1)) (n := 1) (k := 0) hC dL_law_1967 (by decide +kernel) rfl rfl rfl rfl ?_
    refine aw_iload hC dL_law_1968 rfl ?_
    cases v with
    | true =>
      refine aw_if_eq_f hC dL_law_1970 (tgt := 1977) (by decide) (by decide) ?_
      refine aw_lconst hC dL_law_1973 (v := 1) (by decide) ?_
      refine aw_goto hC dL_law_1974 (tgt := 1978) (by decide) ?_
      refine aw_lcmp hC dL_law_1978 ?_
      refine aw_if_eq_t hC dL_law_1979 (tgt := 1984) (by decide) (lcmp_eq (ej hk)) ?_
      exact aw_sub [0, 1, 2, 3, 4] kE
    | false =>
      refine aw_if_eq_t hC dL_law_1970 (tgt := 1977) (by decide) (by decide) ?_
      refine aw_lconst hC dL_law_1977 (v := 0) (by decide) ?_
      refine aw_lcmp hC dL_law_1978 ?_
      refine aw_if_eq_t hC dL_law_1979 (tgt := 1984) (by decide) (lcmp_eq (ej hk)) ?_
      exact aw_sub [0, 1, 2, 3, 4] kE
  · refine aw_if_ne_t hC dL_law_1962 (tgt := 1984) (by decide) hk ?_
    exact aw_sub [0, 1, 2, 3, 4] kE
theorem W_41 (hC : Cx p l e R s m args meth c D loc cy A cL_law 9 ret RL 2048 84000 cb sb) (hX : SX A s b n xs) (hI : IB i n) (hkn : kn.1 + 3 ≤ cb ∧ kn.2 + 18 ≤ sb) (hR : Rel h) (kk : ∀ h2, Rel h2 → AW p l e R s m args below meth c D loc cy A 9 Qof RF (kn.1 + 3, kn.2 + 18) 2459 (LL b loc i) [] h2 X) : AW p l e R s m args below meth c D loc cy A 9 Qof RF kn 1987 (LL b loc i) [] h X := by
  have hl0 := hC.2.2.2.2.2.2.2.2.2.2.2.2.1
  obtain ⟨i1, i2, i3, i4, i5⟩ := hI
  unfold LL
  have hk0 : Nat.ble kn.1 cb = true ∧ Nat.ble kn.2 sb = true := ⟨ble_le (Nat.le_trans (Nat.le_add_right _ _) hkn.1), ble_le (Nat.le_trans (Nat.le_add_right _ _) hkn.2)⟩
  obtain ⟨r, h1, k, hL, v, hM, e8, hq, e9, hR2, ek, ej⟩ := PPL (by decide) (fun w h => o_X9_turn w (xs (i + 1).toNatClampNeg) h) (p_turn hR (xs (i + 1).toNatClampNeg))
  refine aw_aload_n hC dL_law_1987 rfl ?_
  refine aw_aload_n hC dL_law_1988 rfl ?_
  refine aw_iload hC dL_law_1989 rfl ?_
  refine aw_iconst hC dL_law_1991 (v := 1) (by decide) ?_
  refine aw_iadd hC dL_law_1992 ?_
  refine aw_sld hC hX dL_law_1993 i1 ?_
  refine aw_aload_n hC dL_law_1994 rfl ?_
  refine aw_callL (k := k) (h2 := hL) (mc2 := 1) (ms2 := 6) (As := [.ref (loc (6, 0, 0)), .int (xs (i + 1).toNatClampNeg), .ref (loc (8, 0, 1))]) hC dL_law_1995 cl_RL_268 (A_L_turn l hl0 D loc cy (xs (i + 1).toNatClampNeg) h (by have q := A_X8_turn l hl0 D loc cy (xs (i + 1).toNatClampNeg) h; rw [e8] at q; exact q) hq) rfl rfl rfl rfl rfl ⟨Nat.le_trans (Nat.add_le_add_left (by decide) _) hkn.1, Nat.le_trans (Nat.add_le_add_left (by decide) _) hkn.2⟩ ?_
  have hk1 : Nat.ble (kn.1 + 1, kn.2 + 6).1 cb = true ∧ Nat.ble (kn.1 + 1, kn.2 + 6).2 sb = true := ⟨ble_le (Nat.le_trans (Nat.add_le_add_left (by decide) _) hkn.1), ble_le (Nat.le_trans (Nat.add_le_add_left (by decide) _) hkn.2)⟩
  refine aw_istore hC dL_law_1998 (by decide) ?_
  refine aw_aload_n hC dL_law_2000 rfl ?_
  refine aw_aload_n hC dL_law_2001 rfl ?_
  refine aw_iload hC dL_law_2002 rfl ?_
  refine aw_iconst hC dL_law_2004 (v := 1) (by decide) ?_
  refine aw_iadd hC dL_law_2005 ?_
  refine aw_sld hC hX dL_law_2006 i1 ?_
  refine aw_cVi (v := v) (h2 := hM) hC dL_law_2007 cv_RL_270 rfl rm_7_0_0 (by have q := A_X9_turn l hl0 D loc cy (xs (i + 1).toNatClampNeg) hL; rw [e9] at q; exact q) rfl rfl rfl rfl rfl hk1 ?_
  refine aw_istore hC dL_law_2010 (by decide) ?_
  refine aw_aload_n hC dL_law_2012 rfl ?_
  refine aw_cVi (v := jX9_thrown hM) (h2 := hM) hC dL_law_2013 cv_RL_118 rfl rm_7_0_0 (A_X9_thrown l hl0 D loc cy hM) rfl rfl rfl rfl rfl hk1 ?_
  refine aw_iload hC dL_law_2016 rfl ?_
  refine aw_icmp_eq_t hC dL_law_2018 (tgt := 2023) (by decide) ek ?_
  refine aw_iload hC dL_law_2023 rfl ?_
  have kE : AW p l e R s m args below meth c D loc cy A 9 Qof RF (kn.1 + 1, kn.2 + 6) 2040 [(0, .ref b), (1, .ref (loc (6, 0, 0))), (2, .ref (loc (7, 0, 0))), (3, .ref (loc (8, 0, 1))), (4, .int i)] [] hM X := by
    refine aw_goto hC dL_law_2040 (tgt := 2459) (by decide) ?_
    exact aw_widen (Nat.add_le_add_left (by decide) _) (Nat.add_le_add_left (by decide) _) (kk hM hR2)
  by_cases hk : k = 0
  · refine aw_if_ne_f hC dL_law_2025 (tgt := 2040) (by decide) (fun z => z hk) ?_
    refine aw_aload_n hC dL_law_2028 rfl ?_
    refine aw_iconst hC dL_law_2029 (v := 0) (by decide) ?_
    refine aw_lald (r := (8, 0, 1)) (n := 1) (k := 0) hC dL_law_2030 (by decide +kernel) rfl rfl rfl rfl ?_
    refine aw_iload hC dL_law_2031 rfl ?_
    refine aw_i2l hC dL_law_2033 ?_
    refine aw_lcmp hC dL_law_2034 ?_
    refine aw_if_eq_t hC dL_law_2035 (tgt := 2040) (by decide) (lcmp_eq (ej hk)) ?_
    exact aw_sub [0, 1, 2, 3, 4] kE
  · refine aw_if_ne_t hC dL_law_2025 (tgt := 2040) (by decide) hk ?_
    exact aw_sub [0, 1, 2, 3, 4] kE
end LWC
