section LWC
variable {p : Program} {l : Launch} {e : Env} {R : Room} {s : State} {m : MethodId} {args : Array Value} {below : List Frame} {meth : Method} {c : Code} {D : va_G} {loc : Rf → Nat} {cy : Nat → ClassId} {A : Nat → Prop} {ret : Option FieldType} {cb sb : Nat} {Qof : RR → State → Prop} {α : Type} {RF : α → Option RR} {kn : Nat × Nat} {h : HD} {X : α} {b n : Nat} {xs : Nat → Int32} {i : Int32}
theorem W_0 (hC : Cx p l e R s m args meth c D loc cy A cL_law 9 ret RL 2048 84000 cb sb) (hX : SX A s b n xs) (hI : IB i n) (hkn : kn.1 + 3 ≤ cb ∧ kn.2 + 18 ≤ sb) (hR : Rel h) (kk : ∀ h2, Rel h2 → AW p l e R s m args below meth c D loc cy A 9 Qof RF (kn.1 + 3, kn.2 + 18) 2459 (LL b loc i) [] h2 X) : AW p l e R s m args below meth c D loc cy A 9 Qof RF kn 272 (LL b loc i) [] h X := by
  have hl0 := hC.2.2.2.2.2.2.2.2.2.2.2.2.1
  obtain ⟨i1, i2, i3, i4, i5⟩ := hI
  unfold LL
  have hk0 : Nat.ble kn.1 cb = true ∧ Nat.ble kn.2 sb = true := ⟨ble_le (Nat.le_trans (Nat.le_add_right _ _) hkn.1), ble_le (Nat.le_trans (Nat.le_add_right _ _) hkn.2)⟩
  obtain ⟨r, h1, k, hL, v, hM, e8, hq, e9, hR2, ek, ej⟩ := PPL (by decide) (fun w h => o_X9_feed w (xs (i + 1).toNatClampNeg) (xs (i + 2).toNatClampNeg) (xs (i + 3).toNatClampNeg) (xs (i + 4).toNatClampNeg) (xs (i + 5).toNatClampNeg) h) (p_feed hR (xs (i + 1).toNatClampNeg) (xs (i + 2).toNatClampNeg) (xs (i + 3).toNatClampNeg) (xs (i + 4).toNatClampNeg) (xs (i + 5).toNatClampNeg))
  refine aw_aload_n hC dL_law_272 rfl ?_
  refine aw_aload_n hC dL_law_273 rfl ?_
  refine aw_iload hC dL_law_274 rfl ?_
  refine aw_iconst hC dL_law_276 (v := 1) (by decide) ?_
  refine aw_iadd hC dL_law_277 ?_
  refine aw_sld hC hX dL_law_278 i1 ?_
  refine aw_aload_n hC dL_law_279 rfl ?_
  refine aw_iload hC dL_law_280 rfl ?_
  refine aw_iconst hC dL_law_282 (v := 2) (by decide) ?_
  refine aw_iadd hC dL_law_283 ?_
  refine aw_sld hC hX dL_law_284 i2 ?_
  refine aw_aload_n hC dL_law_285 rfl ?_
  refine aw_iload hC dL_law_286 rfl ?_
  refine aw_iconst hC dL_law_288 (v := 3) (by decide) ?_
  refine aw_iadd hC dL_law_289 ?_
  refine aw_sld hC hX dL_law_290 i3 ?_
  refine aw_aload_n hC dL_law_291 rfl ?_
  refine aw_iload hC dL_law_292 rfl ?_
  refine aw_iconst hC dL_law_294 (v := 4) (by decide) ?_
  refine aw_iadd hC dL_law_295 ?_
  refine aw_sld hC hX dL_law_296 i4 ?_
  refine aw_aload_n hC dL_law_297 rfl ?_
  refine aw_iload hC dL_law_298 rfl ?_
  refine aw_iconst hC dL_law_300 (v := 5) (by decide) ?_
  refine aw_iadd hC dL_law_301 ?_
  refine aw_sld hC hX dL_law_302 i5 ?_
  refine aw_aload_n hC dL_law_303 rfl ?_
  refine aw_callL (k := k) (h2 := hL) (mc2 := 1) (ms2 := 6) (As := [.ref (loc (6, 0, 0)), .int (xs (i + 1).toNatClampNeg), .int (xs (i + 2).toNatClampNeg), .int (xs (i + 3).toNatClampNeg), .int (xs (i + 4).toNatClampNeg), .int (xs (i + 5).toNatClampNeg), .ref (loc (8, 0, 1))]) hC dL_law_304 cl_RL_112 (A_L_feed l hl0 D loc cy (xs (i + 1).toNatClampNeg) (xs (i + 2).toNatClampNeg) (xs (i + 3).toNatClampNeg) (xs (i + 4).toNatClampNeg) (xs (i + 5).toNatClampNeg) h (by have q := A_X8_feed l hl0 D loc cy (xs (i + 1).toNatClampNeg) (xs (i + 2).toNatClampNeg) (xs (i + 3).toNatClampNeg) (xs (i + 4).toNatClampNeg) (xs (i + 5).toNatClampNeg) h; rw [e8] at q; exact q) hq) rfl rfl rfl rfl rfl ⟨Nat.le_trans (Nat.add_le_add_left (by decide) _) hkn.1, Nat.le_trans (Nat.add_le_add_left (by decide) _) hkn.2⟩ ?_
  have hk1 : Nat.ble (kn.1 + 1, kn.2 + 6).1 cb = true ∧ Nat.ble (kn.1 + 1, kn.2 + 6).2 sb = true := ⟨ble_le (Nat.le_trans (Nat.add_le_add_left (by decide) _) hkn.1), ble_le (Nat.le_trans (Nat.add_le_add_left (by decide) _) hkn.2)⟩
  refine aw_istore hC dL_law_307 (by decide) ?_
  refine aw_aload_n hC dL_law_309 rfl ?_
  refine aw_aload_n hC dL_law_310 rfl ?_
  refine aw_iload hC dL_law_311 rfl ?_
  refine aw_iconst hC dL_law_313 (v := 1) (by decide) ?_
  refine aw_iadd hC dL_law_314 ?_
  refine aw_sld hC hX dL_law_315 i1 ?_
  refine aw_aload_n hC dL_law_316 rfl ?_
  refine aw_iload hC dL_law_317 rfl ?_
  refine aw_iconst hC dL_law_319 (v := 2) (by decide) ?_
  refine aw_iadd hC dL_law_320 ?_
  refine aw_sld hC hX dL_law_321 i2 ?_
  refine aw_aload_n hC dL_law_322 rfl ?_
  refine aw_iload hC dL_law_323 rfl ?_
  refine aw_iconst hC dL_law_325 (v := 3) (by decide) ?_
  refine aw_iadd hC dL_law_326 ?_
  refine aw_sld hC hX dL_law_327 i3 ?_
  refine aw_aload_n hC dL_law_328 rfl ?_
  refine aw_iload hC dL_law_329 rfl ?_
  refine aw_iconst hC dL_law_331 (v := 4) (by decide) ?_
  refine aw_iadd hC dL_law_332 ?_
  refine aw_sld hC hX dL_law_333 i4 ?_
  refine aw_aload_n hC dL_law_334 rfl ?_
  refine aw_iload hC dL_law_335 rfl ?_
  refine aw_iconst hC dL_law_337 (v := 5) (by decide) ?_
  refine aw_iadd hC dL_law_338 ?_
  refine aw_sld hC hX dL_law_339 i5 ?_
  refine aw_cVi (v := v) (h2 := hM) hC dL_law_340 cv_RL_117 rfl rm_7_0_0 (by have q := A_X9_feed l hl0 D loc cy (xs (i + 1).toNatClampNeg) (xs (i + 2).toNatClampNeg) (xs (i + 3).toNatClampNeg) (xs (i + 4).toNatClampNeg) (xs (i + 5).toNatClampNeg) hL; rw [e9] at q; exact q) rfl rfl rfl rfl rfl hk1 ?_
  refine aw_istore hC dL_law_343 (by decide) ?_
  refine aw_aload_n hC dL_law_345 rfl ?_
  refine aw_cVi (v := jX9_thrown hM) (h2 := hM) hC dL_law_346 cv_RL_118 rfl rm_7_0_0 (A_X9_thrown l hl0 D loc cy hM) rfl rfl rfl rfl rfl hk1 ?_
  refine aw_iload hC dL_law_349 rfl ?_
  refine aw_icmp_eq_t hC dL_law_351 (tgt := 356) (by decide) ek ?_
  refine aw_iload hC dL_law_356 rfl ?_
  have kE : AW p l e R s m args below meth c D loc cy A 9 Qof RF (kn.1 + 1, kn.2 + 6) 373 [(0, .ref b), (1, .ref (loc (6, 0, 0))), (2, .ref (loc (7, 0, 0))), (3, .ref (loc (8, 0, 1))), (4, .int i)] [] hM X := by
    refine aw_goto hC dL_law_373 (tgt := 2459) (by decide) ?_
    exact aw_widen (Nat.add_le_add_left (by decide) _) (Nat.add_le_add_left (by decide) _) (kk hM hR2)
  by_cases hk : k = 0
  · refine aw_if_ne_f hC dL_law_358 (tgt := 373) (by decide) (fun z => z hk) ?_
    refine aw_aload_n hC dL_law_361 rfl ?_
    refine aw_iconst hC dL_law_362 (v := 0) (by decide) ?_
    refine aw_lald (r := (8, 0, 1)) (n := 1) (k := 0) hC dL_law_363 (by decide +kernel) rfl rfl rfl rfl ?_
    refine aw_iload hC dL_law_364 rfl ?_
    refine aw_i2l hC dL_law_366 ?_
    refine aw_lcmp hC dL_law_367 ?_
    refine aw_if_eq_t hC dL_law_368 (tgt := 373) (by decide) (lcmp_eq (ej hk)) ?_
    exact aw_sub [0, 1, 2, 3, 4] kE
  · refine aw_if_ne_t hC dL_law_358 (tgt := 373) (by decide) hk ?_
    exact aw_sub [0, 1, 2, 3, 4] kE
theorem W_1 (hC : Cx p l e R s m args meth c D loc cy A cL_law 9 ret RL 2048 84000 cb sb) (hX : SX A s b n xs) (hI : IB i n) (hkn : kn.1 + 3 ≤ cb ∧ kn.2 + 18 ≤ sb) (hR : Rel h) (kk : ∀ h2, Rel h2 → AW p l e R s m args below meth c D loc cy A 9 Qof RF (kn.1 + 3, kn.2 + 18) 2459 (LL b loc i) [] h2 X) : AW p l e R s m args below meth c D loc cy A 9 Qof RF kn 376 (LL b loc i) [] h X := by
  have hl0 := hC.2.2.2.2.2.2.2.2.2.2.2.2.1
  obtain ⟨i1, i2, i3, i4, i5⟩ := hI
  unfold LL
  have hk0 : Nat.ble kn.1 cb = true ∧ Nat.ble kn.2 sb = true := ⟨ble_le (Nat.le_trans (Nat.le_add_right _ _) hkn.1), ble_le (Nat.le_trans (Nat.le_add_right _ _) hkn.2)⟩
  obtain ⟨r, h1, k, hL, v, hM, e8, hq, e9, hR2, ek, ej⟩ := PPL (by decide) (fun w h => o_X9_truncate w (xs (i + 1).toNatClampNeg) h) (p_truncate hR (xs (i + 1).toNatClampNeg))
  refine aw_aload_n hC dL_law_376 rfl ?_
  refine aw_aload_n hC dL_law_377 rfl ?_
  refine aw_iload hC dL_law_378 rfl ?_
  refine aw_iconst hC dL_law_380 (v := 1) (by decide) ?_
  refine aw_iadd hC dL_law_381 ?_
  refine aw_sld hC hX dL_law_382 i1 ?_
  refine aw_aload_n hC dL_law_383 rfl ?_
  refine aw_callL (k := k) (h2 := hL) (mc2 := 1) (ms2 := 6) (As := [.ref (loc (6, 0, 0)), .int (xs (i + 1).toNatClampNeg), .ref (loc (8, 0, 1))]) hC dL_law_384 cl_RL_121 (A_L_truncate l hl0 D loc cy (xs (i + 1).toNatClampNeg) h (by have q := A_X8_truncate l hl0 D loc cy (xs (i + 1).toNatClampNeg) h; rw [e8] at q; exact q) hq) rfl rfl rfl rfl rfl ⟨Nat.le_trans (Nat.add_le_add_left (by decide) _) hkn.1, Nat.le_trans (Nat.add_le_add_left (by decide) _) hkn.2⟩ ?_
  have hk1 : Nat.ble (kn.1 + 1, kn.2 + 6).1 cb = true ∧ Nat.ble (kn.1 + 1, kn.2 + 6).2 sb = true := ⟨ble_le (Nat.le_trans (Nat.add_le_add_left (by decide) _) hkn.1), ble_le (Nat.le_trans (Nat.add_le_add_left (by decide) _) hkn.2)⟩
  refine aw_istore hC dL_law_387 (by decide) ?_
  refine aw_aload_n hC dL_law_389 rfl ?_
  refine aw_aload_n hC dL_law_390 rfl ?_
  refine aw_iload hC dL_law_391 rfl ?_
  refine aw_iconst hC dL_law_393 (v := 1) (by decide) ?_
  refine aw_iadd hC dL_law_394 ?_
  refine aw_sld hC hX dL_law_395 i1 ?_
  refine aw_cVi (v := v) (h2 := hM) hC dL_law_396 cv_RL_124 rfl rm_7_0_0 (by have q := A_X9_truncate l hl0 D loc cy (xs (i + 1).toNatClampNeg) hL; rw [e9] at q; exact q) rfl rfl rfl rfl rfl hk1 ?_
  refine aw_istore hC dL_law_399 (by decide) ?_
  refine aw_aload_n hC dL_law_401 rfl ?_
  refine aw_cVi (v := jX9_thrown hM) (h2 := hM) hC dL_law_402 cv_RL_118 rfl rm_7_0_0 (A_X9_thrown l hl0 D loc cy hM) rfl rfl rfl rfl rfl hk1 ?_
  refine aw_iload hC dL_law_405 rfl ?_
  refine aw_icmp_eq_t hC dL_law_407 (tgt := 412) (by decide) ek ?_
  refine aw_iload hC dL_law_412 rfl ?_
  have kE : AW p l e R s m args below meth c D loc cy A 9 Qof RF (kn.1 + 1, kn.2 + 6) 429 [(0, .ref b), (1, .ref (loc (6, 0, 0))), (2, .ref (loc (7, 0, 0))), (3, .ref (loc (8, 0, 1))), (4, .int i)] [] hM X := by
    refine aw_goto hC dL_law_429 (tgt := 2459) (by decide) ?_
    exact aw_widen (Nat.add_le_add_left (by decide) _) (Nat.add_le_add_left (by decide) _) (kk hM hR2)
  by_cases hk : k = 0
  · refine aw_if_ne_f hC dL_law_414 (tgt := 429) (by decide) (fun z => z hk) ?_
    refine aw_aload_n hC dL_law_417 rfl ?_
    refine aw_iconst hC dL_law_418 (v := 0) (by decide) ?_
    refine aw_lald (r := (8, 0, 1)) (n := 1) (k := 0) hC dL_law_419 (by decide +kernel) rfl rfl rfl rfl ?_
    refine aw_iload hC dL_law_420 rfl ?_
    refine aw_i2l hC dL_law_422 ?_
    refine aw_lcmp hC dL_law_423 ?_
    refine aw_if_eq_t hC dL_law_424 (tgt := 429) (by decide) (lcmp_eq (ej hk)) ?_
    exact aw_sub [0, 1, 2, 3, 4] kE
  · refine aw_if_ne_t hC dL_law_414 (tgt := 429) (by decide) hk ?_
    exact aw_sub [0, 1, 2, 3, 4] kE
theorem W_2 (hC : Cx p l e R s m args meth c D loc cy A cL_law 9 ret RL 2048 84000 cb sb) (hX : SX A s b n xs) (hI : IB i n) (hkn : kn.1 + 3 ≤ cb ∧ kn.2 + 18 ≤ sb) (hR : Rel h) (kk : ∀ h2, Rel h2 → AW p l e R s m args below meth c D loc cy A 9 Qof RF (kn.1 + 3, kn.2 + 18) 2459 (LL b loc i) [] h2 X) : AW p l e R s m args below meth c D loc cy A 9 Qof RF kn 432 (LL b loc i) [] h X := by
  have hl0 := hC.2.2.2.2.2.2.2.2.2.2.2.2.1
  obtain ⟨i1, i2, i3, i4, i5⟩ := hI
  unfold LL
  have hk0 : Nat.ble kn.1 cb = true ∧ Nat.ble kn.2 sb = true := ⟨ble_le (Nat.le_trans (Nat.le_add_right _ _) hkn.1), ble_le (Nat.le_trans (Nat.le_add_right _ _) hkn.2)⟩
  obtain ⟨r, h1, k, hL, v, hM, e8, hq, e9, hR2, ek, ej⟩ := PPL (by decide) (fun w h => o_X9_readText w  h) (p_readText hR )
  refine aw_aload_n hC dL_law_432 rfl ?_
  refine aw_aload_n hC dL_law_433 rfl ?_
  refine aw_callL (k := k) (h2 := hL) (mc2 := 1) (ms2 := 6) (As := [.ref (loc (6, 0, 0)), .ref (loc (8, 0, 1))]) hC dL_law_434 cl_RL_125 (A_L_readText l hl0 D loc cy  h (by have q := A_X8_readText l hl0 D loc cy  h; rw [e8] at q; exact q) hq) rfl rfl rfl rfl rfl ⟨Nat.le_trans (Nat.add_le_add_left (by decide) _) hkn.1, Nat.le_trans (Nat.add_le_add_left (by decide) _) hkn.2⟩ ?_
  have hk1 : Nat.ble (kn.1 + 1, kn.2 + 6).1 cb = true ∧ Nat.ble (kn.1 + 1, kn.2 + 6).2 sb = true := ⟨ble_le (Nat.le_trans (Nat.add_le_add_left (by decide) _) hkn.1), ble_le (Nat.le_trans (Nat.add_le_add_left (by decide) _) hkn.2)⟩
  refine aw_istore hC dL_law_437 (by decide) ?_
  refine aw_aload_n hC dL_law_439 rfl ?_
  refine aw_cVi (v := v) (h2 := hM) hC dL_law_440 cv_RL_128 rfl rm_7_0_0 (by have q := A_X9_readText l hl0 D loc cy  hL; rw [e9] at q; exact q) rfl rfl rfl rfl rfl hk1 ?_
  refine aw_istore hC dL_law_443 (by decide) ?_
  refine aw_aload_n hC dL_law_445 rfl ?_
  refine aw_cVi (v := jX9_thrown hM) (h2 := hM) hC dL_law_446 cv_RL_118 rfl rm_7_0_0 (A_X9_thrown l hl0 D loc cy hM) rfl rfl rfl rfl rfl hk1 ?_
  refine aw_iload hC dL_law_449 rfl ?_
  refine aw_icmp_eq_t hC dL_law_451 (tgt := 456) (by decide) ek ?_
  refine aw_iload hC dL_law_456 rfl ?_
  have kE : AW p l e R s m args below meth c D loc cy A 9 Qof RF (kn.1 + 1, kn.2 + 6) 473 [(0, .ref b), (1, .ref (loc (6, 0, 0))), (2, .ref (loc (7, 0, 0))), (3, .ref (loc (8, 0, 1))), (4, .int i)] [] hM X := by
    refine aw_goto hC dL_law_473 (tgt := 2459) (by decide) ?_
    exact aw_widen (Nat.add_le_add_left (by decide) _) (Nat.add_le_add_left (by decide) _) (kk hM hR2)
  by_cases hk : k = 0
  · refine aw_if_ne_f hC dL_law_458 (tgt := 473) (by decide) (fun z => z hk) ?_
    refine aw_aload_n hC dL_law_461 rfl ?_
    refine aw_iconst hC dL_law_462 (v := 0) (by decide) ?_
    refine aw_lald (r := (8, 0, 1)) (n := 1) (k := 0) hC dL_law_463 (by decide +kernel) rfl rfl rfl rfl ?_
    refine aw_iload hC dL_law_464 rfl ?_
    refine aw_i2l hC dL_law_466 ?_
    refine aw_lcmp hC dL_law_467 ?_
    refine aw_if_eq_t hC dL_law_468 (tgt := 473) (by decide) (lcmp_eq (ej hk)) ?_
    exact aw_sub [0, 1, 2, 3, 4] kE
  · refine aw_if_ne_t hC dL_law_458 (tgt := 473) (by decide) hk ?_
    exact aw_sub [0, 1, 2, 3, 4] kE
theorem W_3 (hC : Cx p l e R s m args meth c D loc cy A cL_law 9 ret RL 2048 84000 cb sb) (hX : SX A s b n xs) (hI : IB i n) (hkn : kn.1 + 3 ≤ cb ∧ kn.2 + 18 ≤ sb) (hR : Rel h) (kk : ∀ h2, Rel h2 → AW p l e R s m args below meth c D loc cy A 9 Qof RF (kn.1 + 3, kn.2 + 18) 2459 (LL b loc i) [] h2 X) : AW p l e R s m args below meth c D loc cy A 9 Qof RF kn 476 (LL b loc i) [] h X := by
  have hl0 := hC.2.2.2.2.2.2.2.2.2.2.2.2.1
  obtain ⟨i1, i2, i3, i4, i5⟩ := hI
  unfold LL
  have hk0 : Nat.ble kn.1 cb = true ∧ Nat.ble kn.2 sb = true := ⟨ble_le (Nat.le_trans (Nat.le_add_right _ _) hkn.1), ble_le (Nat.le_trans (Nat.le_add_right _ _) hkn.2)⟩
  obtain ⟨r, h1, k, hL, v, hM, e8, hq, e9, hR2, ek, ej⟩ := PPL (by decide) (fun w h => o_X9_runScript w  h) (p_runScript hR )
  refine aw_aload_n hC dL_law_476 rfl ?_
  refine aw_aload_n hC dL_law_477 rfl ?_
  refine aw_callL (k := k) (h2 := hL) (mc2 := 1) (ms2 := 6) (As := [.ref (loc (6, 0, 0)), .ref (loc (8, 0, 1))]) hC dL_law_478 cl_RL_129 (A_L_runScript l hl0 D loc cy  h (by have q := A_X8_runScript l hl0 D loc cy  h; rw [e8] at q; exact q) hq) rfl rfl rfl rfl rfl ⟨Nat.le_trans (Nat.add_le_add_left (by decide) _) hkn.1, Nat.le_trans (Nat.add_le_add_left (by decide) _) hkn.2⟩ ?_
  have hk1 : Nat.ble (kn.1 + 1, kn.2 + 6).1 cb = true ∧ Nat.ble (kn.1 + 1, kn.2 + 6).2 sb = true := ⟨ble_le (Nat.le_trans (Nat.add_le_add_left (by decide) _) hkn.1), ble_le (Nat.le_trans (Nat.add_le_add_left (by decide) _) hkn.2)⟩
  refine aw_istore hC dL_law_481 (by decide) ?_
  refine aw_aload_n hC dL_law_483 rfl ?_
  refine aw_cVi (v := v) (h2 := hM) hC dL_law_484 cv_RL_131 rfl rm_7_0_0 (by have q := A_X9_runScript l hl0 D loc cy  hL; rw [e9] at q; exact q) rfl rfl rfl rfl rfl hk1 ?_
  refine aw_istore hC dL_law_487 (by decide) ?_
  refine aw_aload_n hC dL_law_489 rfl ?_
  refine aw_cVi (v := jX9_thrown hM) (h2 := hM) hC dL_law_490 cv_RL_118 rfl rm_7_0_0 (A_X9_thrown l hl0 D loc cy hM) rfl rfl rfl rfl rfl hk1 ?_
  refine aw_iload hC dL_law_493 rfl ?_
  refine aw_icmp_eq_t hC dL_law_495 (tgt := 500) (by decide) ek ?_
  refine aw_iload hC dL_law_500 rfl ?_
  have kE : AW p l e R s m args below meth c D loc cy A 9 Qof RF (kn.1 + 1, kn.2 + 6) 517 [(0, .ref b), (1, .ref (loc (6, 0, 0))), (2, .ref (loc (7, 0, 0))), (3, .ref (loc (8, 0, 1))), (4, .int i)] [] hM X := by
    refine aw_goto hC dL_law_517 (tgt := 2459) (by decide) ?_
    exact aw_widen (Nat.add_le_add_left (by decide) _) (Nat.add_le_add_left (by decide) _) (kk hM hR2)
  by_cases hk : k = 0
  · refine aw_if_ne_f hC dL_law_502 (tgt := 517) (by decide) (fun z => z hk) ?_
    refine aw_aload_n hC dL_law_505 rfl ?_
    refine aw_iconst hC dL_law_506 (v := 0) (by decide) ?_
    refine aw_lald (r := (8, 0, 1)) (n := 1) (k := 0) hC dL_law_507 (by decide +kernel) rfl rfl rfl rfl ?_
    refine aw_iload hC dL_law_508 rfl ?_
    refine aw_i2l hC dL_law_510 ?_
    refine aw_lcmp hC dL_law_511 ?_
    refine aw_if_eq_t hC dL_law_512 (tgt := 517) (by decide) (lcmp_eq (ej hk)) ?_
    exact aw_sub [0, 1, 2, 3, 4] kE
  · refine aw_if_ne_t hC dL_law_502 (tgt := 517) (by decide) hk ?_
    exact aw_sub [0, 1, 2, 3, 4] kE
theorem W_4 (hC : Cx p l e R s m args meth c D loc cy A cL_law 9 ret RL 2048 84000 cb sb) (hX : SX A s b n xs) (hI : IB i n) (hkn : kn.1 + 3 ≤ cb ∧ kn.2 + 18 ≤ sb) (hR : Rel h) (kk : ∀ h2, Rel h2 → AW p l e R s m args below meth c D loc cy A 9 Qof RF (kn.1 + 3, kn.2 + 18) 2459 (LL b loc i) [] h2 X) : AW p l e R s m args below meth c D loc cy A 9 Qof RF kn 520 (LL b loc i) [] h X := by
  have hl0 := hC.2.2.2.2.2.2.2.2.2.2.2.2.1
  obtain ⟨i1, i2, i3, i4, i5⟩ := hI
  unfold LL
  have hk0 : Nat.ble kn.1 cb = true ∧ Nat.ble kn.2 sb = true := ⟨ble_le (Nat.le_trans (Nat.le_add_right _ _) hkn.1), ble_le (Nat.le_trans (Nat.le_add_right _ _) hkn.2)⟩
  obtain ⟨v, h1, h2, e8, e9, hR2⟩ := p_errorCode hR 
  refine aw_aload_n hC dL_law_520 rfl ?_
  refine aw_cVi (v := v) (h2 := h1) hC dL_law_521 cv_RL_132 rfl rm_6_0_0 (am_val (f := (fun r => .inr (some (.int r)))) (A_X8_errorCode l hl0 D loc cy  h) e8) rfl rfl rfl rfl rfl hk0 ?_
  refine aw_aload_n hC dL_law_524 rfl ?_
  refine aw_cVi (v := v) (h2 := h2) hC dL_law_525 cv_RL_135 rfl rm_7_0_0 (by have q := A_X9_errorCode l hl0 D loc cy  h1; rw [e9] at q; exact q) rfl rfl rfl rfl rfl hk0 ?_
  refine aw_icmp_eq_t hC dL_law_528 (tgt := 2459) (by decide) rfl ?_
  exact aw_widen (Nat.le_add_right _ _) (Nat.le_add_right _ _) (kk h2 hR2)
theorem W_5 (hC : Cx p l e R s m args meth c D loc cy A cL_law 9 ret RL 2048 84000 cb sb) (hX : SX A s b n xs) (hI : IB i n) (hkn : kn.1 + 3 ≤ cb ∧ kn.2 + 18 ≤ sb) (hR : Rel h) (kk : ∀ h2, Rel h2 → AW p l e R s m args below meth c D loc cy A 9 Qof RF (kn.1 + 3, kn.2 + 18) 2459 (LL b loc i) [] h2 X) : AW p l e R s m args below meth c D loc cy A 9 Qof RF kn 533 (LL b loc i) [] h X := by
  have hl0 := hC.2.2.2.2.2.2.2.2.2.2.2.2.1
  obtain ⟨i1, i2, i3, i4, i5⟩ := hI
  unfold LL
  have hk0 : Nat.ble kn.1 cb = true ∧ Nat.ble kn.2 sb = true := ⟨ble_le (Nat.le_trans (Nat.le_add_right _ _) hkn.1), ble_le (Nat.le_trans (Nat.le_add_right _ _) hkn.2)⟩
  obtain ⟨v, h1, h2, e8, e9, hR2⟩ := p_errorPosition hR 
  refine aw_aload_n hC dL_law_533 rfl ?_
  refine aw_cVi (v := v) (h2 := h1) hC dL_law_534 cv_RL_136 rfl rm_6_0_0 (am_val (f := (fun r => .inr (some (.int r)))) (A_X8_errorPosition l hl0 D loc cy  h) e8) rfl rfl rfl rfl rfl hk0 ?_
  refine aw_aload_n hC dL_law_537 rfl ?_
  refine aw_cVi (v := v) (h2 := h2) hC dL_law_538 cv_RL_139 rfl rm_7_0_0 (by have q := A_X9_errorPosition l hl0 D loc cy  h1; rw [e9] at q; exact q) rfl rfl rfl rfl rfl hk0 ?_
  refine aw_icmp_eq_t hC dL_law_541 (tgt := 2459) (by decide) rfl ?_
  exact aw_widen (Nat.le_add_right _ _) (Nat.le_add_right _ _) (kk h2 hR2)
theorem W_6 (hC : Cx p l e R s m args meth c D loc cy A cL_law 9 ret RL 2048 84000 cb sb) (hX : SX A s b n xs) (hI : IB i n) (hkn : kn.1 + 3 ≤ cb ∧ kn.2 + 18 ≤ sb) (hR : Rel h) (kk : ∀ h2, Rel h2 → AW p l e R s m args below meth c D loc cy A 9 Qof RF (kn.1 + 3, kn.2 + 18) 2459 (LL b loc i) [] h2 X) : AW p l e R s m args below meth c D loc cy A 9 Qof RF kn 546 (LL b loc i) [] h X := by
  have hl0 := hC.2.2.2.2.2.2.2.2.2.2.2.2.1
  obtain ⟨i1, i2, i3, i4, i5⟩ := hI
  unfold LL
  have hk0 : Nat.ble kn.1 cb = true ∧ Nat.ble kn.2 sb = true := ⟨ble_le (Nat.le_trans (Nat.le_add_right _ _) hkn.1), ble_le (Nat.le_trans (Nat.le_add_right _ _) hkn.2)⟩
  obtain ⟨r, h1, k, hL, v, hM, e8, hq, e9, hR2, ek, ej⟩ := PPL (by decide) (fun w h => o_X9_setting w (xs (i + 1).toNatClampNeg) h) (p_setting hR (xs (i + 1).toNatClampNeg))
  refine aw_aload_n hC dL_law_546 rfl ?_
  refine aw_aload_n hC dL_law_547 rfl ?_
  refine aw_iload hC dL_law_548 rfl ?_
  refine aw_iconst hC dL_law_550 (v := 1) (by decide) ?_
  refine aw_iadd hC dL_law_551 ?_
  refine aw_sld hC hX dL_law_552 i1 ?_
  refine aw_aload_n hC dL_law_553 rfl ?_
  refine aw_callL (k := k) (h2 := hL) (mc2 := 1) (ms2 := 6) (As := [.ref (loc (6, 0, 0)), .int (xs (i + 1).toNatClampNeg), .ref (loc (8, 0, 1))]) hC dL_law_554 cl_RL_140 (A_L_setting l hl0 D loc cy (xs (i + 1).toNatClampNeg) h (by have q := A_X8_setting l hl0 D loc cy (xs (i + 1).toNatClampNeg) h; rw [e8] at q; exact q) hq) rfl rfl rfl rfl rfl ⟨Nat.le_trans (Nat.add_le_add_left (by decide) _) hkn.1, Nat.le_trans (Nat.add_le_add_left (by decide) _) hkn.2⟩ ?_
  have hk1 : Nat.ble (kn.1 + 1, kn.2 + 6).1 cb = true ∧ Nat.ble (kn.1 + 1, kn.2 + 6).2 sb = true := ⟨ble_le (Nat.le_trans (Nat.add_le_add_left (by decide) _) hkn.1), ble_le (Nat.le_trans (Nat.add_le_add_left (by decide) _) hkn.2)⟩
  refine aw_istore hC dL_law_557 (by decide) ?_
  refine aw_aload_n hC dL_law_559 rfl ?_
  refine aw_aload_n hC dL_law_560 rfl ?_
  refine aw_iload hC dL_law_561 rfl ?_
  refine aw_iconst hC dL_law_563 (v := 1) (by decide) ?_
  refine aw_iadd hC dL_law_564 ?_
  refine aw_sld hC hX dL_law_565 i1 ?_
  refine aw_cVi (v := v) (h2 := hM) hC dL_law_566 cv_RL_142 rfl rm_7_0_0 (by have q := A_X9_setting l hl0 D loc cy (xs (i + 1).toNatClampNeg) hL; rw [e9] at q; exact q) rfl rfl rfl rfl rfl hk1 ?_
  refine aw_istore hC dL_law_569 (by decide) ?_
  refine aw_aload_n hC dL_law_571 rfl ?_
  refine aw_cVi (v := jX9_thrown hM) (h2 := hM) hC dL_law_572 cv_RL_118 rfl rm_7_0_0 (A_X9_thrown l hl0 D loc cy hM) rfl rfl rfl rfl rfl hk1 ?_
  refine aw_iload hC dL_law_575 rfl ?_
  refine aw_icmp_eq_t hC dL_law_577 (tgt := 582) (by decide) ek ?_
  refine aw_iload hC dL_law_582 rfl ?_
  have kE : AW p l e R s m args below meth c D loc cy A 9 Qof RF (kn.1 + 1, kn.2 + 6) 599 [(0, .ref b), (1, .ref (loc (6, 0, 0))), (2, .ref (loc (7, 0, 0))), (3, .ref (loc (8, 0, 1))), (4, .int i)] [] hM X := by
    refine aw_goto hC dL_law_599 (tgt := 2459) (by decide) ?_
    exact aw_widen (Nat.add_le_add_left (by decide) _) (Nat.add_le_add_left (by decide) _) (kk hM hR2)
  by_cases hk : k = 0
  · refine aw_if_ne_f hC dL_law_584 (tgt := 599) (by decide) (fun z => z hk) ?_
    refine aw_aload_n hC dL_law_587 rfl ?_
    refine aw_iconst hC dL_law_588 (v := 0) (by decide) ?_
    refine aw_lald (r := (8, 0, 1)) (n := 1) (k := 0) hC dL_law_589 (by decide +kernel) rfl rfl rfl rfl ?_
    refine aw_iload hC dL_law_590 rfl ?_
    refine aw_i2l hC dL_law_592 ?_
    refine aw_lcmp hC dL_law_593 ?_
    refine aw_if_eq_t hC dL_law_594 (tgt := 599) (by decide) (lcmp_eq (ej hk)) ?_
    exact aw_sub [0, 1, 2, 3, 4] kE
  · refine aw_if_ne_t hC dL_law_584 (tgt := 599) (by decide) hk ?_
    exact aw_sub [0, 1, 2, 3, 4] kE
theorem W_7 (hC : Cx p l e R s m args meth c D loc cy A cL_law 9 ret RL 2048 84000 cb sb) (hX : SX A s b n xs) (hI : IB i n) (hkn : kn.1 + 3 ≤ cb ∧ kn.2 + 18 ≤ sb) (hR : Rel h) (kk : ∀ h2, Rel h2 → AW p l e R s m args below meth c D loc cy A 9 Qof RF (kn.1 + 3, kn.2 + 18) 2459 (LL b loc i) [] h2 X) : AW p l e R s m args below meth c D loc cy A 9 Qof RF kn 602 (LL b loc i) [] h X := by
  have hl0 := hC.2.2.2.2.2.2.2.2.2.2.2.2.1
  obtain ⟨i1, i2, i3, i4, i5⟩ := hI
  unfold LL
  have hk0 : Nat.ble kn.1 cb = true ∧ Nat.ble kn.2 sb = true := ⟨ble_le (Nat.le_trans (Nat.le_add_right _ _) hkn.1), ble_le (Nat.le_trans (Nat.le_add_right _ _) hkn.2)⟩
  obtain ⟨r, h1, k, hL, v, hM, e8, hq, e9, hR2, ek, ej⟩ := PPL (by decide) (fun w h => o_X9_letter w (xs (i + 1).toNatClampNeg) (xs (i + 2).toNatClampNeg) h) (p_letter hR (xs (i + 1).toNatClampNeg) (xs (i + 2).toNatClampNeg))
  refine aw_aload_n hC dL_law_602 rfl ?_
  refine aw_aload_n hC dL_law_603 rfl ?_
  refine aw_iload hC dL_law_604 rfl ?_
  refine aw_iconst hC dL_law_606 (v := 1) (by decide) ?_
  refine aw_iadd hC dL_law_607 ?_
  refine aw_sld hC hX dL_law_608 i1 ?_
  refine aw_aload_n hC dL_law_609 rfl ?_
  refine aw_iload hC dL_law_610 rfl ?_
  refine aw_iconst hC dL_law_612 (v := 2) (by decide) ?_
  refine aw_iadd hC dL_law_613 ?_
  refine aw_sld hC hX dL_law_614 i2 ?_
  refine aw_aload_n hC dL_law_615 rfl ?_
  refine aw_callL (k := k) (h2 := hL) (mc2 := 1) (ms2 := 6) (As := [.ref (loc (6, 0, 0)), .int (xs (i + 1).toNatClampNeg), .int (xs (i + 2).toNatClampNeg), .ref (loc (8, 0, 1))]) hC dL_law_616 cl_RL_143 (A_L_letter l hl0 D loc cy (xs (i + 1).toNatClampNeg) (xs (i + 2).toNatClampNeg) h (ax_nh (A_X8_letter l hl0 D loc cy (xs (i + 1).toNatClampNeg) (xs (i + 2).toNatClampNeg) h) e8) hq) rfl rfl rfl rfl rfl ⟨Nat.le_trans (Nat.add_le_add_left (by decide) _) hkn.1, Nat.le_trans (Nat.add_le_add_left (by decide) _) hkn.2⟩ ?_
  have hk1 : Nat.ble (kn.1 + 1, kn.2 + 6).1 cb = true ∧ Nat.ble (kn.1 + 1, kn.2 + 6).2 sb = true := ⟨ble_le (Nat.le_trans (Nat.add_le_add_left (by decide) _) hkn.1), ble_le (Nat.le_trans (Nat.add_le_add_left (by decide) _) hkn.2)⟩
  refine aw_istore hC dL_law_619 (by decide) ?_
  refine aw_aload_n hC dL_law_621 rfl ?_
  refine aw_aload_n hC dL_law_622 rfl ?_
  refine aw_iload hC dL_law_623 rfl ?_
  refine aw_iconst hC dL_law_625 (v := 1) (by decide) ?_
  refine aw_iadd hC dL_law_626 ?_
  refine aw_sld hC hX dL_law_627 i1 ?_
  refine aw_aload_n hC dL_law_628 rfl ?_
  refine aw_iload hC dL_law_629 rfl ?_
  refine aw_iconst hC dL_law_631 (v := 2) (by decide) ?_
  refine aw_iadd hC dL_law_632 ?_
  refine aw_sld hC hX dL_law_633 i2 ?_
  refine aw_cVi (v := v) (h2 := hM) hC dL_law_634 cv_RL_146 rfl rm_7_0_0 (by have q := A_X9_letter l hl0 D loc cy (xs (i + 1).toNatClampNeg) (xs (i + 2).toNatClampNeg) hL; rw [e9] at q; exact q) rfl rfl rfl rfl rfl hk1 ?_
  refine aw_istore hC dL_law_637 (by decide) ?_
  refine aw_aload_n hC dL_law_639 rfl ?_
  refine aw_cVi (v := jX9_thrown hM) (h2 := hM) hC dL_law_640 cv_RL_118 rfl rm_7_0_0 (A_X9_thrown l hl0 D loc cy hM) rfl rfl rfl rfl rfl hk1 ?_
  refine aw_iload hC dL_law_643 rfl ?_
  refine aw_icmp_eq_t hC dL_law_645 (tgt := 650) (by decide) ek ?_
  refine aw_iload hC dL_law_650 rfl ?_
  have kE : AW p l e R s m args below meth c D loc cy A 9 Qof RF (kn.1 + 1, kn.2 + 6) 667 [(0, .ref b), (1, .ref (loc (6, 0, 0))), (2, .ref (loc (7, 0, 0))), (3, .ref (loc (8, 0, 1))), (4, .int i)] [] hM X := by
    refine aw_goto hC dL_law_667 (tgt := 2459) (by decide) ?_
    exact aw_widen (Nat.add_le_add_left (by decide) _) (Nat.add_le_add_left (by decide) _) (kk hM hR2)
  by_cases hk : k = 0
  · refine aw_if_ne_f hC dL_law_652 (tgt := 667) (by decide) (fun z => z hk) ?_
    refine aw_aload_n hC dL_law_655 rfl ?_
    refine aw_iconst hC dL_law_656 (v := 0) (by decide) ?_
    refine aw_lald (r := (8, 0, 1)) (n := 1) (k := 0) hC dL_law_657 (by decide +kernel) rfl rfl rfl rfl ?_
    refine aw_iload hC dL_law_658 rfl ?_
    refine aw_i2l hC dL_law_660 ?_
    refine aw_lcmp hC dL_law_661 ?_
    refine aw_if_eq_t hC dL_law_662 (tgt := 667) (by decide) (lcmp_eq (ej hk)) ?_
    exact aw_sub [0, 1, 2, 3, 4] kE
  · refine aw_if_ne_t hC dL_law_652 (tgt := 667) (by decide) hk ?_
    exact aw_sub [0, 1, 2, 3, 4] kE
theorem W_8 (hC : Cx p l e R s m args meth c D loc cy A cL_law 9 ret RL 2048 84000 cb sb) (hX : SX A s b n xs) (hI : IB i n) (hkn : kn.1 + 3 ≤ cb ∧ kn.2 + 18 ≤ sb) (hR : Rel h) (kk : ∀ h2, Rel h2 → AW p l e R s m args below meth c D loc cy A 9 Qof RF (kn.1 + 3, kn.2 + 18) 2459 (LL b loc i) [] h2 X) : AW p l e R s m args below meth c D loc cy A 9 Qof RF kn 670 (LL b loc i) [] h X := by
  have hl0 := hC.2.2.2.2.2.2.2.2.2.2.2.2.1
  obtain ⟨i1, i2, i3, i4, i5⟩ := hI
  unfold LL
  have hk0 : Nat.ble kn.1 cb = true ∧ Nat.ble kn.2 sb = true := ⟨ble_le (Nat.le_trans (Nat.le_add_right _ _) hkn.1), ble_le (Nat.le_trans (Nat.le_add_right _ _) hkn.2)⟩
  obtain ⟨r, h1, k, hL, v, hM, e8, hq, e9, hR2, ek, ej⟩ := PPL (by decide) (fun w h => o_X9_car w (xs (i + 1).toNatClampNeg) (xs (i + 2).toNatClampNeg) h) (p_car hR (xs (i + 1).toNatClampNeg) (xs (i + 2).toNatClampNeg))
  refine aw_aload_n hC dL_law_670 rfl ?_
  refine aw_aload_n hC dL_law_671 rfl ?_
  refine aw_iload hC dL_law_672 rfl ?_
  refine aw_iconst hC dL_law_674 (v := 1) (by decide) ?_
  refine aw_iadd hC dL_law_675 ?_
  refine aw_sld hC hX dL_law_676 i1 ?_
  refine aw_aload_n hC dL_law_677 rfl ?_
  refine aw_iload hC dL_law_678 rfl ?_
  refine aw_iconst hC dL_law_680 (v := 2) (by decide) ?_
  refine aw_iadd hC dL_law_681 ?_
  refine aw_sld hC hX dL_law_682 i2 ?_
  refine aw_aload_n hC dL_law_683 rfl ?_
  refine aw_callL (k := k) (h2 := hL) (mc2 := 2) (ms2 := 12) (As := [.ref (loc (6, 0, 0)), .int (xs (i + 1).toNatClampNeg), .int (xs (i + 2).toNatClampNeg), .ref (loc (8, 0, 1))]) hC dL_law_684 cl_RL_147 (A_L_car l hl0 D loc cy (xs (i + 1).toNatClampNeg) (xs (i + 2).toNatClampNeg) h (by have q := A_X8_car l hl0 D loc cy (xs (i + 1).toNatClampNeg) (xs (i + 2).toNatClampNeg) h; rw [e8] at q; exact q) hq) rfl rfl rfl rfl rfl ⟨Nat.le_trans (Nat.add_le_add_left (by decide) _) hkn.1, Nat.le_trans (Nat.add_le_add_left (by decide) _) hkn.2⟩ ?_
  have hk1 : Nat.ble (kn.1 + 2, kn.2 + 12).1 cb = true ∧ Nat.ble (kn.1 + 2, kn.2 + 12).2 sb = true := ⟨ble_le (Nat.le_trans (Nat.add_le_add_left (by decide) _) hkn.1), ble_le (Nat.le_trans (Nat.add_le_add_left (by decide) _) hkn.2)⟩
  refine aw_istore hC dL_law_687 (by decide) ?_
  refine aw_aload_n hC dL_law_689 rfl ?_
  refine aw_aload_n hC dL_law_690 rfl ?_
  refine aw_iload hC dL_law_691 rfl ?_
  refine aw_iconst hC dL_law_693 (v := 1) (by decide) ?_
  refine aw_iadd hC dL_law_694 ?_
  refine aw_sld hC hX dL_law_695 i1 ?_
  refine aw_aload_n hC dL_law_696 rfl ?_
  refine aw_iload hC dL_law_697 rfl ?_
  refine aw_iconst hC dL_law_699 (v := 2) (by decide) ?_
  refine aw_iadd hC dL_law_700 ?_
  refine aw_sld hC hX dL_law_701 i2 ?_
  refine aw_cVi (v := v) (h2 := hM) hC dL_law_702 cv_RL_149 rfl rm_7_0_0 (by have q := A_X9_car l hl0 D loc cy (xs (i + 1).toNatClampNeg) (xs (i + 2).toNatClampNeg) hL; rw [e9] at q; exact q) rfl rfl rfl rfl rfl hk1 ?_
  refine aw_istore hC dL_law_705 (by decide) ?_
  refine aw_aload_n hC dL_law_707 rfl ?_
  refine aw_cVi (v := jX9_thrown hM) (h2 := hM) hC dL_law_708 cv_RL_118 rfl rm_7_0_0 (A_X9_thrown l hl0 D loc cy hM) rfl rfl rfl rfl rfl hk1 ?_
  refine aw_iload hC dL_law_711 rfl ?_
  refine aw_icmp_eq_t hC dL_law_713 (tgt := 718) (by decide) ek ?_
  refine aw_iload hC dL_law_718 rfl ?_
  have kE : AW p l e R s m args below meth c D loc cy A 9 Qof RF (kn.1 + 2, kn.2 + 12) 735 [(0, .ref b), (1, .ref (loc (6, 0, 0))), (2, .ref (loc (7, 0, 0))), (3, .ref (loc (8, 0, 1))), (4, .int i)] [] hM X := by
    refine aw_goto hC dL_law_735 (tgt := 2459) (by decide) ?_
    exact aw_widen (Nat.add_le_add_left (by decide) _) (Nat.add_le_add_left (by decide) _) (kk hM hR2)
  by_cases hk : k = 0
  · refine aw_if_ne_f hC dL_law_720 (tgt := 735) (by decide) (fun z => z hk) ?_
    refine aw_aload_n hC dL_law_723 rfl ?_
    refine aw_iconst hC dL_law_724 (v := 0) (by decide) ?_
    refine aw_lald (r := (8, 0, 1)) (n := 1) (k := 0) hC dL_law_725 (by decide +kernel) rfl rfl rfl rfl ?_
    refine aw_iload hC dL_law_726 rfl ?_
    refine aw_i2l hC dL_law_728 ?_
    refine aw_lcmp hC dL_law_729 ?_
    refine aw_if_eq_t hC dL_law_730 (tgt := 735) (by decide) (lcmp_eq (ej hk)) ?_
    exact aw_sub [0, 1, 2, 3, 4] kE
  · refine aw_if_ne_t hC dL_law_720 (tgt := 735) (by decide) hk ?_
    exact aw_sub [0, 1, 2, 3, 4] kE
theorem W_9 (hC : Cx p l e R s m args meth c D loc cy A cL_law 9 ret RL 2048 84000 cb sb) (hX : SX A s b n xs) (hI : IB i n) (hkn : kn.1 + 3 ≤ cb ∧ kn.2 + 18 ≤ sb) (hR : Rel h) (kk : ∀ h2, Rel h2 → AW p l e R s m args below meth c D loc cy A 9 Qof RF (kn.1 + 3, kn.2 + 18) 2459 (LL b loc i) [] h2 X) : AW p l e R s m args below meth c D loc cy A 9 Qof RF kn 738 (LL b loc i) [] h X := by
  have hl0 := hC.2.2.2.2.2.2.2.2.2.2.2.2.1
  obtain ⟨i1, i2, i3, i4, i5⟩ := hI
  unfold LL
  have hk0 : Nat.ble kn.1 cb = true ∧ Nat.ble kn.2 sb = true := ⟨ble_le (Nat.le_trans (Nat.le_add_right _ _) hkn.1), ble_le (Nat.le_trans (Nat.le_add_right _ _) hkn.2)⟩
  obtain ⟨r, h1, k, hL, v, hM, e8, hq, e9, hR2, ek, ej⟩ := PPL (by decide) (fun w h => o_X9_who w (xs (i + 1).toNatClampNeg) h) (p_who hR (xs (i + 1).toNatClampNeg))
  refine aw_aload_n hC dL_law_738 rfl ?_
  refine aw_aload_n hC dL_law_739 rfl ?_
  refine aw_iload hC dL_law_740 rfl ?_
  refine aw_iconst hC dL_law_742 (v := 1) (by decide) ?_
  refine aw_iadd hC dL_law_743 ?_
  refine aw_sld hC hX dL_law_744 i1 ?_
  refine aw_aload_n hC dL_law_745 rfl ?_
  refine aw_callL (k := k) (h2 := hL) (mc2 := 1) (ms2 := 6) (As := [.ref (loc (6, 0, 0)), .int (xs (i + 1).toNatClampNeg), .ref (loc (8, 0, 1))]) hC dL_law_746 cl_RL_150 (A_L_who l hl0 D loc cy (xs (i + 1).toNatClampNeg) h (by have q := A_X8_who l hl0 D loc cy (xs (i + 1).toNatClampNeg) h; rw [e8] at q; exact q) hq) rfl rfl rfl rfl rfl ⟨Nat.le_trans (Nat.add_le_add_left (by decide) _) hkn.1, Nat.le_trans (Nat.add_le_add_left (by decide) _) hkn.2⟩ ?_
  have hk1 : Nat.ble (kn.1 + 1, kn.2 + 6).1 cb = true ∧ Nat.ble (kn.1 + 1, kn.2 + 6).2 sb = true := ⟨ble_le (Nat.le_trans (Nat.add_le_add_left (by decide) _) hkn.1), ble_le (Nat.le_trans (Nat.add_le_add_left (by decide) _) hkn.2)⟩
  refine aw_istore hC dL_law_749 (by decide) ?_
  refine aw_aload_n hC dL_law_751 rfl ?_
  refine aw_aload_n hC dL_law_752 rfl ?_
  refine aw_iload hC dL_law_753 rfl ?_
  refine aw_iconst hC dL_law_755 (v := 1) (by decide) ?_
  refine aw_iadd hC dL_law_756 ?_
  refine aw_sld hC hX dL_law_757 i1 ?_
  refine aw_cVi (v := v) (h2 := hM) hC dL_law_758 cv_RL_152 rfl rm_7_0_0 (by have q := A_X9_who l hl0 D loc cy (xs (i + 1).toNatClampNeg) hL; rw [e9] at q; exact q) rfl rfl rfl rfl rfl hk1 ?_
  refine aw_istore hC dL_law_761 (by decide) ?_
  refine aw_aload_n hC dL_law_763 rfl ?_
  refine aw_cVi (v := jX9_thrown hM) (h2 := hM) hC dL_law_764 cv_RL_118 rfl rm_7_0_0 (A_X9_thrown l hl0 D loc cy hM) rfl rfl rfl rfl rfl hk1 ?_
  refine aw_iload hC dL_law_767 rfl ?_
  refine aw_icmp_eq_t hC dL_law_769 (tgt := 774) (by decide) ek ?_
  refine aw_iload hC dL_law_774 rfl ?_
  have kE : AW p l e R s m args below meth c D loc cy A 9 Qof RF (kn.1 + 1, kn.2 + 6) 791 [(0, .ref b), (1, .ref (loc (6, 0, 0))), (2, .ref (loc (7, 0, 0))), (3, .ref (loc (8, 0, 1))), (4, .int i)] [] hM X := by
    refine aw_goto hC dL_law_791 (tgt := 2459) (by decide) ?_
    exact aw_widen (Nat.add_le_add_left (by decide) _) (Nat.add_le_add_left (by decide) _) (kk hM hR2)
  by_cases hk : k = 0
  · refine aw_if_ne_f hC dL_law_776 (tgt := 791) (by decide) (fun z => z hk) ?_
    refine aw_aload_n hC dL_law_779 rfl ?_
    refine aw_iconst hC dL_law_780 (v := 0) (by decide) ?_
    refine aw_lald (r := (8, 0, 1)) (n := 1) (k := 0) hC dL_law_781 (by decide +kernel) rfl rfl rfl rfl ?_
    refine aw_iload hC dL_law_782 rfl ?_
    refine aw_i2l hC dL_law_784 ?_
    refine aw_lcmp hC dL_law_785 ?_
    refine aw_if_eq_t hC dL_law_786 (tgt := 791) (by decide) (lcmp_eq (ej hk)) ?_
    exact aw_sub [0, 1, 2, 3, 4] kE
  · refine aw_if_ne_t hC dL_law_776 (tgt := 791) (by decide) hk ?_
    exact aw_sub [0, 1, 2, 3, 4] kE
theorem W_10 (hC : Cx p l e R s m args meth c D loc cy A cL_law 9 ret RL 2048 84000 cb sb) (hX : SX A s b n xs) (hI : IB i n) (hkn : kn.1 + 3 ≤ cb ∧ kn.2 + 18 ≤ sb) (hR : Rel h) (kk : ∀ h2, Rel h2 → AW p l e R s m args below meth c D loc cy A 9 Qof RF (kn.1 + 3, kn.2 + 18) 2459 (LL b loc i) [] h2 X) : AW p l e R s m args below meth c D loc cy A 9 Qof RF kn 794 (LL b loc i) [] h X := by
  have hl0 := hC.2.2.2.2.2.2.2.2.2.2.2.2.1
  obtain ⟨i1, i2, i3, i4, i5⟩ := hI
  unfold LL
  have hk0 : Nat.ble kn.1 cb = true ∧ Nat.ble kn.2 sb = true := ⟨ble_le (Nat.le_trans (Nat.le_add_right _ _) hkn.1), ble_le (Nat.le_trans (Nat.le_add_right _ _) hkn.2)⟩
  obtain ⟨r, h1, k, hL, v, hM, e8, hq, e9, hR2, ek, ej⟩ := PPL (by decide) (fun w h => o_X9_wanted w (xs (i + 1).toNatClampNeg) h) (p_wanted hR (xs (i + 1).toNatClampNeg))
  refine aw_aload_n hC dL_law_794 rfl ?_
  refine aw_aload_n hC dL_law_795 rfl ?_
  refine aw_iload hC dL_law_796 rfl ?_
  refine aw_iconst hC dL_law_798 (v := 1) (by decide) ?_
  refine aw_iadd hC dL_law_799 ?_
  refine aw_sld hC hX dL_law_800 i1 ?_
  refine aw_aload_n hC dL_law_801 rfl ?_
  refine aw_callL (k := k) (h2 := hL) (mc2 := 1) (ms2 := 6) (As := [.ref (loc (6, 0, 0)), .int (xs (i + 1).toNatClampNeg), .ref (loc (8, 0, 1))]) hC dL_law_802 cl_RL_153 (A_L_wanted l hl0 D loc cy (xs (i + 1).toNatClampNeg) h (ax_nh (A_X8_wanted l hl0 D loc cy (xs (i + 1).toNatClampNeg) h) e8) hq) rfl rfl rfl rfl rfl ⟨Nat.le_trans (Nat.add_le_add_left (by decide) _) hkn.1, Nat.le_trans (Nat.add_le_add_left (by decide) _) hkn.2⟩ ?_
  have hk1 : Nat.ble (kn.1 + 1, kn.2 + 6).1 cb = true ∧ Nat.ble (kn.1 + 1, kn.2 + 6).2 sb = true := ⟨ble_le (Nat.le_trans (Nat.add_le_add_left (by decide) _) hkn.1), ble_le (Nat.le_trans (Nat.add_le_add_left (by decide) _) hkn.2)⟩
  refine aw_istore hC dL_law_805 (by decide) ?_
  refine aw_aload_n hC dL_law_807 rfl ?_
  refine aw_aload_n hC dL_law_808 rfl ?_
  refine aw_iload hC dL_law_809 rfl ?_
  refine aw_iconst hC dL_law_811 (v := 1) (by decide) ?_
  refine aw_iadd hC dL_law_812 ?_
  refine aw_sld hC hX dL_law_813 i1 ?_
  refine aw_cVi (v := v) (h2 := hM) hC dL_law_814 cv_RL_155 rfl rm_7_0_0 (by have q := A_X9_wanted l hl0 D loc cy (xs (i + 1).toNatClampNeg) hL; rw [e9] at q; exact q) rfl rfl rfl rfl rfl hk1 ?_
  refine aw_istore hC dL_law_817 (by decide) ?_
  refine aw_aload_n hC dL_law_819 rfl ?_
  refine aw_cVi (v := jX9_thrown hM) (h2 := hM) hC dL_law_820 cv_RL_118 rfl rm_7_0_0 (A_X9_thrown l hl0 D loc cy hM) rfl rfl rfl rfl rfl hk1 ?_
  refine aw_iload hC dL_law_823 rfl ?_
  refine aw_icmp_eq_t hC dL_law_825 (tgt := 830) (by decide) ek ?_
  refine aw_iload hC dL_law_830 rfl ?_
  have kE : AW p l e R s m args below meth c D loc cy A 9 Qof RF (kn.1 + 1, kn.2 + 6) 847 [(0, .ref b), (1, .ref (loc (6, 0, 0))), (2, .ref (loc (7, 0, 0))), (3, .ref (loc (8, 0, 1))), (4, .int i)] [] hM X := by
    refine aw_goto hC dL_law_847 (tgt := 2459) (by decide) ?_
    exact aw_widen (Nat.add_le_add_left (by decide) _) (Nat.add_le_add_left (by decide) _) (kk hM hR2)
  by_cases hk : k = 0
  · refine aw_if_ne_f hC dL_law_832 (tgt := 847) (by decide) (fun z => z hk) ?_
    refine aw_aload_n hC dL_law_835 rfl ?_
    refine aw_iconst hC dL_law_836 (v := 0) (by decide) ?_
    refine aw_lald (r := (8, 0, 1)) (n := 1) (k := 0) hC dL_law_837 (by decide +kernel) rfl rfl rfl rfl ?_
    refine aw_iload hC dL_law_838 rfl ?_
    refine aw_i2l hC dL_law_840 ?_
    refine aw_lcmp hC dL_law_841 ?_
    refine aw_if_eq_t hC dL_law_842 (tgt := 847) (by decide) (lcmp_eq (ej hk)) ?_
    exact aw_sub [0, 1, 2, 3, 4] kE
  · refine aw_if_ne_t hC dL_law_832 (tgt := 847) (by decide) hk ?_
    exact aw_sub [0, 1, 2, 3, 4] kE
theorem W_11 (hC : Cx p l e R s m args meth c D loc cy A cL_law 9 ret RL 2048 84000 cb sb) (hX : SX A s b n xs) (hI : IB i n) (hkn : kn.1 + 3 ≤ cb ∧ kn.2 + 18 ≤ sb) (hR : Rel h) (kk : ∀ h2, Rel h2 → AW p l e R s m args below meth c D loc cy A 9 Qof RF (kn.1 + 3, kn.2 + 18) 2459 (LL b loc i) [] h2 X) : AW p l e R s m args below meth c D loc cy A 9 Qof RF kn 850 (LL b loc i) [] h X := by
  have hl0 := hC.2.2.2.2.2.2.2.2.2.2.2.2.1
  obtain ⟨i1, i2, i3, i4, i5⟩ := hI
  unfold LL
  have hk0 : Nat.ble kn.1 cb = true ∧ Nat.ble kn.2 sb = true := ⟨ble_le (Nat.le_trans (Nat.le_add_right _ _) hkn.1), ble_le (Nat.le_trans (Nat.le_add_right _ _) hkn.2)⟩
  obtain ⟨v, h1, h2, e8, e9, hR2⟩ := p_ranked hR (xs (i + 1).toNatClampNeg)
  refine aw_aload_n hC dL_law_850 rfl ?_
  refine aw_aload_n hC dL_law_851 rfl ?_
  refine aw_iload hC dL_law_852 rfl ?_
  refine aw_iconst hC dL_law_854 (v := 1) (by decide) ?_
  refine aw_iadd hC dL_law_855 ?_
  refine aw_sld hC hX dL_law_856 i1 ?_
  refine aw_cVi (v := v) (h2 := h1) hC dL_law_857 cv_RL_156 rfl rm_6_0_0 (am_nh (f := (fun r => .inr (some (.int r)))) (A_X8_ranked l hl0 D loc cy (xs (i + 1).toNatClampNeg) h) e8) rfl rfl rfl rfl rfl hk0 ?_
  refine aw_aload_n hC dL_law_860 rfl ?_
  refine aw_aload_n hC dL_law_861 rfl ?_
  refine aw_iload hC dL_law_862 rfl ?_
  refine aw_iconst hC dL_law_864 (v := 1) (by decide) ?_
  refine aw_iadd hC dL_law_865 ?_
  refine aw_sld hC hX dL_law_866 i1 ?_
  refine aw_cVi (v := v) (h2 := h2) hC dL_law_867 cv_RL_159 rfl rm_7_0_0 (by have q := A_X9_ranked l hl0 D loc cy (xs (i + 1).toNatClampNeg) h1; rw [e9] at q; exact q) rfl rfl rfl rfl rfl hk0 ?_
  refine aw_icmp_eq_t hC dL_law_870 (tgt := 2459) (by decide) rfl ?_
  exact aw_widen (Nat.le_add_right _ _) (Nat.le_add_right _ _) (kk h2 hR2)
theorem W_12 (hC : Cx p l e R s m args meth c D loc cy A cL_law 9 ret RL 2048 84000 cb sb) (hX : SX A s b n xs) (hI : IB i n) (hkn : kn.1 + 3 ≤ cb ∧ kn.2 + 18 ≤ sb) (hR : Rel h) (kk : ∀ h2, Rel h2 → AW p l e R s m args below meth c D loc cy A 9 Qof RF (kn.1 + 3, kn.2 + 18) 2459 (LL b loc i) [] h2 X) : AW p l e R s m args below meth c D loc cy A 9 Qof RF kn 875 (LL b loc i) [] h X := by
  have hl0 := hC.2.2.2.2.2.2.2.2.2.2.2.2.1
  obtain ⟨i1, i2, i3, i4, i5⟩ := hI
  unfold LL
  have hk0 : Nat.ble kn.1 cb = true ∧ Nat.ble kn.2 sb = true := ⟨ble_le (Nat.le_trans (Nat.le_add_right _ _) hkn.1), ble_le (Nat.le_trans (Nat.le_add_right _ _) hkn.2)⟩
  obtain ⟨r, h1, k, hL, v, hM, e8, hq, e9, hR2, ek, ej⟩ := PPL (by decide) (fun w h => o_X9_spotByLine w (xs (i + 1).toNatClampNeg) h) (p_spotByLine hR (xs (i + 1).toNatClampNeg))
  refine aw_aload_n hC dL_law_875 rfl ?_
  refine aw_aload_n hC dL_law_876 rfl ?_
  refine aw_iload hC dL_law_877 rfl ?_
  refine aw_iconst hC dL_law_879 (v := 1) (by decide) ?_
  refine aw_iadd hC dL_law_880 ?_
  refine aw_sld hC hX dL_law_881 i1 ?_
  refine aw_aload_n hC dL_law_882 rfl ?_
  refine aw_callL (k := k) (h2 := hL) (mc2 := 1) (ms2 := 6) (As := [.ref (loc (6, 0, 0)), .int (xs (i + 1).toNatClampNeg), .ref (loc (8, 0, 1))]) hC dL_law_883 cl_RL_160 (A_L_spotByLine l hl0 D loc cy (xs (i + 1).toNatClampNeg) h (by have q := A_X8_spotByLine l hl0 D loc cy (xs (i + 1).toNatClampNeg) h; rw [e8] at q; exact q) hq) rfl rfl rfl rfl rfl ⟨Nat.le_trans (Nat.add_le_add_left (by decide) _) hkn.1, Nat.le_trans (Nat.add_le_add_left (by decide) _) hkn.2⟩ ?_
  have hk1 : Nat.ble (kn.1 + 1, kn.2 + 6).1 cb = true ∧ Nat.ble (kn.1 + 1, kn.2 + 6).2 sb = true := ⟨ble_le (Nat.le_trans (Nat.add_le_add_left (by decide) _) hkn.1), ble_le (Nat.le_trans (Nat.add_le_add_left (by decide) _) hkn.2)⟩
  refine aw_istore hC dL_law_886 (by decide) ?_
  refine aw_aload_n hC dL_law_888 rfl ?_
  refine aw_aload_n hC dL_law_889 rfl ?_
  refine aw_iload hC dL_law_890 rfl ?_
  refine aw_iconst hC dL_law_892 (v := 1) (by decide) ?_
  refine aw_iadd hC dL_law_893 ?_
  refine aw_sld hC hX dL_law_894 i1 ?_
  refine aw_cVi (v := v) (h2 := hM) hC dL_law_895 cv_RL_162 rfl rm_7_0_0 (by have q := A_X9_spotByLine l hl0 D loc cy (xs (i + 1).toNatClampNeg) hL; rw [e9] at q; exact q) rfl rfl rfl rfl rfl hk1 ?_
  refine aw_istore hC dL_law_898 (by decide) ?_
  refine aw_aload_n hC dL_law_900 rfl ?_
  refine aw_cVi (v := jX9_thrown hM) (h2 := hM) hC dL_law_901 cv_RL_118 rfl rm_7_0_0 (A_X9_thrown l hl0 D loc cy hM) rfl rfl rfl rfl rfl hk1 ?_
  refine aw_iload hC dL_law_904 rfl ?_
  refine aw_icmp_eq_t hC dL_law_906 (tgt := 911) (by decide) ek ?_
  refine aw_iload hC dL_law_911 rfl ?_
  have kE : AW p l e R s m args below meth c D loc cy A 9 Qof RF (kn.1 + 1, kn.2 + 6) 928 [(0, .ref b), (1, .ref (loc (6, 0, 0))), (2, .ref (loc (7, 0, 0))), (3, .ref (loc (8, 0, 1))), (4, .int i)] [] hM X := by
    refine aw_goto hC dL_law_928 (tgt := 2459) (by decide) ?_
    exact aw_widen (Nat.add_le_add_left (by decide) _) (Nat.add_le_add_left (by decide) _) (kk hM hR2)
  by_cases hk : k = 0
  · refine aw_if_ne_f hC dL_law_913 (tgt := 928) (by decide) (fun z => z hk) ?_
    refine aw_aload_n hC dL_law_916 rfl ?_
    refine aw_iconst hC dL_law_917 (v := 0) (by decide) ?_
    refine aw_lald (r := (8, 0, 1)) (n := 1) (k := 0) hC dL_law_918 (by decide +kernel) rfl rfl rfl rfl ?_
    refine aw_iload hC dL_law_919 rfl ?_
    refine aw_i2l hC dL_law_921 ?_
    refine aw_lcmp hC dL_law_922 ?_
    refine aw_if_eq_t hC dL_law_923 (tgt := 928) (by decide) (lcmp_eq (ej hk)) ?_
    exact aw_sub [0, 1, 2, 3, 4] kE
  · refine aw_if_ne_t hC dL_law_913 (tgt := 928) (by decide) hk ?_
    exact aw_sub [0, 1, 2, 3, 4] kE
theorem W_13 (hC : Cx p l e R s m args meth c D loc cy A cL_law 9 ret RL 2048 84000 cb sb) (hX : SX A s b n xs) (hI : IB i n) (hkn : kn.1 + 3 ≤ cb ∧ kn.2 + 18 ≤ sb) (hR : Rel h) (kk : ∀ h2, Rel h2 → AW p l e R s m args below meth c D loc cy A 9 Qof RF (kn.1 + 3, kn.2 + 18) 2459 (LL b loc i) [] h2 X) : AW p l e R s m args below meth c D loc cy A 9 Qof RF kn 931 (LL b loc i) [] h X := by
  have hl0 := hC.2.2.2.2.2.2.2.2.2.2.2.2.1
  obtain ⟨i1, i2, i3, i4, i5⟩ := hI
  unfold LL
  have hk0 : Nat.ble kn.1 cb = true ∧ Nat.ble kn.2 sb = true := ⟨ble_le (Nat.le_trans (Nat.le_add_right _ _) hkn.1), ble_le (Nat.le_trans (Nat.le_add_right _ _) hkn.2)⟩
  obtain ⟨v, h1, h2, e8, e9, hR2⟩ := p_gap hR 
  refine aw_aload_n hC dL_law_931 rfl ?_
  refine aw_cVi (v := v) (h2 := h1) hC dL_law_932 cv_RL_163 rfl rm_6_0_0 (by have q := A_X8_gap l hl0 D loc cy  h; rw [e8] at q; exact q) rfl rfl rfl rfl rfl hk0 ?_
  refine aw_aload_n hC dL_law_935 rfl ?_
  refine aw_cVi (v := v) (h2 := h2) hC dL_law_936 cv_RL_166 rfl rm_7_0_0 (by have q := A_X9_gap l hl0 D loc cy  h1; rw [e9] at q; exact q) rfl rfl rfl rfl rfl hk0 ?_
  refine aw_icmp_eq_t hC dL_law_939 (tgt := 2459) (by decide) rfl ?_
  exact aw_widen (Nat.le_add_right _ _) (Nat.le_add_right _ _) (kk h2 hR2)
end LWC
