section PRF
variable {p : Program} {l : Launch} {e : Env} {R : Room} {s : State} {m : MethodId} {args : Array Value} {below : List Frame} {meth : Method} {c : Code} {D : va_G} {loc : Rf → Nat} {cy : Nat → ClassId} {A : Nat → Prop}
set_option maxHeartbeats 4000000 in
set_option maxRecDepth 100000 in
theorem L_X8_wordOf_4 (u1 : Nat × List Int32) (hu1 : u1 ∈ TXT) (h : HD) (hC : Cx p l e R s m args meth c D loc cy A cX8_wordOf 4 (some .long) RX8 4 140 0 0)  : ∀ (n4 : Nat) (x1 : Int64) (x3 : Int32), AW p l e R s m args below meth c D loc cy A 4 (QM below D loc cy A args s) (fun (r : Option Int64) => r.map (fun r => (.inr (some (.long r)), h))) (0, 0) 4 [(0, .ref (loc (10, u1.1, 0))), (1, .long x1), (3, .int x3)] [] h (jX8_wordOf_L4 u1 h n4 x1 x3) := by
  intro n4
  induction n4 with
  | zero => intro x1 x3; exact aw_none rfl
  | succ n4 ih4 =>
    intro x1 x3
    rw [jX8_wordOf_L4]
    refine aw_iload_n hC dX8_wordOf_4 rfl ?_
    refine aw_aload_n hC dX8_wordOf_5 rfl ?_
    refine aw_slen hC dX8_wordOf_6 hu1 tw4_108 rfl rfl rfl ⟨rfl, rfl⟩ ?_
    refine aw_icmp_ge hC dX8_wordOf_9 (tgt := 40) (by decide) ?_ ?_
    · refine aw_lload_n hC dX8_wordOf_40 rfl ?_
      exact aw_lret hC dX8_wordOf_41 rfl rfl
    · refine aw_iload_n hC dX8_wordOf_12 rfl ?_
      refine aw_bipush hC dX8_wordOf_13 (v := 8) (by decide) ?_
      refine aw_icmp_ge hC dX8_wordOf_15 (tgt := 40) (by decide) ?_ ?_
      · refine aw_lload_n hC dX8_wordOf_40 rfl ?_
        exact aw_lret hC dX8_wordOf_41 rfl rfl
      · refine aw_lload_n hC dX8_wordOf_18 rfl ?_
        refine aw_iload_n hC dX8_wordOf_19 rfl ?_
        refine aw_aload_n hC dX8_wordOf_20 rfl ?_
        refine aw_iload_n hC dX8_wordOf_21 rfl ?_
        refine aw_guard rfl (fun g1 => ?_)
        refine aw_schar hC dX8_wordOf_22 hu1 g1 tw4_118 rfl rfl rfl ⟨rfl, rfl⟩ ?_
        refine aw_bipush hC dX8_wordOf_25 (v := 97) (by decide) ?_
        refine aw_isub hC dX8_wordOf_27 ?_
        refine aw_iconst hC dX8_wordOf_28 (v := 1) (by decide) ?_
        refine aw_iadd hC dX8_wordOf_29 ?_
        refine aw_cSj hC dX8_wordOf_30 cv_RX8_538 (A_X8_withLetter _ (hC.2.2.2.2.2.2.2.2.2.2.2.2.1) _ _ _ x1 x3 (((u1.2.getD x3.toNatClampNeg 0) - (97 : Int32)) + (1 : Int32)) h) rfl rfl rfl rfl rfl ⟨rfl, rfl⟩ ?_
        refine aw_lstore_n hC dX8_wordOf_33 (by decide) ?_
        refine aw_iinc hC dX8_wordOf_34 rfl (v := x3 + 1) (by first | rfl | decide) (by decide) ?_
        refine aw_goto hC dX8_wordOf_37 (tgt := 4) (by decide) ?_
        refine aw_sub [0, 1, 3] ?_
        exact ih4 (jX8_withLetter x1 x3 (((u1.2.getD x3.toNatClampNeg 0) - (97 : Int32)) + (1 : Int32)) h) (x3 + 1)
set_option maxHeartbeats 4000000 in
set_option maxRecDepth 100000 in
theorem A_X8_wordOf (l : Launch) (hl0 : l.stackTraces = false) (D : va_G) (loc : Rf → Nat) (cy : Nat → ClassId) (u1 : Nat × List Int32) (hu1 : u1 ∈ TXT) (h : HD) : AM l D loc cy yX8_wordOf cX8_wordOf 4 (some .long) 4 140 [.ref (loc (10, u1.1, 0))] h ((jX8_wordOf u1 h).map (fun r => (.inr (some (.long r)), h))) := by
  refine am_start (y := yX8_wordOf) (av := [.ref (loc (10, u1.1, 0))]) (nL := 4) (h := h) (RF := fun (r : Option Int64) => r.map (fun r => (.inr (some (.long r)), h))) (x := jX8_wordOf u1 h) hl0 (by decide +kernel) rfl ?_
  intro p e R s m below meth c A hC
  unfold jX8_wordOf
  refine aw_lconst hC dX8_wordOf_0 (v := 0) (by decide) ?_
  refine aw_lstore_n hC dX8_wordOf_1 (by decide) ?_
  refine aw_iconst hC dX8_wordOf_2 (v := 0) (by decide) ?_
  refine aw_istore_n hC dX8_wordOf_3 (by decide) ?_
  refine aw_sub [0, 1, 3] ?_
  exact L_X8_wordOf_4 u1 hu1 h  hC FU (0 : Int64) (0 : Int32)
set_option maxHeartbeats 4000000 in
set_option maxRecDepth 100000 in
theorem A_X6_isWord_ (l : Launch) (hl0 : l.stackTraces = false) (D : va_G) (loc : Rf → Nat) (cy : Nat → ClassId) (u1 : Nat × List Int32) (hu1 : u1 ∈ TXT) (h : HD) : AM l D loc cy yX6_isWord_ cX6_isWord_ 2 (some .boolean) 5 163 [.ref (loc (4, 0, 0)), .ref (loc (10, u1.1, 0))] h ((jX6_isWord_ u1 h).map (fun r => (.inr (some (.int (b2i r))), h))) := by
  refine am_start (y := yX6_isWord_) (av := [.ref (loc (4, 0, 0)), .ref (loc (10, u1.1, 0))]) (nL := 2) (h := h) (RF := fun (r : Option Bool) => r.map (fun r => (.inr (some (.int (b2i r))), h))) (x := jX6_isWord_ u1 h) hl0 (by decide +kernel) rfl ?_
  intro p e R s m below meth c A hC
  unfold jX6_isWord_
  refine aw_aload_n hC dX6_isWord__0 rfl ?_
  refine aw_gfI hC dX6_isWord__1 fg_RX6_20 rfl rm_4_0_0 ?_
  refine aw_iconst hC dX6_isWord__4 (v := 1) (by decide) ?_
  refine aw_icmp_ne hC dX6_isWord__5 (tgt := 24) (by decide) ?_ ?_
  · refine aw_iconst hC dX6_isWord__24 (v := 0) (by decide) ?_
    exact aw_zret hC dX6_isWord__25 rfl (show _ = b2i false from rfl) rfl
  · refine aw_aload_n hC dX6_isWord__8 rfl ?_
    refine aw_gfJ hC dX6_isWord__9 fg_RX6_30 rfl rm_4_0_0 ?_
    refine aw_aload_n hC dX6_isWord__12 rfl ?_
    refine aw_bind rfl (fun q1 hq1 => ?_)
    refine aw_cNj hC dX6_isWord__13 cv_RX6_71 (am_some (inj := (fun r => (.inr (some (.long r)), h))) hq1 (A_X8_wordOf _ (hC.2.2.2.2.2.2.2.2.2.2.2.2.1) _ _ _ u1 hu1 h)) rfl rfl rfl rfl rfl ⟨rfl, rfl⟩ ?_
    refine aw_lcmp hC dX6_isWord__16 ?_
    refine aw_if_ne hC dX6_isWord__17 (tgt := 24) (by decide) ?_ ?_
    · refine aw_iconst hC dX6_isWord__24 (v := 0) (by decide) ?_
      exact aw_zret hC dX6_isWord__25 rfl (show _ = b2i false from rfl) rfl
    · refine aw_iconst hC dX6_isWord__20 (v := 1) (by decide) ?_
      refine aw_goto hC dX6_isWord__21 (tgt := 25) (by decide) ?_
      exact aw_zret hC dX6_isWord__25 rfl (show _ = b2i true from rfl) rfl
set_option maxHeartbeats 4000000 in
set_option maxRecDepth 100000 in
theorem A_X6_readWord (l : Launch) (hl0 : l.stackTraces = false) (D : va_G) (loc : Rf → Nat) (cy : Nat → ClassId) (u1 : Nat × List Int32) (hu1 : u1 ∈ TXT) (h : HD) : AM l D loc cy yX6_readWord cX6_readWord 2 (some .boolean) 6 184 [.ref (loc (4, 0, 0)), .ref (loc (10, u1.1, 0))] h ((jX6_readWord u1 h).map (fun r => (.inr (some (.int (b2i r.1))), r.2))) := by
  refine am_start (y := yX6_readWord) (av := [.ref (loc (4, 0, 0)), .ref (loc (10, u1.1, 0))]) (nL := 2) (h := h) (RF := fun (r : Option (Bool × HD)) => r.map (fun r => (.inr (some (.int (b2i r.1))), r.2))) (x := jX6_readWord u1 h) hl0 (by decide +kernel) rfl ?_
  intro p e R s m below meth c A hC
  unfold jX6_readWord
  refine aw_aload_n hC dX6_readWord_0 rfl ?_
  refine aw_bind rfl (fun q1 hq1 => ?_)
  refine aw_cVv hC dX6_readWord_1 cv_RX6_75 rfl rm_4_0_0 (am_some (inj := (fun r => (.inr (none), r))) hq1 (A_X6_advance _ (hC.2.2.2.2.2.2.2.2.2.2.2.2.1) _ _ _ h)) rfl rfl rfl rfl rfl ⟨rfl, rfl⟩ ?_
  refine aw_aload_n hC dX6_readWord_4 rfl ?_
  refine aw_aload_n hC dX6_readWord_5 rfl ?_
  refine aw_bind rfl (fun q2 hq2 => ?_)
  refine aw_cVb hC dX6_readWord_6 cv_RX6_78 rfl rm_4_0_0 (am_some (inj := (fun r => (.inr (some (.int (b2i r))), q1))) hq2 (A_X6_isWord_ _ (hC.2.2.2.2.2.2.2.2.2.2.2.2.1) _ _ _ u1 hu1 q1)) rfl rfl rfl rfl rfl ⟨rfl, rfl⟩ ?_
  refine aw_if_ne_b hC dX6_readWord_9 (tgt := 20) (by decide) ?_ ?_
  · refine aw_iconst hC dX6_readWord_20 (v := 1) (by decide) ?_
    refine aw_goto hC dX6_readWord_21 (tgt := 25) (by decide) ?_
    exact aw_zret hC dX6_readWord_25 rfl (show _ = b2i true from rfl) rfl
  · refine aw_aload_n hC dX6_readWord_12 rfl ?_
    refine aw_iconst hC dX6_readWord_13 (v := 1) (by decide) ?_
    refine aw_bind rfl (fun q3 hq3 => ?_)
    refine aw_cVb hC dX6_readWord_14 cv_RX6_82 rfl rm_4_0_0 (am_some (inj := (fun r => (.inr (some (.int (b2i r.1))), r.2))) hq3 (A_X6_fail _ (hC.2.2.2.2.2.2.2.2.2.2.2.2.1) _ _ _ (1 : Int32) q1)) rfl rfl rfl rfl rfl ⟨rfl, rfl⟩ ?_
    refine aw_if_eq_b hC dX6_readWord_17 (tgt := 24) (by decide) ?_ ?_
    · refine aw_iconst hC dX6_readWord_24 (v := 0) (by decide) ?_
      exact aw_zret hC dX6_readWord_25 rfl (show _ = b2i false from rfl) rfl
    · refine aw_iconst hC dX6_readWord_20 (v := 1) (by decide) ?_
      refine aw_goto hC dX6_readWord_21 (tgt := 25) (by decide) ?_
      exact aw_zret hC dX6_readWord_25 rfl (show _ = b2i true from rfl) rfl
set_option maxHeartbeats 4000000 in
set_option maxRecDepth 100000 in
theorem A_X8_readCar (l : Launch) (hl0 : l.stackTraces = false) (D : va_G) (loc : Rf → Nat) (cy : Nat → ClassId) (r1 : Nat) (hr1 : r1 < 10) (p2 : Int32) (h : HD) : AM l D loc cy yX8_readCar cX8_readCar 5 (some .boolean) 6 184 [.ref (loc (6, 0, 0)), .ref (loc (1, r1, 0)), .int p2] h ((jX8_readCar r1 p2 h).map (fun r => (.inr (some (.int (b2i r.1))), r.2))) := by
  refine am_start (y := yX8_readCar) (av := [.ref (loc (6, 0, 0)), .ref (loc (1, r1, 0)), .int p2]) (nL := 5) (h := h) (RF := fun (r : Option (Bool × HD)) => r.map (fun r => (.inr (some (.int (b2i r.1))), r.2))) (x := jX8_readCar r1 p2 h) hl0 (by decide +kernel) rfl ?_
  intro p e R s m below meth c A hC
  unfold jX8_readCar
  refine aw_aload_n hC dX8_readCar_0 rfl ?_
  refine aw_gfR hC dX8_readCar_1 fg_RX8_12 rfl rfl rm_6_0_0 ?_
  refine aw_ldcS hC dX8_readCar_4 (t := "car") (q := 199) (by decide +kernel) ?_
  refine aw_bind rfl (fun q1 hq1 => ?_)
  refine aw_cVb hC dX8_readCar_6 cv_RX8_189 rfl rm_4_0_0 (am_some (inj := (fun r => (.inr (some (.int (b2i r))), h))) hq1 (A_X6_isWord_ _ (hC.2.2.2.2.2.2.2.2.2.2.2.2.1) _ _ _ tx199 tx199_in h)) rfl rfl rfl rfl rfl ⟨rfl, rfl⟩ ?_
  refine aw_if_ne_b hC dX8_readCar_9 (tgt := 21) (by decide) ?_ ?_
  · refine aw_aload_n hC dX8_readCar_21 rfl ?_
    refine aw_gfR hC dX8_readCar_22 fg_RX8_12 rfl rfl rm_6_0_0 ?_
    refine aw_bind rfl (fun q2 hq2 => ?_)
    refine aw_cVb hC dX8_readCar_25 cv_RX8_212 rfl rm_4_0_0 (am_some (inj := (fun r => (.inr (some (.int (b2i r.1))), r.2))) hq2 (A_X6_readName _ (hC.2.2.2.2.2.2.2.2.2.2.2.2.1) _ _ _ h)) rfl rfl rfl rfl rfl ⟨rfl, rfl⟩ ?_
    refine aw_if_ne_b hC dX8_readCar_28 (tgt := 33) (by decide) ?_ ?_
    · refine aw_aload_n hC dX8_readCar_33 rfl ?_
      refine aw_gfR hC dX8_readCar_34 fg_RX8_12 rfl rfl rm_6_0_0 ?_
      refine aw_cVj hC dX8_readCar_37 cv_RX8_215 rfl rm_4_0_0 (A_X6_word _ (hC.2.2.2.2.2.2.2.2.2.2.2.2.1) _ _ _ q2.2) rfl rfl rfl rfl rfl ⟨rfl, rfl⟩ ?_
      refine aw_lstore_n hC dX8_readCar_40 (by decide) ?_
      refine aw_aload_n hC dX8_readCar_41 rfl ?_
      refine aw_lload_n hC dX8_readCar_42 rfl ?_
      refine aw_bind rfl (fun q3 hq3 => ?_)
      refine aw_cVi hC dX8_readCar_43 cv_RX8_219 rfl (rv_1_0 hr1) (am_some (inj := (fun r => (.inr (some (.int r)), q2.2))) hq3 (A_X2_carNamed _ (hC.2.2.2.2.2.2.2.2.2.2.2.2.1) _ _ _ r1 hr1 (jX6_word q2.2) q2.2)) rfl rfl rfl rfl rfl ⟨rfl, rfl⟩ ?_
      refine aw_iconst hC dX8_readCar_46 (v := -1) (by decide) ?_
      refine aw_icmp_eq hC dX8_readCar_47 (tgt := 59) (by decide) ?_ ?_
      · refine aw_aload_n hC dX8_readCar_59 rfl ?_
        refine aw_gfR hC dX8_readCar_60 fg_RX8_12 rfl rfl rm_6_0_0 ?_
        refine aw_iconst hC dX8_readCar_63 (v := 0) (by decide) ?_
        refine aw_iload_n hC dX8_readCar_64 rfl ?_
        refine aw_bind rfl (fun q4 hq4 => ?_)
        refine aw_cVb hC dX8_readCar_65 cv_RX8_173 rfl rm_4_0_0 (am_some (inj := (fun r => (.inr (some (.int (b2i r.1))), r.2))) hq4 (A_X6_readNumber _ (hC.2.2.2.2.2.2.2.2.2.2.2.2.1) _ _ _ (0 : Int32) p2 q2.2)) rfl rfl rfl rfl rfl ⟨rfl, rfl⟩ ?_
        refine aw_if_ne_b hC dX8_readCar_68 (tgt := 73) (by decide) ?_ ?_
        · refine aw_aload_n hC dX8_readCar_73 rfl ?_
          refine aw_lload_n hC dX8_readCar_74 rfl ?_
          refine aw_aload_n hC dX8_readCar_75 rfl ?_
          refine aw_gfR hC dX8_readCar_76 fg_RX8_12 rfl rfl rm_6_0_0 ?_
          refine aw_cVi hC dX8_readCar_79 cv_RX8_177 rfl rm_4_0_0 (A_X6_number _ (hC.2.2.2.2.2.2.2.2.2.2.2.2.1) _ _ _ q4.2) rfl rfl rfl rfl rfl ⟨rfl, rfl⟩ ?_
          refine aw_bind rfl (fun q5 hq5 => ?_)
          refine aw_cVv hC dX8_readCar_82 cv_RX8_223 rfl (rv_1_0 hr1) (am_some (inj := (fun r => (.inr (none), r))) hq5 (A_X2_add _ (hC.2.2.2.2.2.2.2.2.2.2.2.2.1) _ _ _ r1 hr1 (jX6_word q2.2) (jX6_number q4.2) q4.2)) rfl rfl rfl rfl rfl ⟨rfl, rfl⟩ ?_
          refine aw_aload_n hC dX8_readCar_85 rfl ?_
          refine aw_gfR hC dX8_readCar_86 fg_RX8_12 rfl rfl rm_6_0_0 ?_
          refine aw_bipush hC dX8_readCar_89 (v := 59) (by decide) ?_
          refine aw_bind rfl (fun q6 hq6 => ?_)
          refine aw_cVb hC dX8_readCar_91 cv_RX8_180 rfl rm_4_0_0 (am_some (inj := (fun r => (.inr (some (.int (b2i r.1))), r.2))) hq6 (A_X6_readMark _ (hC.2.2.2.2.2.2.2.2.2.2.2.2.1) _ _ _ (59 : Int32) q5)) rfl rfl rfl rfl rfl ⟨rfl, rfl⟩ ?_
          refine aw_if_ne_b hC dX8_readCar_94 (tgt := 99) (by decide) ?_ ?_
          · refine aw_aload_n hC dX8_readCar_99 rfl ?_
            refine aw_gfR hC dX8_readCar_100 fg_RX8_12 rfl rfl rm_6_0_0 ?_
            refine aw_bind rfl (fun q7 hq7 => ?_)
            refine aw_cVv hC dX8_readCar_103 cv_RX8_184 rfl rm_4_0_0 (am_some (inj := (fun r => (.inr (none), r))) hq7 (A_X6_advance _ (hC.2.2.2.2.2.2.2.2.2.2.2.2.1) _ _ _ q6.2)) rfl rfl rfl rfl rfl ⟨rfl, rfl⟩ ?_
            refine aw_iconst hC dX8_readCar_106 (v := 1) (by decide) ?_
            exact aw_zret hC dX8_readCar_107 rfl (show _ = b2i true from rfl) rfl
          · refine aw_iconst hC dX8_readCar_97 (v := 0) (by decide) ?_
            exact aw_zret hC dX8_readCar_98 rfl (show _ = b2i false from rfl) rfl
        · refine aw_iconst hC dX8_readCar_71 (v := 0) (by decide) ?_
          exact aw_zret hC dX8_readCar_72 rfl (show _ = b2i false from rfl) rfl
      · refine aw_aload_n hC dX8_readCar_50 rfl ?_
        refine aw_gfR hC dX8_readCar_51 fg_RX8_12 rfl rfl rm_6_0_0 ?_
        refine aw_iconst hC dX8_readCar_54 (v := 3) (by decide) ?_
        refine aw_bind rfl (fun q8 hq8 => ?_)
        refine aw_cVb hC dX8_readCar_55 cv_RX8_201 rfl rm_4_0_0 (am_some (inj := (fun r => (.inr (some (.int (b2i r.1))), r.2))) hq8 (A_X6_fail _ (hC.2.2.2.2.2.2.2.2.2.2.2.2.1) _ _ _ (3 : Int32) q2.2)) rfl rfl rfl rfl rfl ⟨rfl, rfl⟩ ?_
        exact aw_zret hC dX8_readCar_58 rfl (show _ = b2i q8.1 from rfl) rfl
    · refine aw_iconst hC dX8_readCar_31 (v := 0) (by decide) ?_
      exact aw_zret hC dX8_readCar_32 rfl (show _ = b2i false from rfl) rfl
  · refine aw_aload_n hC dX8_readCar_12 rfl ?_
    refine aw_gfR hC dX8_readCar_13 fg_RX8_12 rfl rfl rm_6_0_0 ?_
    refine aw_iconst hC dX8_readCar_16 (v := 1) (by decide) ?_
    refine aw_bind rfl (fun q9 hq9 => ?_)
    refine aw_cVb hC dX8_readCar_17 cv_RX8_201 rfl rm_4_0_0 (am_some (inj := (fun r => (.inr (some (.int (b2i r.1))), r.2))) hq9 (A_X6_fail _ (hC.2.2.2.2.2.2.2.2.2.2.2.2.1) _ _ _ (1 : Int32) h)) rfl rfl rfl rfl rfl ⟨rfl, rfl⟩ ?_
    exact aw_zret hC dX8_readCar_20 rfl (show _ = b2i q9.1 from rfl) rfl
set_option maxHeartbeats 4000000 in
set_option maxRecDepth 100000 in
theorem L_X8_readSystem_84 (r1 : Nat) (hr1 : r1 < 10) (x2 : Int32) (k106 : HD → Option (Bool × HD)) (hC : Cx p l e R s m args meth c D loc cy A cX8_readSystem 4 (some .boolean) RX8 7 208 0 0) (hk106 : ∀  (h2 : HD), AW p l e R s m args below meth c D loc cy A 4 (QM below D loc cy A args s) (fun (r : Option (Bool × HD)) => r.map (fun r => (.inr (some (.int (b2i r.1))), r.2))) (0, 0) 106 [(0, .ref (loc (6, 0, 0)))] [] h2 (k106  h2)) : ∀ (n84 : Nat) (x3 : Int32) (h : HD), AW p l e R s m args below meth c D loc cy A 4 (QM below D loc cy A args s) (fun (r : Option (Bool × HD)) => r.map (fun r => (.inr (some (.int (b2i r.1))), r.2))) (0, 0) 84 [(0, .ref (loc (6, 0, 0))), (1, .ref (loc (1, r1, 0))), (2, .int x2), (3, .int x3)] [] h (jX8_readSystem_L84 r1 x2 k106 n84 x3 h) := by
  intro n84
  induction n84 with
  | zero => intro x3 h; exact aw_none rfl
  | succ n84 ih84 =>
    intro x3 h
    rw [jX8_readSystem_L84]
    refine aw_iload_n hC dX8_readSystem_84 rfl ?_
    refine aw_iload_n hC dX8_readSystem_85 rfl ?_
    refine aw_icmp_ge hC dX8_readSystem_86 (tgt := 106) (by decide) ?_ ?_
    · refine aw_sub [0] ?_
      exact hk106 h
    · refine aw_aload_n hC dX8_readSystem_89 rfl ?_
      refine aw_aload_n hC dX8_readSystem_90 rfl ?_
      refine aw_iload_n hC dX8_readSystem_91 rfl ?_
      refine aw_bind rfl (fun q7 hq7 => ?_)
      refine aw_cVb hC dX8_readSystem_92 cv_RX8_195 rfl rm_6_0_0 (am_some (inj := (fun r => (.inr (some (.int (b2i r.1))), r.2))) hq7 (A_X8_readCar _ (hC.2.2.2.2.2.2.2.2.2.2.2.2.1) _ _ _ r1 hr1 x2 h)) rfl rfl rfl rfl rfl ⟨rfl, rfl⟩ ?_
      refine aw_if_ne_b hC dX8_readSystem_95 (tgt := 100) (by decide) ?_ ?_
      · refine aw_iinc hC dX8_readSystem_100 rfl (v := x3 + 1) (by first | rfl | decide) (by decide) ?_
        refine aw_goto hC dX8_readSystem_103 (tgt := 84) (by decide) ?_
        refine aw_sub [0, 1, 2, 3] ?_
        exact ih84 (x3 + 1) q7.2
      · refine aw_iconst hC dX8_readSystem_98 (v := 0) (by decide) ?_
        exact aw_zret hC dX8_readSystem_99 rfl (show _ = b2i false from rfl) rfl
set_option maxHeartbeats 4000000 in
set_option maxRecDepth 100000 in
theorem A_X8_readSystem (l : Launch) (hl0 : l.stackTraces = false) (D : va_G) (loc : Rf → Nat) (cy : Nat → ClassId) (r1 : Nat) (hr1 : r1 < 10) (h : HD) : AM l D loc cy yX8_readSystem cX8_readSystem 4 (some .boolean) 7 208 [.ref (loc (6, 0, 0)), .ref (loc (1, r1, 0))] h ((jX8_readSystem r1 h).map (fun r => (.inr (some (.int (b2i r.1))), r.2))) := by
  refine am_start (y := yX8_readSystem) (av := [.ref (loc (6, 0, 0)), .ref (loc (1, r1, 0))]) (nL := 4) (h := h) (RF := fun (r : Option (Bool × HD)) => r.map (fun r => (.inr (some (.int (b2i r.1))), r.2))) (x := jX8_readSystem r1 h) hl0 (by decide +kernel) rfl ?_
  intro p e R s m below meth c A hC
  unfold jX8_readSystem
  refine aw_aload_n hC dX8_readSystem_0 rfl ?_
  refine aw_bind rfl (fun q1 hq1 => ?_)
  refine aw_cVv hC dX8_readSystem_1 cv_RX8_164 rfl (rv_1_0 hr1) (am_some (inj := (fun r => (.inr (none), r))) hq1 (A_X2_empty _ (hC.2.2.2.2.2.2.2.2.2.2.2.2.1) _ _ _ r1 hr1 h)) rfl rfl rfl rfl rfl ⟨rfl, rfl⟩ ?_
  refine aw_aload_n hC dX8_readSystem_4 rfl ?_
  refine aw_gfR hC dX8_readSystem_5 fg_RX8_12 rfl rfl rm_6_0_0 ?_
  refine aw_ldcS hC dX8_readSystem_8 (t := "park") (q := 167) (by decide +kernel) ?_
  refine aw_bind rfl (fun q2 hq2 => ?_)
  refine aw_cVb hC dX8_readSystem_10 cv_RX8_169 rfl rm_4_0_0 (am_some (inj := (fun r => (.inr (some (.int (b2i r.1))), r.2))) hq2 (A_X6_readWord _ (hC.2.2.2.2.2.2.2.2.2.2.2.2.1) _ _ _ tx167 tx167_in q1)) rfl rfl rfl rfl rfl ⟨rfl, rfl⟩ ?_
  refine aw_if_eq_b hC dX8_readSystem_13 (tgt := 29) (by decide) ?_ ?_
  · refine aw_iconst hC dX8_readSystem_29 (v := 0) (by decide) ?_
    exact aw_zret hC dX8_readSystem_30 rfl (show _ = b2i false from rfl) rfl
  · refine aw_aload_n hC dX8_readSystem_16 rfl ?_
    refine aw_gfR hC dX8_readSystem_17 fg_RX8_12 rfl rfl rm_6_0_0 ?_
    refine aw_iconst hC dX8_readSystem_20 (v := 0) (by decide) ?_
    refine aw_bipush hC dX8_readSystem_21 (v := 11) (by decide) ?_
    refine aw_bind rfl (fun q3 hq3 => ?_)
    refine aw_cVb hC dX8_readSystem_23 cv_RX8_173 rfl rm_4_0_0 (am_some (inj := (fun r => (.inr (some (.int (b2i r.1))), r.2))) hq3 (A_X6_readNumber _ (hC.2.2.2.2.2.2.2.2.2.2.2.2.1) _ _ _ (0 : Int32) (11 : Int32) q2.2)) rfl rfl rfl rfl rfl ⟨rfl, rfl⟩ ?_
    refine aw_if_ne_b hC dX8_readSystem_26 (tgt := 31) (by decide) ?_ ?_
    · refine aw_aload_n hC dX8_readSystem_31 rfl ?_
      refine aw_gfR hC dX8_readSystem_32 fg_RX8_12 rfl rfl rm_6_0_0 ?_
      refine aw_cVi hC dX8_readSystem_35 cv_RX8_177 rfl rm_4_0_0 (A_X6_number _ (hC.2.2.2.2.2.2.2.2.2.2.2.2.1) _ _ _ q3.2) rfl rfl rfl rfl rfl ⟨rfl, rfl⟩ ?_
      refine aw_istore_n hC dX8_readSystem_38 (by decide) ?_
      refine aw_aload_n hC dX8_readSystem_39 rfl ?_
      refine aw_gfR hC dX8_readSystem_40 fg_RX8_12 rfl rfl rm_6_0_0 ?_
      refine aw_bipush hC dX8_readSystem_43 (v := 59) (by decide) ?_
      refine aw_bind rfl (fun q4 hq4 => ?_)
      refine aw_cVb hC dX8_readSystem_45 cv_RX8_180 rfl rm_4_0_0 (am_some (inj := (fun r => (.inr (some (.int (b2i r.1))), r.2))) hq4 (A_X6_readMark _ (hC.2.2.2.2.2.2.2.2.2.2.2.2.1) _ _ _ (59 : Int32) q3.2)) rfl rfl rfl rfl rfl ⟨rfl, rfl⟩ ?_
      refine aw_if_ne_b hC dX8_readSystem_48 (tgt := 53) (by decide) ?_ ?_
      · refine aw_aload_n hC dX8_readSystem_53 rfl ?_
        refine aw_gfR hC dX8_readSystem_54 fg_RX8_12 rfl rfl rm_6_0_0 ?_
        refine aw_bind rfl (fun q5 hq5 => ?_)
        refine aw_cVv hC dX8_readSystem_57 cv_RX8_184 rfl rm_4_0_0 (am_some (inj := (fun r => (.inr (none), r))) hq5 (A_X6_advance _ (hC.2.2.2.2.2.2.2.2.2.2.2.2.1) _ _ _ q4.2)) rfl rfl rfl rfl rfl ⟨rfl, rfl⟩ ?_
        refine aw_aload_n hC dX8_readSystem_60 rfl ?_
        refine aw_gfR hC dX8_readSystem_61 fg_RX8_12 rfl rfl rm_6_0_0 ?_
        refine aw_ldcS hC dX8_readSystem_64 (t := "back") (q := 187) (by decide +kernel) ?_
        refine aw_bind rfl (fun q6 hq6 => ?_)
        refine aw_cVb hC dX8_readSystem_66 cv_RX8_189 rfl rm_4_0_0 (am_some (inj := (fun r => (.inr (some (.int (b2i r))), q5))) hq6 (A_X6_isWord_ _ (hC.2.2.2.2.2.2.2.2.2.2.2.2.1) _ _ _ tx187 tx187_in q5)) rfl rfl rfl rfl rfl ⟨rfl, rfl⟩ ?_
        refine aw_if_eq_b hC dX8_readSystem_69 (tgt := 82) (by decide) ?_ ?_
        · refine aw_iconst hC dX8_readSystem_82 (v := 0) (by decide) ?_
          refine aw_istore_n hC dX8_readSystem_83 (by decide) ?_
          refine aw_sub [0, 1, 2, 3] ?_
          refine L_X8_readSystem_84 r1 hr1 (jX6_number q3.2) _ hC ?_ FU (0 : Int32) q5
          · intro h8
            refine aw_aload_n hC dX8_readSystem_106 rfl ?_
            refine aw_gfR hC dX8_readSystem_107 fg_RX8_12 rfl rfl rm_6_0_0 ?_
            refine aw_ldcS hC dX8_readSystem_110 (t := "car") (q := 199) (by decide +kernel) ?_
            refine aw_bind rfl (fun q9 hq9 => ?_)
            refine aw_cVb hC dX8_readSystem_112 cv_RX8_189 rfl rm_4_0_0 (am_some (inj := (fun r => (.inr (some (.int (b2i r))), h8))) hq9 (A_X6_isWord_ _ (hC.2.2.2.2.2.2.2.2.2.2.2.2.1) _ _ _ tx199 tx199_in h8)) rfl rfl rfl rfl rfl ⟨rfl, rfl⟩ ?_
            refine aw_if_eq_b hC dX8_readSystem_115 (tgt := 127) (by decide) ?_ ?_
            · refine aw_aload_n hC dX8_readSystem_127 rfl ?_
              refine aw_gfR hC dX8_readSystem_128 fg_RX8_12 rfl rfl rm_6_0_0 ?_
              refine aw_cVb hC dX8_readSystem_131 cv_RX8_205 rfl rm_4_0_0 (A_X6_isEnd _ (hC.2.2.2.2.2.2.2.2.2.2.2.2.1) _ _ _ h8) rfl rfl rfl rfl rfl ⟨rfl, rfl⟩ ?_
              refine aw_if_ne_b hC dX8_readSystem_134 (tgt := 148) (by decide) ?_ ?_
              · refine aw_iconst hC dX8_readSystem_148 (v := 1) (by decide) ?_
                refine aw_goto hC dX8_readSystem_149 (tgt := 153) (by decide) ?_
                exact aw_zret hC dX8_readSystem_153 rfl (show _ = b2i true from rfl) rfl
              · refine aw_aload_n hC dX8_readSystem_137 rfl ?_
                refine aw_gfR hC dX8_readSystem_138 fg_RX8_12 rfl rfl rm_6_0_0 ?_
                refine aw_iconst hC dX8_readSystem_141 (v := 1) (by decide) ?_
                refine aw_bind rfl (fun q10 hq10 => ?_)
                refine aw_cVb hC dX8_readSystem_142 cv_RX8_201 rfl rm_4_0_0 (am_some (inj := (fun r => (.inr (some (.int (b2i r.1))), r.2))) hq10 (A_X6_fail _ (hC.2.2.2.2.2.2.2.2.2.2.2.2.1) _ _ _ (1 : Int32) h8)) rfl rfl rfl rfl rfl ⟨rfl, rfl⟩ ?_
                refine aw_if_eq_b hC dX8_readSystem_145 (tgt := 152) (by decide) ?_ ?_
                · refine aw_iconst hC dX8_readSystem_152 (v := 0) (by decide) ?_
                  exact aw_zret hC dX8_readSystem_153 rfl (show _ = b2i false from rfl) rfl
                · refine aw_iconst hC dX8_readSystem_148 (v := 1) (by decide) ?_
                  refine aw_goto hC dX8_readSystem_149 (tgt := 153) (by decide) ?_
                  exact aw_zret hC dX8_readSystem_153 rfl (show _ = b2i true from rfl) rfl
            · refine aw_aload_n hC dX8_readSystem_118 rfl ?_
              refine aw_gfR hC dX8_readSystem_119 fg_RX8_12 rfl rfl rm_6_0_0 ?_
              refine aw_iconst hC dX8_readSystem_122 (v := 5) (by decide) ?_
              refine aw_bind rfl (fun q11 hq11 => ?_)
              refine aw_cVb hC dX8_readSystem_123 cv_RX8_201 rfl rm_4_0_0 (am_some (inj := (fun r => (.inr (some (.int (b2i r.1))), r.2))) hq11 (A_X6_fail _ (hC.2.2.2.2.2.2.2.2.2.2.2.2.1) _ _ _ (5 : Int32) h8)) rfl rfl rfl rfl rfl ⟨rfl, rfl⟩ ?_
              exact aw_zret hC dX8_readSystem_126 rfl (show _ = b2i q11.1 from rfl) rfl
        · refine aw_aload_n hC dX8_readSystem_72 rfl ?_
          refine aw_aload_n hC dX8_readSystem_73 rfl ?_
          refine aw_bind rfl (fun q12 hq12 => ?_)
          refine aw_cVb hC dX8_readSystem_74 cv_RX8_192 rfl rm_6_0_0 (am_some (inj := (fun r => (.inr (some (.int (b2i r.1))), r.2))) hq12 (A_X8_readBack _ (hC.2.2.2.2.2.2.2.2.2.2.2.2.1) _ _ _ r1 hr1 q5)) rfl rfl rfl rfl rfl ⟨rfl, rfl⟩ ?_
          refine aw_if_ne_b hC dX8_readSystem_77 (tgt := 82) (by decide) ?_ ?_
          · refine aw_iconst hC dX8_readSystem_82 (v := 0) (by decide) ?_
            refine aw_istore_n hC dX8_readSystem_83 (by decide) ?_
            refine aw_sub [0, 1, 2, 3] ?_
            refine L_X8_readSystem_84 r1 hr1 (jX6_number q3.2) _ hC ?_ FU (0 : Int32) q12.2
            · intro h14
              refine aw_aload_n hC dX8_readSystem_106 rfl ?_
              refine aw_gfR hC dX8_readSystem_107 fg_RX8_12 rfl rfl rm_6_0_0 ?_
              refine aw_ldcS hC dX8_readSystem_110 (t := "car") (q := 199) (by decide +kernel) ?_
              refine aw_bind rfl (fun q15 hq15 => ?_)
              refine aw_cVb hC dX8_readSystem_112 cv_RX8_189 rfl rm_4_0_0 (am_some (inj := (fun r => (.inr (some (.int (b2i r))), h14))) hq15 (A_X6_isWord_ _ (hC.2.2.2.2.2.2.2.2.2.2.2.2.1) _ _ _ tx199 tx199_in h14)) rfl rfl rfl rfl rfl ⟨rfl, rfl⟩ ?_
              refine aw_if_eq_b hC dX8_readSystem_115 (tgt := 127) (by decide) ?_ ?_
              · refine aw_aload_n hC dX8_readSystem_127 rfl ?_
                refine aw_gfR hC dX8_readSystem_128 fg_RX8_12 rfl rfl rm_6_0_0 ?_
                refine aw_cVb hC dX8_readSystem_131 cv_RX8_205 rfl rm_4_0_0 (A_X6_isEnd _ (hC.2.2.2.2.2.2.2.2.2.2.2.2.1) _ _ _ h14) rfl rfl rfl rfl rfl ⟨rfl, rfl⟩ ?_
                refine aw_if_ne_b hC dX8_readSystem_134 (tgt := 148) (by decide) ?_ ?_
                · refine aw_iconst hC dX8_readSystem_148 (v := 1) (by decide) ?_
                  refine aw_goto hC dX8_readSystem_149 (tgt := 153) (by decide) ?_
                  exact aw_zret hC dX8_readSystem_153 rfl (show _ = b2i true from rfl) rfl
                · refine aw_aload_n hC dX8_readSystem_137 rfl ?_
                  refine aw_gfR hC dX8_readSystem_138 fg_RX8_12 rfl rfl rm_6_0_0 ?_
                  refine aw_iconst hC dX8_readSystem_141 (v := 1) (by decide) ?_
                  refine aw_bind rfl (fun q16 hq16 => ?_)
                  refine aw_cVb hC dX8_readSystem_142 cv_RX8_201 rfl rm_4_0_0 (am_some (inj := (fun r => (.inr (some (.int (b2i r.1))), r.2))) hq16 (A_X6_fail _ (hC.2.2.2.2.2.2.2.2.2.2.2.2.1) _ _ _ (1 : Int32) h14)) rfl rfl rfl rfl rfl ⟨rfl, rfl⟩ ?_
                  refine aw_if_eq_b hC dX8_readSystem_145 (tgt := 152) (by decide) ?_ ?_
                  · refine aw_iconst hC dX8_readSystem_152 (v := 0) (by decide) ?_
                    exact aw_zret hC dX8_readSystem_153 rfl (show _ = b2i false from rfl) rfl
                  · refine aw_iconst hC dX8_readSystem_148 (v := 1) (by decide) ?_
                    refine aw_goto hC dX8_readSystem_149 (tgt := 153) (by decide) ?_
                    exact aw_zret hC dX8_readSystem_153 rfl (show _ = b2i true from rfl) rfl
              · refine aw_aload_n hC dX8_readSystem_118 rfl ?_
                refine aw_gfR hC dX8_readSystem_119 fg_RX8_12 rfl rfl rm_6_0_0 ?_
                refine aw_iconst hC dX8_readSystem_122 (v := 5) (by decide) ?_
                refine aw_bind rfl (fun q17 hq17 => ?_)
                refine aw_cVb hC dX8_readSystem_123 cv_RX8_201 rfl rm_4_0_0 (am_some (inj := (fun r => (.inr (some (.int (b2i r.1))), r.2))) hq17 (A_X6_fail _ (hC.2.2.2.2.2.2.2.2.2.2.2.2.1) _ _ _ (5 : Int32) h14)) rfl rfl rfl rfl rfl ⟨rfl, rfl⟩ ?_
                exact aw_zret hC dX8_readSystem_126 rfl (show _ = b2i q17.1 from rfl) rfl
          · refine aw_iconst hC dX8_readSystem_80 (v := 0) (by decide) ?_
            exact aw_zret hC dX8_readSystem_81 rfl (show _ = b2i false from rfl) rfl
      · refine aw_iconst hC dX8_readSystem_51 (v := 0) (by decide) ?_
        exact aw_zret hC dX8_readSystem_52 rfl (show _ = b2i false from rfl) rfl
    · refine aw_iconst hC dX8_readSystem_29 (v := 0) (by decide) ?_
      exact aw_zret hC dX8_readSystem_30 rfl (show _ = b2i false from rfl) rfl
set_option maxHeartbeats 4000000 in
set_option maxRecDepth 100000 in
theorem A_X8_readText (l : Launch) (hl0 : l.stackTraces = false) (D : va_G) (loc : Rf → Nat) (cy : Nat → ClassId)  (h : HD) : AX l D loc cy yX8_readText (Cond.code yX8_readText cX8_readText 2 (some .int) :: LW) 8 231 1 6 [.ref (loc (6, 0, 0))] h ((jX8_readText h).map (fun r => (xi (fun v => some (.int v)) r.1, r.2))) := by
  refine ax_start (y := yX8_readText) (av := [.ref (loc (6, 0, 0))]) (nL := 2) (h := h) (RF := fun (r : Option ((Nat ⊕ Int32) × HD)) => r.map (fun r => (xi (fun v => some (.int v)) r.1, r.2))) (x := jX8_readText h) hl0 (by decide +kernel) rfl ?_
  intro p e R s m below meth c A hxt hC
  unfold jX8_readText
  refine aw_aload_n hC dX8_readText_0 rfl ?_
  refine aw_gfR hC dX8_readText_1 fg_RX8_12 rfl rfl rm_6_0_0 ?_
  refine aw_bind rfl (fun q1 hq1 => ?_)
  refine aw_cVv hC dX8_readText_4 cv_RX8_122 rfl rm_4_0_0 (am_some (inj := (fun r => (.inr (none), r))) hq1 (A_X6_begin _ (hC.2.2.2.2.2.2.2.2.2.2.2.2.1) _ _ _ h)) rfl rfl rfl rfl rfl ⟨rfl, rfl⟩ ?_
  refine aw_aload_n hC dX8_readText_7 rfl ?_
  refine aw_aload_n hC dX8_readText_8 rfl ?_
  refine aw_gfR hC dX8_readText_9 fg_RX8_46 rfl rfl rm_6_0_0 ?_
  refine aw_bind rfl (fun q2 hq2 => ?_)
  refine aw_cVb hC dX8_readText_12 cv_RX8_125 rfl rm_6_0_0 (am_some (inj := (fun r => (.inr (some (.int (b2i r.1))), r.2))) hq2 (A_X8_readSystem _ (hC.2.2.2.2.2.2.2.2.2.2.2.2.1) _ _ _ 1 (by decide) q1)) rfl rfl rfl rfl rfl ⟨rfl, rfl⟩ ?_
  refine aw_istore_n hC dX8_readText_15 (by decide) ?_
  refine aw_aload_n hC dX8_readText_16 rfl ?_
  refine aw_bind rfl (fun q3 hq3 => ?_)
  refine aw_cVv hC dX8_readText_17 cv_RX8_129 rfl rm_6_0_0 (am_some (inj := (fun r => (.inr (none), r))) hq3 (A_X8_endReading _ (hC.2.2.2.2.2.2.2.2.2.2.2.2.1) _ _ _ q2.2)) rfl rfl rfl rfl rfl ⟨rfl, rfl⟩ ?_
  refine aw_iload_n hC dX8_readText_20 rfl ?_
  refine aw_if_ne_b hC dX8_readText_21 (tgt := 34) (by decide) ?_ ?_
  · refine aw_aload_n hC dX8_readText_34 rfl ?_
    refine aw_gfR hC dX8_readText_35 fg_RX8_42 rfl rfl rm_6_0_0 ?_
    refine aw_aload_n hC dX8_readText_38 rfl ?_
    refine aw_gfR hC dX8_readText_39 fg_RX8_46 rfl rfl rm_6_0_0 ?_
    refine aw_bind rfl (fun q4 hq4 => ?_)
    refine aw_cVv hC dX8_readText_42 cv_RX8_134 rfl rm_1_0_0 (am_some (inj := (fun r => (.inr (none), r))) hq4 (A_X2_copyFrom _ (hC.2.2.2.2.2.2.2.2.2.2.2.2.1) _ _ _ 0 (by decide) 1 (by decide) q3)) rfl rfl rfl rfl rfl ⟨rfl, rfl⟩ ?_
    refine aw_aload_n hC dX8_readText_45 rfl ?_
    refine aw_iconst hC dX8_readText_46 (v := 0) (by decide) ?_
    refine aw_pfI hC dX8_readText_47 fg_RX8_80 fp_6_13 rfl rm_6_0_0 (fun h5 => ?_)
    refine aw_aload_n hC dX8_readText_50 rfl ?_
    refine aw_gfR hC dX8_readText_51 fg_RX8_42 rfl rfl rm_6_0_0 ?_
    refine aw_cVi hC dX8_readText_54 cv_RX8_138 rfl rm_1_0_0 (A_X2_count _ (hC.2.2.2.2.2.2.2.2.2.2.2.2.1) _ _ _ 0 (by decide) h5) rfl rfl rfl rfl rfl ⟨rfl, rfl⟩ ?_
    exact aw_ireX hC dX8_readText_57 rfl rfl rfl rfl
  · exact aw_throw1 (text := "the text is no system") (sid := 132) hC hxt dX8_readText_24 dX8_readText_27 dX8_readText_28 dX8_readText_30 dX8_readText_33 tw4_35 tw1_13 (by decide +kernel) rfl rfl rfl rfl rfl rfl rfl
set_option maxHeartbeats 4000000 in
set_option maxRecDepth 100000 in
theorem L_X3_withWord_10 (p1 : Int64) (h : HD) (hC : Cx p l e R s m args meth c D loc cy A cX3_withWord 6 (some (.object "ParkingCircle$Command")) RX3 5 163 0 0)  : ∀ (n10 : Nat) (x4 : Int32), AW p l e R s m args below meth c D loc cy A 6 (QM below D loc cy A args s) (fun (r : Option (Option Nat)) => r.map (fun r => (.inr (some (cmv loc r)), h))) (0, 0) 10 [(0, .long p1), (2, .ref (loc (9, 0, 1))), (3, .int (9 : Int32)), (4, .int x4)] [] h (jX3_withWord_L10 p1 h n10 x4) := by
  intro n10
  induction n10 with
  | zero => intro x4; exact aw_none rfl
  | succ n10 ih10 =>
    intro x4
    rw [jX3_withWord_L10]
    refine aw_iload hC dX3_withWord_10 rfl ?_
    refine aw_iload_n hC dX3_withWord_12 rfl ?_
    refine aw_icmp_ge hC dX3_withWord_13 (tgt := 44) (by decide) ?_ ?_
    · refine aw_null hC dX3_withWord_44 ?_
      exact aw_aret hC dX3_withWord_45 rfl (Or.inl ⟨_, rfl⟩) (Or.inl rfl) rfl
    · refine aw_aload_n hC dX3_withWord_16 rfl ?_
      refine aw_iload hC dX3_withWord_17 rfl ?_
      refine aw_guard rfl (fun g1 => ?_)
      refine aw_allld hC dX3_withWord_19 g1 ?_
      refine aw_astore hC dX3_withWord_20 (by decide) ?_
      refine aw_aload hC dX3_withWord_22 rfl ?_
      refine aw_gfO hC dX3_withWord_24 tw10_24 (st_txt (cx_st hC) (inB_lt g1)) ?_
      refine aw_bind rfl (fun q2 hq2 => ?_)
      refine aw_cNj hC dX3_withWord_27 cv_RX3_64 (am_some (inj := (fun r => (.inr (some (.long r)), h))) hq2 (A_X8_wordOf _ (hC.2.2.2.2.2.2.2.2.2.2.2.2.1) _ _ _ (txC x4.toNatClampNeg) (txC_in (inB_lt g1)) h)) rfl rfl rfl rfl rfl ⟨rfl, rfl⟩ ?_
      refine aw_lload_n hC dX3_withWord_30 rfl ?_
      refine aw_lcmp hC dX3_withWord_31 ?_
      refine aw_if_ne hC dX3_withWord_32 (tgt := 38) (by decide) ?_ ?_
      · refine aw_iinc hC dX3_withWord_38 rfl (v := x4 + 1) (by first | rfl | decide) (by decide) ?_
        refine aw_goto hC dX3_withWord_41 (tgt := 10) (by decide) ?_
        refine aw_sub [0, 2, 3, 4] ?_
        exact ih10 (x4 + 1)
      · refine aw_aload hC dX3_withWord_35 rfl ?_
        exact aw_aret hC dX3_withWord_37 rfl (Or.inl ⟨_, rfl⟩) (Or.inr ⟨_, rfl⟩) rfl
set_option maxHeartbeats 4000000 in
set_option maxRecDepth 100000 in
theorem A_X3_withWord (l : Launch) (hl0 : l.stackTraces = false) (D : va_G) (loc : Rf → Nat) (cy : Nat → ClassId) (p1 : Int64) (h : HD) : AM l D loc cy yX3_withWord cX3_withWord 6 (some (.object "ParkingCircle$Command")) 5 163 [.long p1] h ((jX3_withWord p1 h).map (fun r => (.inr (some (cmv loc r)), h))) := by
  refine am_start (y := yX3_withWord) (av := [.long p1]) (nL := 6) (h := h) (RF := fun (r : Option (Option Nat)) => r.map (fun r => (.inr (some (cmv loc r)), h))) (x := jX3_withWord p1 h) hl0 (by decide +kernel) rfl ?_
  intro p e R s m below meth c A hC
  unfold jX3_withWord
  refine aw_gsO hC dX3_withWord_0 tw5_19 (st_all (cx_st hC)).1 ?_
  refine aw_astore_n hC dX3_withWord_3 (by decide) ?_
  refine aw_aload_n hC dX3_withWord_4 rfl ?_
  refine aw_alllen hC dX3_withWord_5 ?_
  refine aw_istore_n hC dX3_withWord_6 (by decide) ?_
  refine aw_iconst hC dX3_withWord_7 (v := 0) (by decide) ?_
  refine aw_istore hC dX3_withWord_8 (by decide) ?_
  refine aw_sub [0, 2, 3, 4] ?_
  exact L_X3_withWord_10 p1 h  hC FU (0 : Int32)
set_option maxHeartbeats 4000000 in
set_option maxRecDepth 100000 in
theorem A_X5_readParts (l : Launch) (hl0 : l.stackTraces = false) (D : va_G) (loc : Rf → Nat) (cy : Nat → ClassId) (c2 : Nat) (hc2 : c2 < 9) (p3 : Int32) (h : HD) : AM l D loc cy yX5_readParts cX5_readParts 5 (some .boolean) 4 102 [.ref (loc (3, 0, 0)), .ref (loc (4, 0, 0)), .ref (loc (9, c2, 0)), .int p3] h ((jX5_readParts c2 p3 h).map (fun r => (.inr (some (.int (b2i r.1))), r.2))) := by
  refine am_start (y := yX5_readParts) (av := [.ref (loc (3, 0, 0)), .ref (loc (4, 0, 0)), .ref (loc (9, c2, 0)), .int p3]) (nL := 5) (h := h) (RF := fun (r : Option (Bool × HD)) => r.map (fun r => (.inr (some (.int (b2i r.1))), r.2))) (x := jX5_readParts c2 p3 h) hl0 (by decide +kernel) rfl ?_
  intro p e R s m below meth c A hC
  unfold jX5_readParts
  refine aw_aload_n hC dX5_readParts_0 rfl ?_
  refine aw_gfN (host := "ParkingCircle") hC dX5_readParts_1 (st_cmN (cx_st hC) hc2) (by decide +kernel) ?_
  refine aw_if_eq hC dX5_readParts_4 (tgt := 26) (by decide) ?_ ?_
  · refine aw_aload_n hC dX5_readParts_26 rfl ?_
    refine aw_gfN (host := "ParkingCircle") hC dX5_readParts_27 (st_cmV (cx_st hC) hc2) (by decide +kernel) ?_
    refine aw_if_eq hC dX5_readParts_30 (tgt := 89) (by decide) ?_ ?_
    · refine aw_iconst hC dX5_readParts_89 (v := 1) (by decide) ?_
      exact aw_zret hC dX5_readParts_90 rfl (show _ = b2i true from rfl) rfl
    · refine aw_aload_n hC dX5_readParts_33 rfl ?_
      refine aw_gsO hC dX5_readParts_34 tw5_23 (st_rep (cx_st hC)) ?_
      refine aw_acmpne hC dX5_readParts_37 (tgt := 44) (by decide) hc2 (by decide) ?_ ?_
      · refine aw_iconst hC dX5_readParts_44 (v := 0) (by decide) ?_
        refine aw_istore hC dX5_readParts_45 (by decide) ?_
        refine aw_aload_n hC dX5_readParts_47 rfl ?_
        refine aw_iload hC dX5_readParts_48 rfl ?_
        refine aw_if_eq_t hC dX5_readParts_50 (tgt := 57) (by decide) (by decide) ?_
        refine aw_iconst hC dX5_readParts_57 (v := 0) (by decide) ?_
        refine aw_iload hC dX5_readParts_58 rfl ?_
        refine aw_if_eq_t hC dX5_readParts_60 (tgt := 68) (by decide) (by decide) ?_
        refine aw_sipush hC dX5_readParts_68 (v := 999) (by decide) ?_
        refine aw_bind rfl (fun q1 hq1 => ?_)
        refine aw_cVb hC dX5_readParts_71 cv_RX5_101 rfl rm_4_0_0 (am_some (inj := (fun r => (.inr (some (.int (b2i r.1))), r.2))) hq1 (A_X6_readNumber _ (hC.2.2.2.2.2.2.2.2.2.2.2.2.1) _ _ _ (0 : Int32) (999 : Int32) h)) rfl rfl rfl rfl rfl ⟨rfl, rfl⟩ ?_
        refine aw_if_ne_b hC dX5_readParts_74 (tgt := 79) (by decide) ?_ ?_
        · refine aw_aload_n hC dX5_readParts_79 rfl ?_
          refine aw_gfR hC dX5_readParts_80 fg_RX5_21 rfl rfl rm_3_0_0 ?_
          refine aw_iload_n hC dX5_readParts_83 rfl ?_
          refine aw_aload_n hC dX5_readParts_84 rfl ?_
          refine aw_cVi hC dX5_readParts_85 cv_RX5_105 rfl rm_4_0_0 (A_X6_number _ (hC.2.2.2.2.2.2.2.2.2.2.2.2.1) _ _ _ q1.2) rfl rfl rfl rfl rfl ⟨rfl, rfl⟩ ?_
          refine aw_guard rfl (fun g3 => ?_)
          refine aw_iast hC dX5_readParts_88 rm_3_0_3 rfl rfl g3 rfl (fun h2 => ?_)
          refine aw_iconst hC dX5_readParts_89 (v := 1) (by decide) ?_
          exact aw_zret hC dX5_readParts_90 rfl (show _ = b2i true from rfl) rfl
        · refine aw_iconst hC dX5_readParts_77 (v := 0) (by decide) ?_
          exact aw_zret hC dX5_readParts_78 rfl (show _ = b2i false from rfl) rfl
      · refine aw_iconst hC dX5_readParts_40 (v := 1) (by decide) ?_
        refine aw_goto hC dX5_readParts_41 (tgt := 45) (by decide) ?_
        refine aw_istore hC dX5_readParts_45 (by decide) ?_
        refine aw_aload_n hC dX5_readParts_47 rfl ?_
        refine aw_iload hC dX5_readParts_48 rfl ?_
        refine aw_if_eq_f hC dX5_readParts_50 (tgt := 57) (by decide) (by decide) ?_
        refine aw_iconst hC dX5_readParts_53 (v := 1) (by decide) ?_
        refine aw_goto hC dX5_readParts_54 (tgt := 58) (by decide) ?_
        refine aw_iload hC dX5_readParts_58 rfl ?_
        refine aw_if_eq_f hC dX5_readParts_60 (tgt := 68) (by decide) (by decide) ?_
        refine aw_bipush hC dX5_readParts_63 (v := 20) (by decide) ?_
        refine aw_goto hC dX5_readParts_65 (tgt := 71) (by decide) ?_
        refine aw_bind rfl (fun q4 hq4 => ?_)
        refine aw_cVb hC dX5_readParts_71 cv_RX5_101 rfl rm_4_0_0 (am_some (inj := (fun r => (.inr (some (.int (b2i r.1))), r.2))) hq4 (A_X6_readNumber _ (hC.2.2.2.2.2.2.2.2.2.2.2.2.1) _ _ _ (1 : Int32) (20 : Int32) h)) rfl rfl rfl rfl rfl ⟨rfl, rfl⟩ ?_
        refine aw_if_ne_b hC dX5_readParts_74 (tgt := 79) (by decide) ?_ ?_
        · refine aw_aload_n hC dX5_readParts_79 rfl ?_
          refine aw_gfR hC dX5_readParts_80 fg_RX5_21 rfl rfl rm_3_0_0 ?_
          refine aw_iload_n hC dX5_readParts_83 rfl ?_
          refine aw_aload_n hC dX5_readParts_84 rfl ?_
          refine aw_cVi hC dX5_readParts_85 cv_RX5_105 rfl rm_4_0_0 (A_X6_number _ (hC.2.2.2.2.2.2.2.2.2.2.2.2.1) _ _ _ q4.2) rfl rfl rfl rfl rfl ⟨rfl, rfl⟩ ?_
          refine aw_guard rfl (fun g6 => ?_)
          refine aw_iast hC dX5_readParts_88 rm_3_0_3 rfl rfl g6 rfl (fun h5 => ?_)
          refine aw_iconst hC dX5_readParts_89 (v := 1) (by decide) ?_
          exact aw_zret hC dX5_readParts_90 rfl (show _ = b2i true from rfl) rfl
        · refine aw_iconst hC dX5_readParts_77 (v := 0) (by decide) ?_
          exact aw_zret hC dX5_readParts_78 rfl (show _ = b2i false from rfl) rfl
  · refine aw_aload_n hC dX5_readParts_7 rfl ?_
    refine aw_bind rfl (fun q7 hq7 => ?_)
    refine aw_cVb hC dX5_readParts_8 cv_RX5_95 rfl rm_4_0_0 (am_some (inj := (fun r => (.inr (some (.int (b2i r.1))), r.2))) hq7 (A_X6_readName _ (hC.2.2.2.2.2.2.2.2.2.2.2.2.1) _ _ _ h)) rfl rfl rfl rfl rfl ⟨rfl, rfl⟩ ?_
    refine aw_if_ne_b hC dX5_readParts_11 (tgt := 16) (by decide) ?_ ?_
    · refine aw_aload_n hC dX5_readParts_16 rfl ?_
      refine aw_gfR hC dX5_readParts_17 fg_RX5_17 rfl rfl rm_3_0_0 ?_
      refine aw_iload_n hC dX5_readParts_20 rfl ?_
      refine aw_aload_n hC dX5_readParts_21 rfl ?_
      refine aw_cVj hC dX5_readParts_22 cv_RX5_71 rfl rm_4_0_0 (A_X6_word _ (hC.2.2.2.2.2.2.2.2.2.2.2.2.1) _ _ _ q7.2) rfl rfl rfl rfl rfl ⟨rfl, rfl⟩ ?_
      refine aw_guard rfl (fun g9 => ?_)
      refine aw_last hC dX5_readParts_25 rm_3_0_2 rfl rfl g9 rfl (fun h8 => ?_)
      refine aw_aload_n hC dX5_readParts_26 rfl ?_
      refine aw_gfN (host := "ParkingCircle") hC dX5_readParts_27 (st_cmV (cx_st hC) hc2) (by decide +kernel) ?_
      refine aw_if_eq hC dX5_readParts_30 (tgt := 89) (by decide) ?_ ?_
      · refine aw_iconst hC dX5_readParts_89 (v := 1) (by decide) ?_
        exact aw_zret hC dX5_readParts_90 rfl (show _ = b2i true from rfl) rfl
      · refine aw_aload_n hC dX5_readParts_33 rfl ?_
        refine aw_gsO hC dX5_readParts_34 tw5_23 (st_rep (cx_st hC)) ?_
        refine aw_acmpne hC dX5_readParts_37 (tgt := 44) (by decide) hc2 (by decide) ?_ ?_
        · refine aw_iconst hC dX5_readParts_44 (v := 0) (by decide) ?_
          refine aw_istore hC dX5_readParts_45 (by decide) ?_
          refine aw_aload_n hC dX5_readParts_47 rfl ?_
          refine aw_iload hC dX5_readParts_48 rfl ?_
          refine aw_if_eq_t hC dX5_readParts_50 (tgt := 57) (by decide) (by decide) ?_
          refine aw_iconst hC dX5_readParts_57 (v := 0) (by decide) ?_
          refine aw_iload hC dX5_readParts_58 rfl ?_
          refine aw_if_eq_t hC dX5_readParts_60 (tgt := 68) (by decide) (by decide) ?_
          refine aw_sipush hC dX5_readParts_68 (v := 999) (by decide) ?_
          refine aw_bind rfl (fun q10 hq10 => ?_)
          refine aw_cVb hC dX5_readParts_71 cv_RX5_101 rfl rm_4_0_0 (am_some (inj := (fun r => (.inr (some (.int (b2i r.1))), r.2))) hq10 (A_X6_readNumber _ (hC.2.2.2.2.2.2.2.2.2.2.2.2.1) _ _ _ (0 : Int32) (999 : Int32) h8)) rfl rfl rfl rfl rfl ⟨rfl, rfl⟩ ?_
          refine aw_if_ne_b hC dX5_readParts_74 (tgt := 79) (by decide) ?_ ?_
          · refine aw_aload_n hC dX5_readParts_79 rfl ?_
            refine aw_gfR hC dX5_readParts_80 fg_RX5_21 rfl rfl rm_3_0_0 ?_
            refine aw_iload_n hC dX5_readParts_83 rfl ?_
            refine aw_aload_n hC dX5_readParts_84 rfl ?_
            refine aw_cVi hC dX5_readParts_85 cv_RX5_105 rfl rm_4_0_0 (A_X6_number _ (hC.2.2.2.2.2.2.2.2.2.2.2.2.1) _ _ _ q10.2) rfl rfl rfl rfl rfl ⟨rfl, rfl⟩ ?_
            refine aw_guard rfl (fun g12 => ?_)
            refine aw_iast hC dX5_readParts_88 rm_3_0_3 rfl rfl g12 rfl (fun h11 => ?_)
            refine aw_iconst hC dX5_readParts_89 (v := 1) (by decide) ?_
            exact aw_zret hC dX5_readParts_90 rfl (show _ = b2i true from rfl) rfl
          · refine aw_iconst hC dX5_readParts_77 (v := 0) (by decide) ?_
            exact aw_zret hC dX5_readParts_78 rfl (show _ = b2i false from rfl) rfl
        · refine aw_iconst hC dX5_readParts_40 (v := 1) (by decide) ?_
          refine aw_goto hC dX5_readParts_41 (tgt := 45) (by decide) ?_
          refine aw_istore hC dX5_readParts_45 (by decide) ?_
          refine aw_aload_n hC dX5_readParts_47 rfl ?_
          refine aw_iload hC dX5_readParts_48 rfl ?_
          refine aw_if_eq_f hC dX5_readParts_50 (tgt := 57) (by decide) (by decide) ?_
          refine aw_iconst hC dX5_readParts_53 (v := 1) (by decide) ?_
          refine aw_goto hC dX5_readParts_54 (tgt := 58) (by decide) ?_
          refine aw_iload hC dX5_readParts_58 rfl ?_
          refine aw_if_eq_f hC dX5_readParts_60 (tgt := 68) (by decide) (by decide) ?_
          refine aw_bipush hC dX5_readParts_63 (v := 20) (by decide) ?_
          refine aw_goto hC dX5_readParts_65 (tgt := 71) (by decide) ?_
          refine aw_bind rfl (fun q13 hq13 => ?_)
          refine aw_cVb hC dX5_readParts_71 cv_RX5_101 rfl rm_4_0_0 (am_some (inj := (fun r => (.inr (some (.int (b2i r.1))), r.2))) hq13 (A_X6_readNumber _ (hC.2.2.2.2.2.2.2.2.2.2.2.2.1) _ _ _ (1 : Int32) (20 : Int32) h8)) rfl rfl rfl rfl rfl ⟨rfl, rfl⟩ ?_
          refine aw_if_ne_b hC dX5_readParts_74 (tgt := 79) (by decide) ?_ ?_
          · refine aw_aload_n hC dX5_readParts_79 rfl ?_
            refine aw_gfR hC dX5_readParts_80 fg_RX5_21 rfl rfl rm_3_0_0 ?_
            refine aw_iload_n hC dX5_readParts_83 rfl ?_
            refine aw_aload_n hC dX5_readParts_84 rfl ?_
            refine aw_cVi hC dX5_readParts_85 cv_RX5_105 rfl rm_4_0_0 (A_X6_number _ (hC.2.2.2.2.2.2.2.2.2.2.2.2.1) _ _ _ q13.2) rfl rfl rfl rfl rfl ⟨rfl, rfl⟩ ?_
            refine aw_guard rfl (fun g15 => ?_)
            refine aw_iast hC dX5_readParts_88 rm_3_0_3 rfl rfl g15 rfl (fun h14 => ?_)
            refine aw_iconst hC dX5_readParts_89 (v := 1) (by decide) ?_
            exact aw_zret hC dX5_readParts_90 rfl (show _ = b2i true from rfl) rfl
          · refine aw_iconst hC dX5_readParts_77 (v := 0) (by decide) ?_
            exact aw_zret hC dX5_readParts_78 rfl (show _ = b2i false from rfl) rfl
    · refine aw_iconst hC dX5_readParts_14 (v := 0) (by decide) ?_
      exact aw_zret hC dX5_readParts_15 rfl (show _ = b2i false from rfl) rfl
set_option maxHeartbeats 4000000 in
set_option maxRecDepth 100000 in
theorem A_X5_readCommand (l : Launch) (hl0 : l.stackTraces = false) (D : va_G) (loc : Rf → Nat) (cy : Nat → ClassId)  (h : HD) : AM l D loc cy yX5_readCommand cX5_readCommand 5 (some .boolean) 6 188 [.ref (loc (3, 0, 0)), .ref (loc (4, 0, 0))] h ((jX5_readCommand h).map (fun r => (.inr (some (.int (b2i r.1))), r.2))) := by
  refine am_start (y := yX5_readCommand) (av := [.ref (loc (3, 0, 0)), .ref (loc (4, 0, 0))]) (nL := 5) (h := h) (RF := fun (r : Option (Bool × HD)) => r.map (fun r => (.inr (some (.int (b2i r.1))), r.2))) (x := jX5_readCommand h) hl0 (by decide +kernel) rfl ?_
  intro p e R s m below meth c A hC
  unfold jX5_readCommand
  refine aw_aload_n hC dX5_readCommand_0 rfl ?_
  refine aw_cVb hC dX5_readCommand_1 cv_RX5_68 rfl rm_4_0_0 (A_X6_isWord _ (hC.2.2.2.2.2.2.2.2.2.2.2.2.1) _ _ _ h) rfl rfl rfl rfl rfl ⟨rfl, rfl⟩ ?_
  refine aw_if_eq_b hC dX5_readCommand_4 (tgt := 17) (by decide) ?_ ?_
  · refine aw_null hC dX5_readCommand_17 ?_
    refine aw_astore_nN hC dX5_readCommand_18 (by decide) ?_
    refine aw_aload_nN hC dX5_readCommand_19 rfl ?_
    refine aw_ifnonnullN hC dX5_readCommand_20 ?_
    refine aw_aload_n hC dX5_readCommand_23 rfl ?_
    refine aw_iconst hC dX5_readCommand_24 (v := 1) (by decide) ?_
    refine aw_bind rfl (fun q1 hq1 => ?_)
    refine aw_cVb hC dX5_readCommand_25 cv_RX5_65 rfl rm_4_0_0 (am_some (inj := (fun r => (.inr (some (.int (b2i r.1))), r.2))) hq1 (A_X6_fail _ (hC.2.2.2.2.2.2.2.2.2.2.2.2.1) _ _ _ (1 : Int32) h)) rfl rfl rfl rfl rfl ⟨rfl, rfl⟩ ?_
    exact aw_zret hC dX5_readCommand_28 rfl (show _ = b2i q1.1 from rfl) rfl
  · refine aw_aload_n hC dX5_readCommand_7 rfl ?_
    refine aw_cVj hC dX5_readCommand_8 cv_RX5_71 rfl rm_4_0_0 (A_X6_word _ (hC.2.2.2.2.2.2.2.2.2.2.2.2.1) _ _ _ h) rfl rfl rfl rfl rfl ⟨rfl, rfl⟩ ?_
    refine aw_bind rfl (fun q2 hq2 => ?_)
    refine aw_cSo hC dX5_readCommand_11 cv_RX5_75 (am_some (inj := (fun r => (.inr (some (cmv loc r)), h))) hq2 (A_X3_withWord _ (hC.2.2.2.2.2.2.2.2.2.2.2.2.1) _ _ _ (jX6_word h) h)) rfl rfl rfl rfl rfl ⟨rfl, rfl⟩ ?_
    refine aw_oc ?_ (fun k3 => aw_guardP rfl (fun g4 => ?_))
    · refine aw_goto hC dX5_readCommand_14 (tgt := 18) (by decide) ?_
      refine aw_astore_nN hC dX5_readCommand_18 (by decide) ?_
      refine aw_aload_nN hC dX5_readCommand_19 rfl ?_
      refine aw_ifnonnullN hC dX5_readCommand_20 ?_
      refine aw_aload_n hC dX5_readCommand_23 rfl ?_
      refine aw_iconst hC dX5_readCommand_24 (v := 1) (by decide) ?_
      refine aw_bind rfl (fun q5 hq5 => ?_)
      refine aw_cVb hC dX5_readCommand_25 cv_RX5_65 rfl rm_4_0_0 (am_some (inj := (fun r => (.inr (some (.int (b2i r.1))), r.2))) hq5 (A_X6_fail _ (hC.2.2.2.2.2.2.2.2.2.2.2.2.1) _ _ _ (1 : Int32) h)) rfl rfl rfl rfl rfl ⟨rfl, rfl⟩ ?_
      exact aw_zret hC dX5_readCommand_28 rfl (show _ = b2i q5.1 from rfl) rfl
    · refine aw_goto hC dX5_readCommand_14 (tgt := 18) (by decide) ?_
      refine aw_astore_n hC dX5_readCommand_18 (by decide) ?_
      refine aw_aload_n hC dX5_readCommand_19 rfl ?_
      refine aw_ifnonnull hC dX5_readCommand_20 (tgt := 29) (by decide) ?_
      refine aw_aload_n hC dX5_readCommand_29 rfl ?_
      refine aw_gsO hC dX5_readCommand_30 tw5_23 (st_rep (cx_st hC)) ?_
      refine aw_acmpne hC dX5_readCommand_33 (tgt := 40) (by decide) g4 (by decide) ?_ ?_
      · refine aw_iconst hC dX5_readCommand_40 (v := 0) (by decide) ?_
        refine aw_istore_n hC dX5_readCommand_41 (by decide) ?_
        refine aw_iload_n hC dX5_readCommand_42 rfl ?_
        refine aw_if_eq_t hC dX5_readCommand_43 (tgt := 60) (by decide) (by decide) ?_
        refine aw_aload_n hC dX5_readCommand_60 rfl ?_
        refine aw_gfI hC dX5_readCommand_61 fg_RX5_35 rfl rm_3_0_0 ?_
        refine aw_bipush hC dX5_readCommand_64 (v := 30) (by decide) ?_
        refine aw_icmp_lt hC dX5_readCommand_66 (tgt := 75) (by decide) ?_ ?_
        · refine aw_aload_n hC dX5_readCommand_75 rfl ?_
          refine aw_gfI hC dX5_readCommand_76 fg_RX5_35 rfl rm_3_0_0 ?_
          refine aw_istore hC dX5_readCommand_79 (by decide) ?_
          refine aw_aload_n hC dX5_readCommand_81 rfl ?_
          refine aw_dup hC dX5_readCommand_82 rfl ?_
          refine aw_gfI hC dX5_readCommand_83 fg_RX5_35 rfl rm_3_0_0 ?_
          refine aw_iconst hC dX5_readCommand_86 (v := 1) (by decide) ?_
          refine aw_iadd hC dX5_readCommand_87 ?_
          refine aw_pfI hC dX5_readCommand_88 fg_RX5_35 fp_3_6 rfl rm_3_0_0 (fun h6 => ?_)
          refine aw_aload_n hC dX5_readCommand_91 rfl ?_
          refine aw_gfR hC dX5_readCommand_92 fg_RX5_11 rfl rfl rm_3_0_0 ?_
          refine aw_iload hC dX5_readCommand_95 rfl ?_
          refine aw_aload_n hC dX5_readCommand_97 rfl ?_
          refine aw_guard rfl (fun g8 => ?_)
          refine aw_oast hC dX5_readCommand_98 g4 g8 (fun h7 => ?_)
          refine aw_aload_n hC dX5_readCommand_99 rfl ?_
          refine aw_gfR hC dX5_readCommand_100 fg_RX5_17 rfl rfl rm_3_0_0 ?_
          refine aw_iload hC dX5_readCommand_103 rfl ?_
          refine aw_lconst hC dX5_readCommand_105 (v := 0) (by decide) ?_
          refine aw_guard rfl (fun g10 => ?_)
          refine aw_last hC dX5_readCommand_106 rm_3_0_2 rfl rfl g10 rfl (fun h9 => ?_)
          refine aw_aload_n hC dX5_readCommand_107 rfl ?_
          refine aw_gfR hC dX5_readCommand_108 fg_RX5_21 rfl rfl rm_3_0_0 ?_
          refine aw_iload hC dX5_readCommand_111 rfl ?_
          refine aw_iconst hC dX5_readCommand_113 (v := 0) (by decide) ?_
          refine aw_guard rfl (fun g12 => ?_)
          refine aw_iast hC dX5_readCommand_114 rm_3_0_3 rfl rfl g12 rfl (fun h11 => ?_)
          refine aw_aload_n hC dX5_readCommand_115 rfl ?_
          refine aw_gfR hC dX5_readCommand_116 fg_RX5_25 rfl rfl rm_3_0_0 ?_
          refine aw_iload hC dX5_readCommand_119 rfl ?_
          refine aw_aload_n hC dX5_readCommand_121 rfl ?_
          refine aw_gfI hC dX5_readCommand_122 fg_RX5_35 rfl rm_3_0_0 ?_
          refine aw_guard rfl (fun g14 => ?_)
          refine aw_iast hC dX5_readCommand_125 rm_3_0_4 rfl rfl g14 rfl (fun h13 => ?_)
          refine aw_aload_n hC dX5_readCommand_126 rfl ?_
          refine aw_aload_n hC dX5_readCommand_127 rfl ?_
          refine aw_aload_n hC dX5_readCommand_128 rfl ?_
          refine aw_iload hC dX5_readCommand_129 rfl ?_
          refine aw_bind rfl (fun q15 hq15 => ?_)
          refine aw_cVb hC dX5_readCommand_131 cv_RX5_83 rfl rm_3_0_0 (am_some (inj := (fun r => (.inr (some (.int (b2i r.1))), r.2))) hq15 (A_X5_readParts _ (hC.2.2.2.2.2.2.2.2.2.2.2.2.1) _ _ _ k3 g4 (gI h (3, 0, 0) 6) h13)) rfl rfl rfl rfl rfl ⟨rfl, rfl⟩ ?_
          refine aw_if_eq_b hC dX5_readCommand_134 (tgt := 155) (by decide) ?_ ?_
          · refine aw_iconst hC dX5_readCommand_155 (v := 0) (by decide) ?_
            exact aw_zret hC dX5_readCommand_156 rfl (show _ = b2i false from rfl) rfl
          · refine aw_aload_n hC dX5_readCommand_137 rfl ?_
            refine aw_iload_n hC dX5_readCommand_138 rfl ?_
            refine aw_if_eq_t hC dX5_readCommand_139 (tgt := 147) (by decide) (by decide) ?_
            refine aw_bipush hC dX5_readCommand_147 (v := 59) (by decide) ?_
            refine aw_bind rfl (fun q16 hq16 => ?_)
            refine aw_cVb hC dX5_readCommand_149 cv_RX5_58 rfl rm_4_0_0 (am_some (inj := (fun r => (.inr (some (.int (b2i r.1))), r.2))) hq16 (A_X6_readMark _ (hC.2.2.2.2.2.2.2.2.2.2.2.2.1) _ _ _ (59 : Int32) q15.2)) rfl rfl rfl rfl rfl ⟨rfl, rfl⟩ ?_
            refine aw_if_ne_b hC dX5_readCommand_152 (tgt := 157) (by decide) ?_ ?_
            · refine aw_iload_n hC dX5_readCommand_157 rfl ?_
              refine aw_if_eq_t hC dX5_readCommand_158 (tgt := 167) (by decide) (by decide) ?_
              refine aw_iconst hC dX5_readCommand_167 (v := 1) (by decide) ?_
              exact aw_zret hC dX5_readCommand_168 rfl (show _ = b2i true from rfl) rfl
            · refine aw_iconst hC dX5_readCommand_155 (v := 0) (by decide) ?_
              exact aw_zret hC dX5_readCommand_156 rfl (show _ = b2i false from rfl) rfl
        · refine aw_aload_n hC dX5_readCommand_69 rfl ?_
          refine aw_iconst hC dX5_readCommand_70 (v := 5) (by decide) ?_
          refine aw_bind rfl (fun q17 hq17 => ?_)
          refine aw_cVb hC dX5_readCommand_71 cv_RX5_65 rfl rm_4_0_0 (am_some (inj := (fun r => (.inr (some (.int (b2i r.1))), r.2))) hq17 (A_X6_fail _ (hC.2.2.2.2.2.2.2.2.2.2.2.2.1) _ _ _ (5 : Int32) h)) rfl rfl rfl rfl rfl ⟨rfl, rfl⟩ ?_
          exact aw_zret hC dX5_readCommand_74 rfl (show _ = b2i q17.1 from rfl) rfl
      · refine aw_iconst hC dX5_readCommand_36 (v := 1) (by decide) ?_
        refine aw_goto hC dX5_readCommand_37 (tgt := 41) (by decide) ?_
        refine aw_istore_n hC dX5_readCommand_41 (by decide) ?_
        refine aw_iload_n hC dX5_readCommand_42 rfl ?_
        refine aw_if_eq_f hC dX5_readCommand_43 (tgt := 60) (by decide) (by decide) ?_
        refine aw_aload_n hC dX5_readCommand_46 rfl ?_
        refine aw_gfI hC dX5_readCommand_47 fg_RX5_31 rfl rm_3_0_0 ?_
        refine aw_iconst hC dX5_readCommand_50 (v := 2) (by decide) ?_
        refine aw_icmp_lt hC dX5_readCommand_51 (tgt := 60) (by decide) ?_ ?_
        · refine aw_aload_n hC dX5_readCommand_60 rfl ?_
          refine aw_gfI hC dX5_readCommand_61 fg_RX5_35 rfl rm_3_0_0 ?_
          refine aw_bipush hC dX5_readCommand_64 (v := 30) (by decide) ?_
          refine aw_icmp_lt hC dX5_readCommand_66 (tgt := 75) (by decide) ?_ ?_
          · refine aw_aload_n hC dX5_readCommand_75 rfl ?_
            refine aw_gfI hC dX5_readCommand_76 fg_RX5_35 rfl rm_3_0_0 ?_
            refine aw_istore hC dX5_readCommand_79 (by decide) ?_
            refine aw_aload_n hC dX5_readCommand_81 rfl ?_
            refine aw_dup hC dX5_readCommand_82 rfl ?_
            refine aw_gfI hC dX5_readCommand_83 fg_RX5_35 rfl rm_3_0_0 ?_
            refine aw_iconst hC dX5_readCommand_86 (v := 1) (by decide) ?_
            refine aw_iadd hC dX5_readCommand_87 ?_
            refine aw_pfI hC dX5_readCommand_88 fg_RX5_35 fp_3_6 rfl rm_3_0_0 (fun h18 => ?_)
            refine aw_aload_n hC dX5_readCommand_91 rfl ?_
            refine aw_gfR hC dX5_readCommand_92 fg_RX5_11 rfl rfl rm_3_0_0 ?_
            refine aw_iload hC dX5_readCommand_95 rfl ?_
            refine aw_aload_n hC dX5_readCommand_97 rfl ?_
            refine aw_guard rfl (fun g20 => ?_)
            refine aw_oast hC dX5_readCommand_98 g4 g20 (fun h19 => ?_)
            refine aw_aload_n hC dX5_readCommand_99 rfl ?_
            refine aw_gfR hC dX5_readCommand_100 fg_RX5_17 rfl rfl rm_3_0_0 ?_
            refine aw_iload hC dX5_readCommand_103 rfl ?_
            refine aw_lconst hC dX5_readCommand_105 (v := 0) (by decide) ?_
            refine aw_guard rfl (fun g22 => ?_)
            refine aw_last hC dX5_readCommand_106 rm_3_0_2 rfl rfl g22 rfl (fun h21 => ?_)
            refine aw_aload_n hC dX5_readCommand_107 rfl ?_
            refine aw_gfR hC dX5_readCommand_108 fg_RX5_21 rfl rfl rm_3_0_0 ?_
            refine aw_iload hC dX5_readCommand_111 rfl ?_
            refine aw_iconst hC dX5_readCommand_113 (v := 0) (by decide) ?_
            refine aw_guard rfl (fun g24 => ?_)
            refine aw_iast hC dX5_readCommand_114 rm_3_0_3 rfl rfl g24 rfl (fun h23 => ?_)
            refine aw_aload_n hC dX5_readCommand_115 rfl ?_
            refine aw_gfR hC dX5_readCommand_116 fg_RX5_25 rfl rfl rm_3_0_0 ?_
            refine aw_iload hC dX5_readCommand_119 rfl ?_
            refine aw_aload_n hC dX5_readCommand_121 rfl ?_
            refine aw_gfI hC dX5_readCommand_122 fg_RX5_35 rfl rm_3_0_0 ?_
            refine aw_guard rfl (fun g26 => ?_)
            refine aw_iast hC dX5_readCommand_125 rm_3_0_4 rfl rfl g26 rfl (fun h25 => ?_)
            refine aw_aload_n hC dX5_readCommand_126 rfl ?_
            refine aw_aload_n hC dX5_readCommand_127 rfl ?_
            refine aw_aload_n hC dX5_readCommand_128 rfl ?_
            refine aw_iload hC dX5_readCommand_129 rfl ?_
            refine aw_bind rfl (fun q27 hq27 => ?_)
            refine aw_cVb hC dX5_readCommand_131 cv_RX5_83 rfl rm_3_0_0 (am_some (inj := (fun r => (.inr (some (.int (b2i r.1))), r.2))) hq27 (A_X5_readParts _ (hC.2.2.2.2.2.2.2.2.2.2.2.2.1) _ _ _ k3 g4 (gI h (3, 0, 0) 6) h25)) rfl rfl rfl rfl rfl ⟨rfl, rfl⟩ ?_
            refine aw_if_eq_b hC dX5_readCommand_134 (tgt := 155) (by decide) ?_ ?_
            · refine aw_iconst hC dX5_readCommand_155 (v := 0) (by decide) ?_
              exact aw_zret hC dX5_readCommand_156 rfl (show _ = b2i false from rfl) rfl
            · refine aw_aload_n hC dX5_readCommand_137 rfl ?_
              refine aw_iload_n hC dX5_readCommand_138 rfl ?_
              refine aw_if_eq_f hC dX5_readCommand_139 (tgt := 147) (by decide) (by decide) ?_
              refine aw_bipush hC dX5_readCommand_142 (v := 40) (by decide) ?_
              refine aw_goto hC dX5_readCommand_144 (tgt := 149) (by decide) ?_
              refine aw_bind rfl (fun q28 hq28 => ?_)
              refine aw_cVb hC dX5_readCommand_149 cv_RX5_58 rfl rm_4_0_0 (am_some (inj := (fun r => (.inr (some (.int (b2i r.1))), r.2))) hq28 (A_X6_readMark _ (hC.2.2.2.2.2.2.2.2.2.2.2.2.1) _ _ _ (40 : Int32) q27.2)) rfl rfl rfl rfl rfl ⟨rfl, rfl⟩ ?_
              refine aw_if_ne_b hC dX5_readCommand_152 (tgt := 157) (by decide) ?_ ?_
              · refine aw_iload_n hC dX5_readCommand_157 rfl ?_
                refine aw_if_eq_f hC dX5_readCommand_158 (tgt := 167) (by decide) (by decide) ?_
                refine aw_aload_n hC dX5_readCommand_161 rfl ?_
                refine aw_iload hC dX5_readCommand_162 rfl ?_
                refine aw_bind rfl (fun q29 hq29 => ?_)
                refine aw_cVv hC dX5_readCommand_164 cv_RX5_87 rfl rm_3_0_0 (am_some (inj := (fun r => (.inr (none), r))) hq29 (A_X5_openRepeat _ (hC.2.2.2.2.2.2.2.2.2.2.2.2.1) _ _ _ (gI h (3, 0, 0) 6) q28.2)) rfl rfl rfl rfl rfl ⟨rfl, rfl⟩ ?_
                refine aw_iconst hC dX5_readCommand_167 (v := 1) (by decide) ?_
                exact aw_zret hC dX5_readCommand_168 rfl (show _ = b2i true from rfl) rfl
              · refine aw_iconst hC dX5_readCommand_155 (v := 0) (by decide) ?_
                exact aw_zret hC dX5_readCommand_156 rfl (show _ = b2i false from rfl) rfl
          · refine aw_aload_n hC dX5_readCommand_69 rfl ?_
            refine aw_iconst hC dX5_readCommand_70 (v := 5) (by decide) ?_
            refine aw_bind rfl (fun q30 hq30 => ?_)
            refine aw_cVb hC dX5_readCommand_71 cv_RX5_65 rfl rm_4_0_0 (am_some (inj := (fun r => (.inr (some (.int (b2i r.1))), r.2))) hq30 (A_X6_fail _ (hC.2.2.2.2.2.2.2.2.2.2.2.2.1) _ _ _ (5 : Int32) h)) rfl rfl rfl rfl rfl ⟨rfl, rfl⟩ ?_
            exact aw_zret hC dX5_readCommand_74 rfl (show _ = b2i q30.1 from rfl) rfl
        · refine aw_aload_n hC dX5_readCommand_54 rfl ?_
          refine aw_iconst hC dX5_readCommand_55 (v := 3) (by decide) ?_
          refine aw_bind rfl (fun q31 hq31 => ?_)
          refine aw_cVb hC dX5_readCommand_56 cv_RX5_65 rfl rm_4_0_0 (am_some (inj := (fun r => (.inr (some (.int (b2i r.1))), r.2))) hq31 (A_X6_fail _ (hC.2.2.2.2.2.2.2.2.2.2.2.2.1) _ _ _ (3 : Int32) h)) rfl rfl rfl rfl rfl ⟨rfl, rfl⟩ ?_
          exact aw_zret hC dX5_readCommand_59 rfl (show _ = b2i q31.1 from rfl) rfl
set_option maxHeartbeats 4000000 in
set_option maxRecDepth 100000 in
theorem L_X5_read_12 (k86 : HD → Option (Bool × HD)) (hC : Cx p l e R s m args meth c D loc cy A cX5_read 3 (some .boolean) RX5 7 212 0 0) (hk86 : ∀  (h2 : HD), AW p l e R s m args below meth c D loc cy A 3 (QM below D loc cy A args s) (fun (r : Option (Bool × HD)) => r.map (fun r => (.inr (some (.int (b2i r.1))), r.2))) (0, 0) 86 [(1, .ref (loc (4, 0, 0)))] [] h2 (k86  h2)) : ∀ (n12 : Nat) (x2 : Int32) (h : HD), AW p l e R s m args below meth c D loc cy A 3 (QM below D loc cy A args s) (fun (r : Option (Bool × HD)) => r.map (fun r => (.inr (some (.int (b2i r.1))), r.2))) (0, 0) 12 [(0, .ref (loc (3, 0, 0))), (1, .ref (loc (4, 0, 0))), (2, .int x2)] [] h (jX5_read_L12 k86 n12 x2 h) := by
  intro n12
  induction n12 with
  | zero => intro x2 h; exact aw_none rfl
  | succ n12 ih12 =>
    intro x2 h
    rw [jX5_read_L12]
    refine aw_iload_n hC dX5_read_12 rfl ?_
    refine aw_sipush hC dX5_read_13 (v := 400) (by decide) ?_
    refine aw_icmp_gt hC dX5_read_16 (tgt := 86) (by decide) ?_ ?_
    · refine aw_sub [1] ?_
      exact hk86 h
    · refine aw_aload_n hC dX5_read_19 rfl ?_
      refine aw_bind rfl (fun q3 hq3 => ?_)
      refine aw_cVv hC dX5_read_20 cv_RX5_42 rfl rm_4_0_0 (am_some (inj := (fun r => (.inr (none), r))) hq3 (A_X6_advance _ (hC.2.2.2.2.2.2.2.2.2.2.2.2.1) _ _ _ h)) rfl rfl rfl rfl rfl ⟨rfl, rfl⟩ ?_
      refine aw_aload_n hC dX5_read_23 rfl ?_
      refine aw_gfI hC dX5_read_24 fg_RX5_31 rfl rm_3_0_0 ?_
      refine aw_if_ne hC dX5_read_27 (tgt := 39) (by decide) ?_ ?_
      · refine aw_aload_n hC dX5_read_39 rfl ?_
        refine aw_gfI hC dX5_read_40 fg_RX5_31 rfl rm_3_0_0 ?_
        refine aw_if_le hC dX5_read_43 (tgt := 70) (by decide) ?_ ?_
        · refine aw_aload_n hC dX5_read_70 rfl ?_
          refine aw_aload_n hC dX5_read_71 rfl ?_
          refine aw_bind rfl (fun q4 hq4 => ?_)
          refine aw_cVb hC dX5_read_72 cv_RX5_61 rfl rm_3_0_0 (am_some (inj := (fun r => (.inr (some (.int (b2i r.1))), r.2))) hq4 (A_X5_readCommand _ (hC.2.2.2.2.2.2.2.2.2.2.2.2.1) _ _ _ q3)) rfl rfl rfl rfl rfl ⟨rfl, rfl⟩ ?_
          refine aw_if_ne_b hC dX5_read_75 (tgt := 80) (by decide) ?_ ?_
          · refine aw_iinc hC dX5_read_80 rfl (v := x2 + 1) (by first | rfl | decide) (by decide) ?_
            refine aw_goto hC dX5_read_83 (tgt := 12) (by decide) ?_
            refine aw_sub [0, 1, 2] ?_
            exact ih12 (x2 + 1) q4.2
          · refine aw_iconst hC dX5_read_78 (v := 0) (by decide) ?_
            exact aw_zret hC dX5_read_79 rfl (show _ = b2i false from rfl) rfl
        · refine aw_aload_n hC dX5_read_46 rfl ?_
          refine aw_bipush hC dX5_read_47 (v := 41) (by decide) ?_
          refine aw_cVb hC dX5_read_49 cv_RX5_51 rfl rm_4_0_0 (A_X6_isMark _ (hC.2.2.2.2.2.2.2.2.2.2.2.2.1) _ _ _ (41 : Int32) q3) rfl rfl rfl rfl rfl ⟨rfl, rfl⟩ ?_
          refine aw_if_eq_b hC dX5_read_52 (tgt := 70) (by decide) ?_ ?_
          · refine aw_aload_n hC dX5_read_70 rfl ?_
            refine aw_aload_n hC dX5_read_71 rfl ?_
            refine aw_bind rfl (fun q5 hq5 => ?_)
            refine aw_cVb hC dX5_read_72 cv_RX5_61 rfl rm_3_0_0 (am_some (inj := (fun r => (.inr (some (.int (b2i r.1))), r.2))) hq5 (A_X5_readCommand _ (hC.2.2.2.2.2.2.2.2.2.2.2.2.1) _ _ _ q3)) rfl rfl rfl rfl rfl ⟨rfl, rfl⟩ ?_
            refine aw_if_ne_b hC dX5_read_75 (tgt := 80) (by decide) ?_ ?_
            · refine aw_iinc hC dX5_read_80 rfl (v := x2 + 1) (by first | rfl | decide) (by decide) ?_
              refine aw_goto hC dX5_read_83 (tgt := 12) (by decide) ?_
              refine aw_sub [0, 1, 2] ?_
              exact ih12 (x2 + 1) q5.2
            · refine aw_iconst hC dX5_read_78 (v := 0) (by decide) ?_
              exact aw_zret hC dX5_read_79 rfl (show _ = b2i false from rfl) rfl
          · refine aw_aload_n hC dX5_read_55 rfl ?_
            refine aw_bind rfl (fun q6 hq6 => ?_)
            refine aw_cVv hC dX5_read_56 cv_RX5_55 rfl rm_3_0_0 (am_some (inj := (fun r => (.inr (none), r))) hq6 (A_X5_closeRepeat _ (hC.2.2.2.2.2.2.2.2.2.2.2.2.1) _ _ _ q3)) rfl rfl rfl rfl rfl ⟨rfl, rfl⟩ ?_
            refine aw_aload_n hC dX5_read_59 rfl ?_
            refine aw_bipush hC dX5_read_60 (v := 59) (by decide) ?_
            refine aw_bind rfl (fun q7 hq7 => ?_)
            refine aw_cVb hC dX5_read_62 cv_RX5_58 rfl rm_4_0_0 (am_some (inj := (fun r => (.inr (some (.int (b2i r.1))), r.2))) hq7 (A_X6_readMark _ (hC.2.2.2.2.2.2.2.2.2.2.2.2.1) _ _ _ (59 : Int32) q6)) rfl rfl rfl rfl rfl ⟨rfl, rfl⟩ ?_
            refine aw_if_ne_b hC dX5_read_65 (tgt := 80) (by decide) ?_ ?_
            · refine aw_iinc hC dX5_read_80 rfl (v := x2 + 1) (by first | rfl | decide) (by decide) ?_
              refine aw_goto hC dX5_read_83 (tgt := 12) (by decide) ?_
              refine aw_sub [0, 1, 2] ?_
              exact ih12 (x2 + 1) q7.2
            · refine aw_iconst hC dX5_read_68 (v := 0) (by decide) ?_
              exact aw_zret hC dX5_read_69 rfl (show _ = b2i false from rfl) rfl
      · refine aw_aload_n hC dX5_read_30 rfl ?_
        refine aw_cVb hC dX5_read_31 cv_RX5_47 rfl rm_4_0_0 (A_X6_isEnd _ (hC.2.2.2.2.2.2.2.2.2.2.2.2.1) _ _ _ q3) rfl rfl rfl rfl rfl ⟨rfl, rfl⟩ ?_
        refine aw_if_eq_b hC dX5_read_34 (tgt := 39) (by decide) ?_ ?_
        · refine aw_aload_n hC dX5_read_39 rfl ?_
          refine aw_gfI hC dX5_read_40 fg_RX5_31 rfl rm_3_0_0 ?_
          refine aw_if_le hC dX5_read_43 (tgt := 70) (by decide) ?_ ?_
          · refine aw_aload_n hC dX5_read_70 rfl ?_
            refine aw_aload_n hC dX5_read_71 rfl ?_
            refine aw_bind rfl (fun q8 hq8 => ?_)
            refine aw_cVb hC dX5_read_72 cv_RX5_61 rfl rm_3_0_0 (am_some (inj := (fun r => (.inr (some (.int (b2i r.1))), r.2))) hq8 (A_X5_readCommand _ (hC.2.2.2.2.2.2.2.2.2.2.2.2.1) _ _ _ q3)) rfl rfl rfl rfl rfl ⟨rfl, rfl⟩ ?_
            refine aw_if_ne_b hC dX5_read_75 (tgt := 80) (by decide) ?_ ?_
            · refine aw_iinc hC dX5_read_80 rfl (v := x2 + 1) (by first | rfl | decide) (by decide) ?_
              refine aw_goto hC dX5_read_83 (tgt := 12) (by decide) ?_
              refine aw_sub [0, 1, 2] ?_
              exact ih12 (x2 + 1) q8.2
            · refine aw_iconst hC dX5_read_78 (v := 0) (by decide) ?_
              exact aw_zret hC dX5_read_79 rfl (show _ = b2i false from rfl) rfl
          · refine aw_aload_n hC dX5_read_46 rfl ?_
            refine aw_bipush hC dX5_read_47 (v := 41) (by decide) ?_
            refine aw_cVb hC dX5_read_49 cv_RX5_51 rfl rm_4_0_0 (A_X6_isMark _ (hC.2.2.2.2.2.2.2.2.2.2.2.2.1) _ _ _ (41 : Int32) q3) rfl rfl rfl rfl rfl ⟨rfl, rfl⟩ ?_
            refine aw_if_eq_b hC dX5_read_52 (tgt := 70) (by decide) ?_ ?_
            · refine aw_aload_n hC dX5_read_70 rfl ?_
              refine aw_aload_n hC dX5_read_71 rfl ?_
              refine aw_bind rfl (fun q9 hq9 => ?_)
              refine aw_cVb hC dX5_read_72 cv_RX5_61 rfl rm_3_0_0 (am_some (inj := (fun r => (.inr (some (.int (b2i r.1))), r.2))) hq9 (A_X5_readCommand _ (hC.2.2.2.2.2.2.2.2.2.2.2.2.1) _ _ _ q3)) rfl rfl rfl rfl rfl ⟨rfl, rfl⟩ ?_
              refine aw_if_ne_b hC dX5_read_75 (tgt := 80) (by decide) ?_ ?_
              · refine aw_iinc hC dX5_read_80 rfl (v := x2 + 1) (by first | rfl | decide) (by decide) ?_
                refine aw_goto hC dX5_read_83 (tgt := 12) (by decide) ?_
                refine aw_sub [0, 1, 2] ?_
                exact ih12 (x2 + 1) q9.2
              · refine aw_iconst hC dX5_read_78 (v := 0) (by decide) ?_
                exact aw_zret hC dX5_read_79 rfl (show _ = b2i false from rfl) rfl
            · refine aw_aload_n hC dX5_read_55 rfl ?_
              refine aw_bind rfl (fun q10 hq10 => ?_)
              refine aw_cVv hC dX5_read_56 cv_RX5_55 rfl rm_3_0_0 (am_some (inj := (fun r => (.inr (none), r))) hq10 (A_X5_closeRepeat _ (hC.2.2.2.2.2.2.2.2.2.2.2.2.1) _ _ _ q3)) rfl rfl rfl rfl rfl ⟨rfl, rfl⟩ ?_
              refine aw_aload_n hC dX5_read_59 rfl ?_
              refine aw_bipush hC dX5_read_60 (v := 59) (by decide) ?_
              refine aw_bind rfl (fun q11 hq11 => ?_)
              refine aw_cVb hC dX5_read_62 cv_RX5_58 rfl rm_4_0_0 (am_some (inj := (fun r => (.inr (some (.int (b2i r.1))), r.2))) hq11 (A_X6_readMark _ (hC.2.2.2.2.2.2.2.2.2.2.2.2.1) _ _ _ (59 : Int32) q10)) rfl rfl rfl rfl rfl ⟨rfl, rfl⟩ ?_
              refine aw_if_ne_b hC dX5_read_65 (tgt := 80) (by decide) ?_ ?_
              · refine aw_iinc hC dX5_read_80 rfl (v := x2 + 1) (by first | rfl | decide) (by decide) ?_
                refine aw_goto hC dX5_read_83 (tgt := 12) (by decide) ?_
                refine aw_sub [0, 1, 2] ?_
                exact ih12 (x2 + 1) q11.2
              · refine aw_iconst hC dX5_read_68 (v := 0) (by decide) ?_
                exact aw_zret hC dX5_read_69 rfl (show _ = b2i false from rfl) rfl
        · refine aw_iconst hC dX5_read_37 (v := 1) (by decide) ?_
          exact aw_zret hC dX5_read_38 rfl (show _ = b2i true from rfl) rfl
set_option maxHeartbeats 4000000 in
set_option maxRecDepth 100000 in
theorem A_X5_read (l : Launch) (hl0 : l.stackTraces = false) (D : va_G) (loc : Rf → Nat) (cy : Nat → ClassId)  (h : HD) : AM l D loc cy yX5_read cX5_read 3 (some .boolean) 7 212 [.ref (loc (3, 0, 0)), .ref (loc (4, 0, 0))] h ((jX5_read h).map (fun r => (.inr (some (.int (b2i r.1))), r.2))) := by
  refine am_start (y := yX5_read) (av := [.ref (loc (3, 0, 0)), .ref (loc (4, 0, 0))]) (nL := 3) (h := h) (RF := fun (r : Option (Bool × HD)) => r.map (fun r => (.inr (some (.int (b2i r.1))), r.2))) (x := jX5_read h) hl0 (by decide +kernel) rfl ?_
  intro p e R s m below meth c A hC
  unfold jX5_read
  refine aw_aload_n hC dX5_read_0 rfl ?_
  refine aw_iconst hC dX5_read_1 (v := 0) (by decide) ?_
  refine aw_pfI hC dX5_read_2 fg_RX5_35 fp_3_6 rfl rm_3_0_0 (fun h1 => ?_)
  refine aw_aload_n hC dX5_read_5 rfl ?_
  refine aw_iconst hC dX5_read_6 (v := 0) (by decide) ?_
  refine aw_pfI hC dX5_read_7 fg_RX5_31 fp_3_5 rfl rm_3_0_0 (fun h2 => ?_)
  refine aw_iconst hC dX5_read_10 (v := 0) (by decide) ?_
  refine aw_istore_n hC dX5_read_11 (by decide) ?_
  refine aw_sub [0, 1, 2] ?_
  refine L_X5_read_12  _ hC ?_ FU (0 : Int32) h2
  · intro h12
    refine aw_aload_n hC dX5_read_86 rfl ?_
    refine aw_iconst hC dX5_read_87 (v := 1) (by decide) ?_
    refine aw_bind rfl (fun q13 hq13 => ?_)
    refine aw_cVb hC dX5_read_88 cv_RX5_65 rfl rm_4_0_0 (am_some (inj := (fun r => (.inr (some (.int (b2i r.1))), r.2))) hq13 (A_X6_fail _ (hC.2.2.2.2.2.2.2.2.2.2.2.2.1) _ _ _ (1 : Int32) h12)) rfl rfl rfl rfl rfl ⟨rfl, rfl⟩ ?_
    exact aw_zret hC dX5_read_91 rfl (show _ = b2i q13.1 from rfl) rfl
set_option maxHeartbeats 4000000 in
set_option maxRecDepth 100000 in
theorem A_X5_commandAt (l : Launch) (hl0 : l.stackTraces = false) (D : va_G) (loc : Rf → Nat) (cy : Nat → ClassId) (p1 : Int32) (h : HD) : AM l D loc cy yX5_commandAt cX5_commandAt 2 (some (.object "ParkingCircle$Command")) 1 37 [.ref (loc (3, 0, 0)), .int p1] h ((jX5_commandAt p1 h).map (fun r => (.inr (some (cmv loc r)), h))) := by
  refine am_start (y := yX5_commandAt) (av := [.ref (loc (3, 0, 0)), .int p1]) (nL := 2) (h := h) (RF := fun (r : Option (Option Nat)) => r.map (fun r => (.inr (some (cmv loc r)), h))) (x := jX5_commandAt p1 h) hl0 (by decide +kernel) rfl ?_
  intro p e R s m below meth c A hC
  unfold jX5_commandAt
  refine aw_aload_n hC dX5_commandAt_0 rfl ?_
  refine aw_iload_n hC dX5_commandAt_1 rfl ?_
  refine aw_cVb hC dX5_commandAt_2 cv_RX5_38 rfl rm_3_0_0 (A_X5_has _ (hC.2.2.2.2.2.2.2.2.2.2.2.2.1) _ _ _ p1 h) rfl rfl rfl rfl rfl ⟨rfl, rfl⟩ ?_
  refine aw_if_eq_b hC dX5_commandAt_5 (tgt := 17) (by decide) ?_ ?_
  · refine aw_null hC dX5_commandAt_17 ?_
    exact aw_aret hC dX5_commandAt_18 rfl (Or.inl ⟨_, rfl⟩) (Or.inl rfl) rfl
  · refine aw_aload_n hC dX5_commandAt_8 rfl ?_
    refine aw_gfR hC dX5_commandAt_9 fg_RX5_11 rfl rfl rm_3_0_0 ?_
    refine aw_iload_n hC dX5_commandAt_12 rfl ?_
    refine aw_guard rfl (fun g1 => ?_)
    refine aw_oald hC dX5_commandAt_13 g1 ?_
    refine aw_oc ?_ (fun k2 => aw_guardP rfl (fun g3 => ?_))
    · refine aw_goto hC dX5_commandAt_14 (tgt := 18) (by decide) ?_
      exact aw_aret hC dX5_commandAt_18 rfl (Or.inl ⟨_, rfl⟩) (Or.inl rfl) rfl
    · refine aw_goto hC dX5_commandAt_14 (tgt := 18) (by decide) ?_
      exact aw_aret hC dX5_commandAt_18 rfl (Or.inl ⟨_, rfl⟩) (Or.inr ⟨_, rfl⟩) rfl
set_option maxHeartbeats 4000000 in
set_option maxRecDepth 100000 in
theorem L_X8_doRepeat_l1_16 (p1 : Int32) (p2 : Int32) (h : HD) (hC : Cx p l e R s m args meth c D loc cy A cX8_doRepeat 4 (some .boolean) RX8 2 58 0 0)  : ∀ (n16 : Nat) (x3 : Int32), AW p l e R s m args below meth c D loc cy A 4 (QM below D loc cy A args s) (fun (r : Option Bool) => r.map (fun r => (.inr (some (.int (b2i r))), h))) (0, 0) 16 [(0, .ref (loc (6, 0, 0))), (1, .int p1), (2, .int p2), (3, .int x3)] [] h (jX8_doRepeat_l1_L16 p1 p2 h n16 x3) := by
  intro n16
  induction n16 with
  | zero => intro x3; exact aw_none rfl
  | succ n16 ih16 =>
    intro x3
    rw [jX8_doRepeat_l1_L16]
    refine aw_iload_n hC dX8_doRepeat_16 rfl ?_
    refine aw_if_le hC dX8_doRepeat_17 (tgt := 49) (by decide) ?_ ?_
    · refine aw_iconst hC dX8_doRepeat_49 (v := 1) (by decide) ?_
      exact aw_zret hC dX8_doRepeat_50 rfl (show _ = b2i true from rfl) rfl
    · refine aw_aload_n hC dX8_doRepeat_20 rfl ?_
      refine aw_iload_n hC dX8_doRepeat_21 rfl ?_
      refine aw_iconst hC dX8_doRepeat_22 (v := 1) (by decide) ?_
      refine aw_iadd hC dX8_doRepeat_23 ?_
      refine aw_aload_n hC dX8_doRepeat_24 rfl ?_
      refine aw_gfR hC dX8_doRepeat_25 fg_RX8_35 rfl rfl rm_6_0_0 ?_
      refine aw_iload_n hC dX8_doRepeat_28 rfl ?_
      refine aw_bind rfl (fun q2 hq2 => ?_)
      refine aw_cVi hC dX8_doRepeat_29 cv_RX8_496 rfl rm_3_0_0 (am_some (inj := (fun r => (.inr (some (.int r)), h))) hq2 (A_X5_behind _ (hC.2.2.2.2.2.2.2.2.2.2.2.2.1) _ _ _ p1 h)) rfl rfl rfl rfl rfl ⟨rfl, rfl⟩ ?_
      refine aw_iload_n hC dX8_doRepeat_32 rfl ?_
      refine aw_iconst hC dX8_doRepeat_33 (v := 1) (by decide) ?_
      refine aw_iadd hC dX8_doRepeat_34 ?_
      exact aw_none rfl
set_option maxHeartbeats 4000000 in
set_option maxRecDepth 100000 in
theorem A_X8_doRepeat_l1 (l : Launch) (hl0 : l.stackTraces = false) (D : va_G) (loc : Rf → Nat) (cy : Nat → ClassId) (p1 : Int32) (p2 : Int32) (h : HD) : AM l D loc cy yX8_doRepeat cX8_doRepeat 4 (some .boolean) 2 58 [.ref (loc (6, 0, 0)), .int p1, .int p2] h ((jX8_doRepeat_l1 p1 p2 h).map (fun r => (.inr (some (.int (b2i r))), h))) := by
  refine am_start (y := yX8_doRepeat) (av := [.ref (loc (6, 0, 0)), .int p1, .int p2]) (nL := 4) (h := h) (RF := fun (r : Option Bool) => r.map (fun r => (.inr (some (.int (b2i r))), h))) (x := jX8_doRepeat_l1 p1 p2 h) hl0 (by decide +kernel) rfl ?_
  intro p e R s m below meth c A hC
  unfold jX8_doRepeat_l1
  refine aw_iload_n hC dX8_doRepeat_0 rfl ?_
  refine aw_iconst hC dX8_doRepeat_1 (v := 2) (by decide) ?_
  refine aw_icmp_lt hC dX8_doRepeat_2 (tgt := 7) (by decide) ?_ ?_
  · refine aw_aload_n hC dX8_doRepeat_7 rfl ?_
    refine aw_gfR hC dX8_doRepeat_8 fg_RX8_35 rfl rfl rm_6_0_0 ?_
    refine aw_iload_n hC dX8_doRepeat_11 rfl ?_
    refine aw_bind rfl (fun q1 hq1 => ?_)
    refine aw_cVi hC dX8_doRepeat_12 cv_RX8_499 rfl rm_3_0_0 (am_some (inj := (fun r => (.inr (some (.int r)), h))) hq1 (A_X5_numberAt _ (hC.2.2.2.2.2.2.2.2.2.2.2.2.1) _ _ _ p1 h)) rfl rfl rfl rfl rfl ⟨rfl, rfl⟩ ?_
    refine aw_istore_n hC dX8_doRepeat_15 (by decide) ?_
    refine aw_sub [0, 1, 2, 3] ?_
    exact L_X8_doRepeat_l1_16 p1 p2 h  hC FU q1
  · refine aw_iconst hC dX8_doRepeat_5 (v := 0) (by decide) ?_
    exact aw_zret hC dX8_doRepeat_6 rfl (show _ = b2i false from rfl) rfl
set_option maxHeartbeats 4000000 in
set_option maxRecDepth 100000 in
theorem A_X8_doCommand (l : Launch) (hl0 : l.stackTraces = false) (D : va_G) (loc : Rf → Nat) (cy : Nat → ClassId) (p1 : Int32) (h : HD) : AM l D loc cy yX8_doCommand cX8_doCommand 5 (some .boolean) 4 140 [.ref (loc (6, 0, 0)), .int p1] h ((jX8_doCommand p1 h).map (fun r => (.inr (some (.int (b2i r.1))), r.2))) := by
  refine am_start (y := yX8_doCommand) (av := [.ref (loc (6, 0, 0)), .int p1]) (nL := 5) (h := h) (RF := fun (r : Option (Bool × HD)) => r.map (fun r => (.inr (some (.int (b2i r.1))), r.2))) (x := jX8_doCommand p1 h) hl0 (by decide +kernel) rfl ?_
  intro p e R s m below meth c A hC
  unfold jX8_doCommand
  refine aw_aload_n hC dX8_doCommand_0 rfl ?_
  refine aw_gfR hC dX8_doCommand_1 fg_RX8_35 rfl rfl rm_6_0_0 ?_
  refine aw_iload_n hC dX8_doCommand_4 rfl ?_
  refine aw_bind rfl (fun q1 hq1 => ?_)
  refine aw_cVo hC dX8_doCommand_5 cv_RX8_480 rfl rm_3_0_0 (am_some (inj := (fun r => (.inr (some (cmv loc r)), h))) hq1 (A_X5_commandAt _ (hC.2.2.2.2.2.2.2.2.2.2.2.2.1) _ _ _ p1 h)) rfl rfl rfl rfl rfl ⟨rfl, rfl⟩ ?_
  refine aw_oc ?_ (fun k2 => aw_guardP rfl (fun g3 => ?_))
  · refine aw_astore_nN hC dX8_doCommand_8 (by decide) ?_
    refine aw_aload_nN hC dX8_doCommand_9 rfl ?_
    refine aw_ifnonnullN hC dX8_doCommand_10 ?_
    refine aw_iconst hC dX8_doCommand_13 (v := 0) (by decide) ?_
    exact aw_zret hC dX8_doCommand_14 rfl (show _ = b2i false from rfl) rfl
  · refine aw_astore_n hC dX8_doCommand_8 (by decide) ?_
    refine aw_aload_n hC dX8_doCommand_9 rfl ?_
    refine aw_ifnonnull hC dX8_doCommand_10 (tgt := 15) (by decide) ?_
    refine aw_aload_n hC dX8_doCommand_15 rfl ?_
    refine aw_gfR hC dX8_doCommand_16 fg_RX8_35 rfl rfl rm_6_0_0 ?_
    refine aw_iload_n hC dX8_doCommand_19 rfl ?_
    refine aw_bind rfl (fun q4 hq4 => ?_)
    refine aw_cVi hC dX8_doCommand_20 cv_RX8_499 rfl rm_3_0_0 (am_some (inj := (fun r => (.inr (some (.int r)), h))) hq4 (A_X5_numberAt _ (hC.2.2.2.2.2.2.2.2.2.2.2.2.1) _ _ _ p1 h)) rfl rfl rfl rfl rfl ⟨rfl, rfl⟩ ?_
    refine aw_istore_n hC dX8_doCommand_23 (by decide) ?_
    refine aw_aload_n hC dX8_doCommand_24 rfl ?_
    refine aw_gfR hC dX8_doCommand_25 fg_RX8_42 rfl rfl rm_6_0_0 ?_
    refine aw_aload_n hC dX8_doCommand_28 rfl ?_
    refine aw_gfR hC dX8_doCommand_29 fg_RX8_35 rfl rfl rm_6_0_0 ?_
    refine aw_iload_n hC dX8_doCommand_32 rfl ?_
    refine aw_bind rfl (fun q5 hq5 => ?_)
    refine aw_cVj hC dX8_doCommand_33 cv_RX8_500 rfl rm_3_0_0 (am_some (inj := (fun r => (.inr (some (.long r)), h))) hq5 (A_X5_nameAt _ (hC.2.2.2.2.2.2.2.2.2.2.2.2.1) _ _ _ p1 h)) rfl rfl rfl rfl rfl ⟨rfl, rfl⟩ ?_
    refine aw_bind rfl (fun q6 hq6 => ?_)
    refine aw_cVi hC dX8_doCommand_36 cv_RX8_219 rfl rm_1_0_0 (am_some (inj := (fun r => (.inr (some (.int r)), h))) hq6 (A_X2_carNamed _ (hC.2.2.2.2.2.2.2.2.2.2.2.2.1) _ _ _ 0 (by decide) q5 h)) rfl rfl rfl rfl rfl ⟨rfl, rfl⟩ ?_
    refine aw_istore hC dX8_doCommand_39 (by decide) ?_
    refine aw_gsO hC dX8_doCommand_41 tw5_70 (st_swm (cx_st hC)).1 ?_
    refine aw_aload_n hC dX8_doCommand_44 rfl ?_
    refine aw_sord hC dX8_doCommand_45 g3 tw5_72 rfl rfl rfl ⟨rfl, rfl⟩ ?_
    refine aw_guard rfl (fun g7 => ?_)
    refine aw_swm hC dX8_doCommand_48 g7 ?_
    refine aw_tabIn hC dX8_doCommand_49 1 (by decide) (by decide) (off := 47) rfl (tgt := 96) (by decide) ?_ (fun n9 => ?_)
    · refine aw_iload hC dX8_doCommand_96 rfl ?_
      refine aw_iconst hC dX8_doCommand_98 (v := -1) (by decide) ?_
      refine aw_icmp_eq hC dX8_doCommand_99 (tgt := 127) (by decide) ?_ ?_
      · refine aw_iconst hC dX8_doCommand_127 (v := 0) (by decide) ?_
        exact aw_zret hC dX8_doCommand_128 rfl (show _ = b2i false from rfl) rfl
      · refine aw_aload_n hC dX8_doCommand_102 rfl ?_
        refine aw_gfR hC dX8_doCommand_103 fg_RX8_42 rfl rfl rm_6_0_0 ?_
        refine aw_iload_n hC dX8_doCommand_106 rfl ?_
        refine aw_cVb hC dX8_doCommand_107 cv_RX8_339 rfl rm_1_0_0 (A_X2_hasSpot _ (hC.2.2.2.2.2.2.2.2.2.2.2.2.1) _ _ _ 0 (by decide) q4 h) rfl rfl rfl rfl rfl ⟨rfl, rfl⟩ ?_
        refine aw_if_eq_b hC dX8_doCommand_110 (tgt := 127) (by decide) ?_ ?_
        · refine aw_iconst hC dX8_doCommand_127 (v := 0) (by decide) ?_
          exact aw_zret hC dX8_doCommand_128 rfl (show _ = b2i false from rfl) rfl
        · refine aw_aload_n hC dX8_doCommand_113 rfl ?_
          refine aw_iload hC dX8_doCommand_114 rfl ?_
          refine aw_iload_n hC dX8_doCommand_116 rfl ?_
          refine aw_bind rfl (fun q8 hq8 => ?_)
          refine aw_cVb hC dX8_doCommand_117 cv_RX8_425 rfl rm_6_0_0 (am_some (inj := (fun r => (.inr (some (.int (b2i r.1))), r.2))) hq8 (A_X8_doPrefer _ (hC.2.2.2.2.2.2.2.2.2.2.2.2.1) _ _ _ q6 q4 h)) rfl rfl rfl rfl rfl ⟨rfl, rfl⟩ ?_
          refine aw_if_eq_b hC dX8_doCommand_120 (tgt := 127) (by decide) ?_ ?_
          · refine aw_iconst hC dX8_doCommand_127 (v := 0) (by decide) ?_
            exact aw_zret hC dX8_doCommand_128 rfl (show _ = b2i false from rfl) rfl
          · refine aw_iconst hC dX8_doCommand_123 (v := 1) (by decide) ?_
            refine aw_goto hC dX8_doCommand_124 (tgt := 128) (by decide) ?_
            exact aw_zret hC dX8_doCommand_128 rfl (show _ = b2i true from rfl) rfl
    refine aw_tabIn hC dX8_doCommand_49 2 (by decide) (by decide) (off := 80) rfl (tgt := 129) (by decide) ?_ (fun n11 => ?_)
    · refine aw_iload hC dX8_doCommand_129 rfl ?_
      refine aw_iconst hC dX8_doCommand_131 (v := -1) (by decide) ?_
      refine aw_icmp_eq hC dX8_doCommand_132 (tgt := 148) (by decide) ?_ ?_
      · refine aw_iconst hC dX8_doCommand_148 (v := 0) (by decide) ?_
        exact aw_zret hC dX8_doCommand_149 rfl (show _ = b2i false from rfl) rfl
      · refine aw_aload_n hC dX8_doCommand_135 rfl ?_
        refine aw_iload hC dX8_doCommand_136 rfl ?_
        refine aw_bind rfl (fun q10 hq10 => ?_)
        refine aw_cVb hC dX8_doCommand_138 cv_RX8_428 rfl rm_6_0_0 (am_some (inj := (fun r => (.inr (some (.int (b2i r.1))), r.2))) hq10 (A_X8_doSwap _ (hC.2.2.2.2.2.2.2.2.2.2.2.2.1) _ _ _ q6 h)) rfl rfl rfl rfl rfl ⟨rfl, rfl⟩ ?_
        refine aw_if_eq_b hC dX8_doCommand_141 (tgt := 148) (by decide) ?_ ?_
        · refine aw_iconst hC dX8_doCommand_148 (v := 0) (by decide) ?_
          exact aw_zret hC dX8_doCommand_149 rfl (show _ = b2i false from rfl) rfl
        · refine aw_iconst hC dX8_doCommand_144 (v := 1) (by decide) ?_
          refine aw_goto hC dX8_doCommand_145 (tgt := 149) (by decide) ?_
          exact aw_zret hC dX8_doCommand_149 rfl (show _ = b2i true from rfl) rfl
    refine aw_tabIn hC dX8_doCommand_49 3 (by decide) (by decide) (off := 101) rfl (tgt := 150) (by decide) ?_ (fun n13 => ?_)
    · refine aw_iload_n hC dX8_doCommand_150 rfl ?_
      refine aw_cSb hC dX8_doCommand_151 cv_RX8_435 (A_X8_isTurn _ (hC.2.2.2.2.2.2.2.2.2.2.2.2.1) _ _ _ q4 h) rfl rfl rfl rfl rfl ⟨rfl, rfl⟩ ?_
      refine aw_if_eq_b hC dX8_doCommand_154 (tgt := 169) (by decide) ?_ ?_
      · refine aw_iconst hC dX8_doCommand_169 (v := 0) (by decide) ?_
        exact aw_zret hC dX8_doCommand_170 rfl (show _ = b2i false from rfl) rfl
      · refine aw_aload_n hC dX8_doCommand_157 rfl ?_
        refine aw_iload_n hC dX8_doCommand_158 rfl ?_
        refine aw_bind rfl (fun q12 hq12 => ?_)
        refine aw_cVb hC dX8_doCommand_159 cv_RX8_440 rfl rm_6_0_0 (am_some (inj := (fun r => (.inr (some (.int (b2i r.1))), r.2))) hq12 (A_X8_doTurn _ (hC.2.2.2.2.2.2.2.2.2.2.2.2.1) _ _ _ q4 h)) rfl rfl rfl rfl rfl ⟨rfl, rfl⟩ ?_
        refine aw_if_eq_b hC dX8_doCommand_162 (tgt := 169) (by decide) ?_ ?_
        · refine aw_iconst hC dX8_doCommand_169 (v := 0) (by decide) ?_
          exact aw_zret hC dX8_doCommand_170 rfl (show _ = b2i false from rfl) rfl
        · refine aw_iconst hC dX8_doCommand_165 (v := 1) (by decide) ?_
          refine aw_goto hC dX8_doCommand_166 (tgt := 170) (by decide) ?_
          exact aw_zret hC dX8_doCommand_170 rfl (show _ = b2i true from rfl) rfl
    refine aw_tabIn hC dX8_doCommand_49 4 (by decide) (by decide) (off := 122) rfl (tgt := 171) (by decide) ?_ (fun n15 => ?_)
    · refine aw_iload_n hC dX8_doCommand_171 rfl ?_
      refine aw_cSb hC dX8_doCommand_172 cv_RX8_346 (A_X8_isBack _ (hC.2.2.2.2.2.2.2.2.2.2.2.2.1) _ _ _ q4 h) rfl rfl rfl rfl rfl ⟨rfl, rfl⟩ ?_
      refine aw_if_eq_b hC dX8_doCommand_175 (tgt := 190) (by decide) ?_ ?_
      · refine aw_iconst hC dX8_doCommand_190 (v := 0) (by decide) ?_
        exact aw_zret hC dX8_doCommand_191 rfl (show _ = b2i false from rfl) rfl
      · refine aw_aload_n hC dX8_doCommand_178 rfl ?_
        refine aw_iload_n hC dX8_doCommand_179 rfl ?_
        refine aw_bind rfl (fun q14 hq14 => ?_)
        refine aw_cVb hC dX8_doCommand_180 cv_RX8_443 rfl rm_6_0_0 (am_some (inj := (fun r => (.inr (some (.int (b2i r.1))), r.2))) hq14 (A_X8_doSetBack _ (hC.2.2.2.2.2.2.2.2.2.2.2.2.1) _ _ _ q4 h)) rfl rfl rfl rfl rfl ⟨rfl, rfl⟩ ?_
        refine aw_if_eq_b hC dX8_doCommand_183 (tgt := 190) (by decide) ?_ ?_
        · refine aw_iconst hC dX8_doCommand_190 (v := 0) (by decide) ?_
          exact aw_zret hC dX8_doCommand_191 rfl (show _ = b2i false from rfl) rfl
        · refine aw_iconst hC dX8_doCommand_186 (v := 1) (by decide) ?_
          refine aw_goto hC dX8_doCommand_187 (tgt := 191) (by decide) ?_
          exact aw_zret hC dX8_doCommand_191 rfl (show _ = b2i true from rfl) rfl
    refine aw_tabIn hC dX8_doCommand_49 5 (by decide) (by decide) (off := 143) rfl (tgt := 192) (by decide) ?_ (fun n18 => ?_)
    · refine aw_aload_n hC dX8_doCommand_192 rfl ?_
      refine aw_iload_n hC dX8_doCommand_193 rfl ?_
      refine aw_cVb hC dX8_doCommand_194 cv_RX8_446 rfl rm_6_0_0 (A_X8_canComeTo _ (hC.2.2.2.2.2.2.2.2.2.2.2.2.1) _ _ _ q4 h) rfl rfl rfl rfl rfl ⟨rfl, rfl⟩ ?_
      refine aw_if_eq_b hC dX8_doCommand_197 (tgt := 220) (by decide) ?_ ?_
      · refine aw_iconst hC dX8_doCommand_220 (v := 0) (by decide) ?_
        exact aw_zret hC dX8_doCommand_221 rfl (show _ = b2i false from rfl) rfl
      · refine aw_aload_n hC dX8_doCommand_200 rfl ?_
        refine aw_aload_n hC dX8_doCommand_201 rfl ?_
        refine aw_gfR hC dX8_doCommand_202 fg_RX8_35 rfl rfl rm_6_0_0 ?_
        refine aw_iload_n hC dX8_doCommand_205 rfl ?_
        refine aw_bind rfl (fun q16 hq16 => ?_)
        refine aw_cVj hC dX8_doCommand_206 cv_RX8_500 rfl rm_3_0_0 (am_some (inj := (fun r => (.inr (some (.long r)), h))) hq16 (A_X5_nameAt _ (hC.2.2.2.2.2.2.2.2.2.2.2.2.1) _ _ _ p1 h)) rfl rfl rfl rfl rfl ⟨rfl, rfl⟩ ?_
        refine aw_iload_n hC dX8_doCommand_209 rfl ?_
        refine aw_bind rfl (fun q17 hq17 => ?_)
        refine aw_cVb hC dX8_doCommand_210 cv_RX8_454 rfl rm_6_0_0 (am_some (inj := (fun r => (.inr (some (.int (b2i r.1))), r.2))) hq17 (A_X8_doCome _ (hC.2.2.2.2.2.2.2.2.2.2.2.2.1) _ _ _ q16 q4 h)) rfl rfl rfl rfl rfl ⟨rfl, rfl⟩ ?_
        refine aw_if_eq_b hC dX8_doCommand_213 (tgt := 220) (by decide) ?_ ?_
        · refine aw_iconst hC dX8_doCommand_220 (v := 0) (by decide) ?_
          exact aw_zret hC dX8_doCommand_221 rfl (show _ = b2i false from rfl) rfl
        · refine aw_iconst hC dX8_doCommand_216 (v := 1) (by decide) ?_
          refine aw_goto hC dX8_doCommand_217 (tgt := 221) (by decide) ?_
          exact aw_zret hC dX8_doCommand_221 rfl (show _ = b2i true from rfl) rfl
    refine aw_tabIn hC dX8_doCommand_49 6 (by decide) (by decide) (off := 173) rfl (tgt := 222) (by decide) ?_ (fun n20 => ?_)
    · refine aw_iload hC dX8_doCommand_222 rfl ?_
      refine aw_iconst hC dX8_doCommand_224 (v := -1) (by decide) ?_
      refine aw_icmp_eq hC dX8_doCommand_225 (tgt := 241) (by decide) ?_ ?_
      · refine aw_iconst hC dX8_doCommand_241 (v := 0) (by decide) ?_
        exact aw_zret hC dX8_doCommand_242 rfl (show _ = b2i false from rfl) rfl
      · refine aw_aload_n hC dX8_doCommand_228 rfl ?_
        refine aw_iload hC dX8_doCommand_229 rfl ?_
        refine aw_bind rfl (fun q19 hq19 => ?_)
        refine aw_cVb hC dX8_doCommand_231 cv_RX8_458 rfl rm_6_0_0 (am_some (inj := (fun r => (.inr (some (.int (b2i r.1))), r.2))) hq19 (A_X8_doGo _ (hC.2.2.2.2.2.2.2.2.2.2.2.2.1) _ _ _ q6 h)) rfl rfl rfl rfl rfl ⟨rfl, rfl⟩ ?_
        refine aw_if_eq_b hC dX8_doCommand_234 (tgt := 241) (by decide) ?_ ?_
        · refine aw_iconst hC dX8_doCommand_241 (v := 0) (by decide) ?_
          exact aw_zret hC dX8_doCommand_242 rfl (show _ = b2i false from rfl) rfl
        · refine aw_iconst hC dX8_doCommand_237 (v := 1) (by decide) ?_
          refine aw_goto hC dX8_doCommand_238 (tgt := 242) (by decide) ?_
          exact aw_zret hC dX8_doCommand_242 rfl (show _ = b2i true from rfl) rfl
    refine aw_tabIn hC dX8_doCommand_49 7 (by decide) (by decide) (off := 194) rfl (tgt := 243) (by decide) ?_ (fun n22 => ?_)
    · refine aw_aload_n hC dX8_doCommand_243 rfl ?_
      refine aw_bind rfl (fun q21 hq21 => ?_)
      refine aw_cVi hC dX8_doCommand_244 cv_RX8_461 rfl rm_6_0_0 (am_some (inj := (fun r => (.inr (some (.int r.1)), r.2))) hq21 (A_X8_doSort _ (hC.2.2.2.2.2.2.2.2.2.2.2.2.1) _ _ _ h)) rfl rfl rfl rfl rfl ⟨rfl, rfl⟩ ?_
      refine aw_if_lt hC dX8_doCommand_247 (tgt := 254) (by decide) ?_ ?_
      · refine aw_iconst hC dX8_doCommand_254 (v := 0) (by decide) ?_
        exact aw_zret hC dX8_doCommand_255 rfl (show _ = b2i false from rfl) rfl
      · refine aw_iconst hC dX8_doCommand_250 (v := 1) (by decide) ?_
        refine aw_goto hC dX8_doCommand_251 (tgt := 255) (by decide) ?_
        exact aw_zret hC dX8_doCommand_255 rfl (show _ = b2i true from rfl) rfl
    refine aw_tabIn hC dX8_doCommand_49 8 (by decide) (by decide) (off := 207) rfl (tgt := 256) (by decide) ?_ (fun n24 => ?_)
    · refine aw_aload_n hC dX8_doCommand_256 rfl ?_
      refine aw_bind rfl (fun q23 hq23 => ?_)
      refine aw_cVb hC dX8_doCommand_257 cv_RX8_464 rfl rm_6_0_0 (am_some (inj := (fun r => (.inr (some (.int (b2i r.1))), r.2))) hq23 (A_X8_doReverse _ (hC.2.2.2.2.2.2.2.2.2.2.2.2.1) _ _ _ h)) rfl rfl rfl rfl rfl ⟨rfl, rfl⟩ ?_
      exact aw_zret hC dX8_doCommand_260 rfl (show _ = b2i q23.1 from rfl) rfl
    refine aw_tabOut hC dX8_doCommand_49 (tab_out1 8 rfl (fun z25 => (lt_s (lt_s (lt_s (lt_s (lt_s (lt_s (lt_s (lt_s (lt_s lt_0 z25) n9) n11) n13) n15) n18) n20) n22) n24))) (tgt := 261) (by decide) ?_
    refine aw_iconst hC dX8_doCommand_261 (v := 0) (by decide) ?_
    exact aw_zret hC dX8_doCommand_262 rfl (show _ = b2i false from rfl) rfl
set_option maxHeartbeats 4000000 in
set_option maxRecDepth 100000 in
theorem L_X8_doCommands_l1_6 (p1 : Int32) (p2 : Int32) (p3 : Int32) (hC : Cx p l e R s m args meth c D loc cy A cX8_doCommands 6 (some .boolean) RX8 5 164 0 0)  : ∀ (n6 : Nat) (x4 : Int32) (x5 : Int32) (h : HD), AW p l e R s m args below meth c D loc cy A 6 (QM below D loc cy A args s) (fun (r : Option (Bool × HD)) => r.map (fun r => (.inr (some (.int (b2i r.1))), r.2))) (0, 0) 6 [(0, .ref (loc (6, 0, 0))), (2, .int p2), (3, .int p3), (4, .int x4), (5, .int x5)] [] h (jX8_doCommands_l1_L6 p1 p2 p3 n6 x4 x5 h) := by
  intro n6
  induction n6 with
  | zero => intro x4 x5 h; exact aw_none rfl
  | succ n6 ih6 =>
    intro x4 x5 h
    rw [jX8_doCommands_l1_L6]
    refine aw_iload hC dX8_doCommands_6 rfl ?_
    refine aw_bipush hC dX8_doCommands_8 (v := 30) (by decide) ?_
    refine aw_icmp_ge hC dX8_doCommands_10 (tgt := 93) (by decide) ?_ ?_
    · refine aw_iconst hC dX8_doCommands_93 (v := 1) (by decide) ?_
      exact aw_zret hC dX8_doCommands_94 rfl (show _ = b2i true from rfl) rfl
    · refine aw_iload hC dX8_doCommands_13 rfl ?_
      refine aw_iload_n hC dX8_doCommands_15 rfl ?_
      refine aw_icmp_ge hC dX8_doCommands_16 (tgt := 93) (by decide) ?_ ?_
      · refine aw_iconst hC dX8_doCommands_93 (v := 1) (by decide) ?_
        exact aw_zret hC dX8_doCommands_94 rfl (show _ = b2i true from rfl) rfl
      · refine aw_aload_n hC dX8_doCommands_19 rfl ?_
        refine aw_gfR hC dX8_doCommands_20 fg_RX8_35 rfl rfl rm_6_0_0 ?_
        refine aw_iload hC dX8_doCommands_23 rfl ?_
        refine aw_bind rfl (fun q1 hq1 => ?_)
        refine aw_cVo hC dX8_doCommands_25 cv_RX8_480 rfl rm_3_0_0 (am_some (inj := (fun r => (.inr (some (cmv loc r)), h))) hq1 (A_X5_commandAt _ (hC.2.2.2.2.2.2.2.2.2.2.2.2.1) _ _ _ x4 h)) rfl rfl rfl rfl rfl ⟨rfl, rfl⟩ ?_
        refine aw_oc ?_ (fun k2 => aw_guardP rfl (fun g3 => ?_))
        · refine aw_gsO hC dX8_doCommands_28 tw5_49 (st_rep (cx_st hC)) ?_
          refine aw_acmpneN hC dX8_doCommands_31 (tgt := 46) (by decide) ?_
          refine aw_aload_n hC dX8_doCommands_46 rfl ?_
          refine aw_gfI hC dX8_doCommands_47 fg_RX8_88 rfl rm_6_0_0 ?_
          refine aw_bipush hC dX8_doCommands_50 (v := 40) (by decide) ?_
          refine aw_icmp_ge hC dX8_doCommands_52 (tgt := 64) (by decide) ?_ ?_
          · refine aw_iconst hC dX8_doCommands_64 (v := 0) (by decide) ?_
            exact aw_zret hC dX8_doCommands_65 rfl (show _ = b2i false from rfl) rfl
          · refine aw_aload_n hC dX8_doCommands_55 rfl ?_
            refine aw_iload hC dX8_doCommands_56 rfl ?_
            refine aw_bind rfl (fun q4 hq4 => ?_)
            refine aw_cVb hC dX8_doCommands_58 cv_RX8_493 rfl rm_6_0_0 (am_some (inj := (fun r => (.inr (some (.int (b2i r.1))), r.2))) hq4 (A_X8_doCommand _ (hC.2.2.2.2.2.2.2.2.2.2.2.2.1) _ _ _ x4 h)) rfl rfl rfl rfl rfl ⟨rfl, rfl⟩ ?_
            refine aw_if_ne_b hC dX8_doCommands_61 (tgt := 66) (by decide) ?_ ?_
            · refine aw_aload_n hC dX8_doCommands_66 rfl ?_
              refine aw_dup hC dX8_doCommands_67 rfl ?_
              refine aw_gfI hC dX8_doCommands_68 fg_RX8_88 rfl rm_6_0_0 ?_
              refine aw_iconst hC dX8_doCommands_71 (v := 1) (by decide) ?_
              refine aw_iadd hC dX8_doCommands_72 ?_
              refine aw_pfI hC dX8_doCommands_73 fg_RX8_88 fp_6_15 rfl rm_6_0_0 (fun h5 => ?_)
              refine aw_aload_n hC dX8_doCommands_76 rfl ?_
              refine aw_gfR hC dX8_doCommands_77 fg_RX8_35 rfl rfl rm_6_0_0 ?_
              refine aw_iload hC dX8_doCommands_80 rfl ?_
              refine aw_bind rfl (fun q6 hq6 => ?_)
              refine aw_cVi hC dX8_doCommands_82 cv_RX8_496 rfl rm_3_0_0 (am_some (inj := (fun r => (.inr (some (.int r)), h5))) hq6 (A_X5_behind _ (hC.2.2.2.2.2.2.2.2.2.2.2.2.1) _ _ _ x4 h5)) rfl rfl rfl rfl rfl ⟨rfl, rfl⟩ ?_
              refine aw_istore hC dX8_doCommands_85 (by decide) ?_
              refine aw_iinc hC dX8_doCommands_87 rfl (v := x5 + 1) (by first | rfl | decide) (by decide) ?_
              refine aw_goto hC dX8_doCommands_90 (tgt := 6) (by decide) ?_
              refine aw_sub [0, 2, 3, 4, 5] ?_
              exact ih6 q6 (x5 + 1) h5
            · refine aw_iconst hC dX8_doCommands_64 (v := 0) (by decide) ?_
              exact aw_zret hC dX8_doCommands_65 rfl (show _ = b2i false from rfl) rfl
        · refine aw_gsO hC dX8_doCommands_28 tw5_49 (st_rep (cx_st hC)) ?_
          refine aw_acmpne hC dX8_doCommands_31 (tgt := 46) (by decide) g3 (by decide) ?_ ?_
          · refine aw_aload_n hC dX8_doCommands_46 rfl ?_
            refine aw_gfI hC dX8_doCommands_47 fg_RX8_88 rfl rm_6_0_0 ?_
            refine aw_bipush hC dX8_doCommands_50 (v := 40) (by decide) ?_
            refine aw_icmp_ge hC dX8_doCommands_52 (tgt := 64) (by decide) ?_ ?_
            · refine aw_iconst hC dX8_doCommands_64 (v := 0) (by decide) ?_
              exact aw_zret hC dX8_doCommands_65 rfl (show _ = b2i false from rfl) rfl
            · refine aw_aload_n hC dX8_doCommands_55 rfl ?_
              refine aw_iload hC dX8_doCommands_56 rfl ?_
              refine aw_bind rfl (fun q7 hq7 => ?_)
              refine aw_cVb hC dX8_doCommands_58 cv_RX8_493 rfl rm_6_0_0 (am_some (inj := (fun r => (.inr (some (.int (b2i r.1))), r.2))) hq7 (A_X8_doCommand _ (hC.2.2.2.2.2.2.2.2.2.2.2.2.1) _ _ _ x4 h)) rfl rfl rfl rfl rfl ⟨rfl, rfl⟩ ?_
              refine aw_if_ne_b hC dX8_doCommands_61 (tgt := 66) (by decide) ?_ ?_
              · refine aw_aload_n hC dX8_doCommands_66 rfl ?_
                refine aw_dup hC dX8_doCommands_67 rfl ?_
                refine aw_gfI hC dX8_doCommands_68 fg_RX8_88 rfl rm_6_0_0 ?_
                refine aw_iconst hC dX8_doCommands_71 (v := 1) (by decide) ?_
                refine aw_iadd hC dX8_doCommands_72 ?_
                refine aw_pfI hC dX8_doCommands_73 fg_RX8_88 fp_6_15 rfl rm_6_0_0 (fun h8 => ?_)
                refine aw_aload_n hC dX8_doCommands_76 rfl ?_
                refine aw_gfR hC dX8_doCommands_77 fg_RX8_35 rfl rfl rm_6_0_0 ?_
                refine aw_iload hC dX8_doCommands_80 rfl ?_
                refine aw_bind rfl (fun q9 hq9 => ?_)
                refine aw_cVi hC dX8_doCommands_82 cv_RX8_496 rfl rm_3_0_0 (am_some (inj := (fun r => (.inr (some (.int r)), h8))) hq9 (A_X5_behind _ (hC.2.2.2.2.2.2.2.2.2.2.2.2.1) _ _ _ x4 h8)) rfl rfl rfl rfl rfl ⟨rfl, rfl⟩ ?_
                refine aw_istore hC dX8_doCommands_85 (by decide) ?_
                refine aw_iinc hC dX8_doCommands_87 rfl (v := x5 + 1) (by first | rfl | decide) (by decide) ?_
                refine aw_goto hC dX8_doCommands_90 (tgt := 6) (by decide) ?_
                refine aw_sub [0, 2, 3, 4, 5] ?_
                exact ih6 q9 (x5 + 1) h8
              · refine aw_iconst hC dX8_doCommands_64 (v := 0) (by decide) ?_
                exact aw_zret hC dX8_doCommands_65 rfl (show _ = b2i false from rfl) rfl
          · refine aw_aload_n hC dX8_doCommands_34 rfl ?_
            refine aw_iload hC dX8_doCommands_35 rfl ?_
            refine aw_iload_n hC dX8_doCommands_37 rfl ?_
            refine aw_bind rfl (fun q10 hq10 => ?_)
            refine aw_cVb hC dX8_doCommands_38 cv_RX8_490 rfl rm_6_0_0 (am_some (inj := (fun r => (.inr (some (.int (b2i r))), h))) hq10 (A_X8_doRepeat_l1 _ (hC.2.2.2.2.2.2.2.2.2.2.2.2.1) _ _ _ x4 p3 h)) rfl rfl rfl rfl rfl ⟨rfl, rfl⟩ ?_
            refine aw_if_ne_b hC dX8_doCommands_41 (tgt := 76) (by decide) ?_ ?_
            · refine aw_aload_n hC dX8_doCommands_76 rfl ?_
              refine aw_gfR hC dX8_doCommands_77 fg_RX8_35 rfl rfl rm_6_0_0 ?_
              refine aw_iload hC dX8_doCommands_80 rfl ?_
              refine aw_bind rfl (fun q11 hq11 => ?_)
              refine aw_cVi hC dX8_doCommands_82 cv_RX8_496 rfl rm_3_0_0 (am_some (inj := (fun r => (.inr (some (.int r)), h))) hq11 (A_X5_behind _ (hC.2.2.2.2.2.2.2.2.2.2.2.2.1) _ _ _ x4 h)) rfl rfl rfl rfl rfl ⟨rfl, rfl⟩ ?_
              refine aw_istore hC dX8_doCommands_85 (by decide) ?_
              refine aw_iinc hC dX8_doCommands_87 rfl (v := x5 + 1) (by first | rfl | decide) (by decide) ?_
              refine aw_goto hC dX8_doCommands_90 (tgt := 6) (by decide) ?_
              refine aw_sub [0, 2, 3, 4, 5] ?_
              exact ih6 q11 (x5 + 1) h
            · refine aw_iconst hC dX8_doCommands_44 (v := 0) (by decide) ?_
              exact aw_zret hC dX8_doCommands_45 rfl (show _ = b2i false from rfl) rfl
set_option maxHeartbeats 4000000 in
set_option maxRecDepth 100000 in
theorem A_X8_doCommands_l1 (l : Launch) (hl0 : l.stackTraces = false) (D : va_G) (loc : Rf → Nat) (cy : Nat → ClassId) (p1 : Int32) (p2 : Int32) (p3 : Int32) (h : HD) : AM l D loc cy yX8_doCommands cX8_doCommands 6 (some .boolean) 5 164 [.ref (loc (6, 0, 0)), .int p1, .int p2, .int p3] h ((jX8_doCommands_l1 p1 p2 p3 h).map (fun r => (.inr (some (.int (b2i r.1))), r.2))) := by
  refine am_start (y := yX8_doCommands) (av := [.ref (loc (6, 0, 0)), .int p1, .int p2, .int p3]) (nL := 6) (h := h) (RF := fun (r : Option (Bool × HD)) => r.map (fun r => (.inr (some (.int (b2i r.1))), r.2))) (x := jX8_doCommands_l1 p1 p2 p3 h) hl0 (by decide +kernel) rfl ?_
  intro p e R s m below meth c A hC
  unfold jX8_doCommands_l1
  refine aw_iload_n hC dX8_doCommands_0 rfl ?_
  refine aw_istore hC dX8_doCommands_1 (by decide) ?_
  refine aw_iconst hC dX8_doCommands_3 (v := 0) (by decide) ?_
  refine aw_istore hC dX8_doCommands_4 (by decide) ?_
  refine aw_sub [0, 2, 3, 4, 5] ?_
  exact L_X8_doCommands_l1_6 p1 p2 p3  hC FU p1 (0 : Int32) h
set_option maxHeartbeats 4000000 in
set_option maxRecDepth 100000 in
theorem L_X8_doRepeat_l2_16 (p1 : Int32) (p2 : Int32) (hC : Cx p l e R s m args meth c D loc cy A cX8_doRepeat 4 (some .boolean) RX8 6 189 0 0)  : ∀ (n16 : Nat) (x3 : Int32) (h : HD), AW p l e R s m args below meth c D loc cy A 4 (QM below D loc cy A args s) (fun (r : Option (Bool × HD)) => r.map (fun r => (.inr (some (.int (b2i r.1))), r.2))) (0, 0) 16 [(0, .ref (loc (6, 0, 0))), (1, .int p1), (2, .int p2), (3, .int x3)] [] h (jX8_doRepeat_l2_L16 p1 p2 n16 x3 h) := by
  intro n16
  induction n16 with
  | zero => intro x3 h; exact aw_none rfl
  | succ n16 ih16 =>
    intro x3 h
    rw [jX8_doRepeat_l2_L16]
    refine aw_iload_n hC dX8_doRepeat_16 rfl ?_
    refine aw_if_le hC dX8_doRepeat_17 (tgt := 49) (by decide) ?_ ?_
    · refine aw_iconst hC dX8_doRepeat_49 (v := 1) (by decide) ?_
      exact aw_zret hC dX8_doRepeat_50 rfl (show _ = b2i true from rfl) rfl
    · refine aw_aload_n hC dX8_doRepeat_20 rfl ?_
      refine aw_iload_n hC dX8_doRepeat_21 rfl ?_
      refine aw_iconst hC dX8_doRepeat_22 (v := 1) (by decide) ?_
      refine aw_iadd hC dX8_doRepeat_23 ?_
      refine aw_aload_n hC dX8_doRepeat_24 rfl ?_
      refine aw_gfR hC dX8_doRepeat_25 fg_RX8_35 rfl rfl rm_6_0_0 ?_
      refine aw_iload_n hC dX8_doRepeat_28 rfl ?_
      refine aw_bind rfl (fun q2 hq2 => ?_)
      refine aw_cVi hC dX8_doRepeat_29 cv_RX8_496 rfl rm_3_0_0 (am_some (inj := (fun r => (.inr (some (.int r)), h))) hq2 (A_X5_behind _ (hC.2.2.2.2.2.2.2.2.2.2.2.2.1) _ _ _ p1 h)) rfl rfl rfl rfl rfl ⟨rfl, rfl⟩ ?_
      refine aw_iload_n hC dX8_doRepeat_32 rfl ?_
      refine aw_iconst hC dX8_doRepeat_33 (v := 1) (by decide) ?_
      refine aw_iadd hC dX8_doRepeat_34 ?_
      refine aw_bind rfl (fun q3 hq3 => ?_)
      refine aw_cVb hC dX8_doRepeat_35 cv_RX8_151 rfl rm_6_0_0 (am_some (inj := (fun r => (.inr (some (.int (b2i r.1))), r.2))) hq3 (A_X8_doCommands_l1 _ (hC.2.2.2.2.2.2.2.2.2.2.2.2.1) _ _ _ (p1 + (1 : Int32)) q2 (p2 + (1 : Int32)) h)) rfl rfl rfl rfl rfl ⟨rfl, rfl⟩ ?_
      refine aw_if_ne_b hC dX8_doRepeat_38 (tgt := 43) (by decide) ?_ ?_
      · refine aw_iinc hC dX8_doRepeat_43 rfl (v := x3 + (-1)) (by first | rfl | decide) (by decide) ?_
        refine aw_goto hC dX8_doRepeat_46 (tgt := 16) (by decide) ?_
        refine aw_sub [0, 1, 2, 3] ?_
        exact ih16 (x3 + (-1)) q3.2
      · refine aw_iconst hC dX8_doRepeat_41 (v := 0) (by decide) ?_
        exact aw_zret hC dX8_doRepeat_42 rfl (show _ = b2i false from rfl) rfl
set_option maxHeartbeats 4000000 in
set_option maxRecDepth 100000 in
theorem A_X8_doRepeat_l2 (l : Launch) (hl0 : l.stackTraces = false) (D : va_G) (loc : Rf → Nat) (cy : Nat → ClassId) (p1 : Int32) (p2 : Int32) (h : HD) : AM l D loc cy yX8_doRepeat cX8_doRepeat 4 (some .boolean) 6 189 [.ref (loc (6, 0, 0)), .int p1, .int p2] h ((jX8_doRepeat_l2 p1 p2 h).map (fun r => (.inr (some (.int (b2i r.1))), r.2))) := by
  refine am_start (y := yX8_doRepeat) (av := [.ref (loc (6, 0, 0)), .int p1, .int p2]) (nL := 4) (h := h) (RF := fun (r : Option (Bool × HD)) => r.map (fun r => (.inr (some (.int (b2i r.1))), r.2))) (x := jX8_doRepeat_l2 p1 p2 h) hl0 (by decide +kernel) rfl ?_
  intro p e R s m below meth c A hC
  unfold jX8_doRepeat_l2
  refine aw_iload_n hC dX8_doRepeat_0 rfl ?_
  refine aw_iconst hC dX8_doRepeat_1 (v := 2) (by decide) ?_
  refine aw_icmp_lt hC dX8_doRepeat_2 (tgt := 7) (by decide) ?_ ?_
  · refine aw_aload_n hC dX8_doRepeat_7 rfl ?_
    refine aw_gfR hC dX8_doRepeat_8 fg_RX8_35 rfl rfl rm_6_0_0 ?_
    refine aw_iload_n hC dX8_doRepeat_11 rfl ?_
    refine aw_bind rfl (fun q1 hq1 => ?_)
    refine aw_cVi hC dX8_doRepeat_12 cv_RX8_499 rfl rm_3_0_0 (am_some (inj := (fun r => (.inr (some (.int r)), h))) hq1 (A_X5_numberAt _ (hC.2.2.2.2.2.2.2.2.2.2.2.2.1) _ _ _ p1 h)) rfl rfl rfl rfl rfl ⟨rfl, rfl⟩ ?_
    refine aw_istore_n hC dX8_doRepeat_15 (by decide) ?_
    refine aw_sub [0, 1, 2, 3] ?_
    exact L_X8_doRepeat_l2_16 p1 p2  hC FU q1 h
  · refine aw_iconst hC dX8_doRepeat_5 (v := 0) (by decide) ?_
    exact aw_zret hC dX8_doRepeat_6 rfl (show _ = b2i false from rfl) rfl
set_option maxHeartbeats 4000000 in
set_option maxRecDepth 100000 in
theorem L_X8_doCommands_l2_6 (p1 : Int32) (p2 : Int32) (p3 : Int32) (hC : Cx p l e R s m args meth c D loc cy A cX8_doCommands 6 (some .boolean) RX8 7 212 0 0)  : ∀ (n6 : Nat) (x4 : Int32) (x5 : Int32) (h : HD), AW p l e R s m args below meth c D loc cy A 6 (QM below D loc cy A args s) (fun (r : Option (Bool × HD)) => r.map (fun r => (.inr (some (.int (b2i r.1))), r.2))) (0, 0) 6 [(0, .ref (loc (6, 0, 0))), (2, .int p2), (3, .int p3), (4, .int x4), (5, .int x5)] [] h (jX8_doCommands_l2_L6 p1 p2 p3 n6 x4 x5 h) := by
  intro n6
  induction n6 with
  | zero => intro x4 x5 h; exact aw_none rfl
  | succ n6 ih6 =>
    intro x4 x5 h
    rw [jX8_doCommands_l2_L6]
    refine aw_iload hC dX8_doCommands_6 rfl ?_
    refine aw_bipush hC dX8_doCommands_8 (v := 30) (by decide) ?_
    refine aw_icmp_ge hC dX8_doCommands_10 (tgt := 93) (by decide) ?_ ?_
    · refine aw_iconst hC dX8_doCommands_93 (v := 1) (by decide) ?_
      exact aw_zret hC dX8_doCommands_94 rfl (show _ = b2i true from rfl) rfl
    · refine aw_iload hC dX8_doCommands_13 rfl ?_
      refine aw_iload_n hC dX8_doCommands_15 rfl ?_
      refine aw_icmp_ge hC dX8_doCommands_16 (tgt := 93) (by decide) ?_ ?_
      · refine aw_iconst hC dX8_doCommands_93 (v := 1) (by decide) ?_
        exact aw_zret hC dX8_doCommands_94 rfl (show _ = b2i true from rfl) rfl
      · refine aw_aload_n hC dX8_doCommands_19 rfl ?_
        refine aw_gfR hC dX8_doCommands_20 fg_RX8_35 rfl rfl rm_6_0_0 ?_
        refine aw_iload hC dX8_doCommands_23 rfl ?_
        refine aw_bind rfl (fun q1 hq1 => ?_)
        refine aw_cVo hC dX8_doCommands_25 cv_RX8_480 rfl rm_3_0_0 (am_some (inj := (fun r => (.inr (some (cmv loc r)), h))) hq1 (A_X5_commandAt _ (hC.2.2.2.2.2.2.2.2.2.2.2.2.1) _ _ _ x4 h)) rfl rfl rfl rfl rfl ⟨rfl, rfl⟩ ?_
        refine aw_oc ?_ (fun k2 => aw_guardP rfl (fun g3 => ?_))
        · refine aw_gsO hC dX8_doCommands_28 tw5_49 (st_rep (cx_st hC)) ?_
          refine aw_acmpneN hC dX8_doCommands_31 (tgt := 46) (by decide) ?_
          refine aw_aload_n hC dX8_doCommands_46 rfl ?_
          refine aw_gfI hC dX8_doCommands_47 fg_RX8_88 rfl rm_6_0_0 ?_
          refine aw_bipush hC dX8_doCommands_50 (v := 40) (by decide) ?_
          refine aw_icmp_ge hC dX8_doCommands_52 (tgt := 64) (by decide) ?_ ?_
          · refine aw_iconst hC dX8_doCommands_64 (v := 0) (by decide) ?_
            exact aw_zret hC dX8_doCommands_65 rfl (show _ = b2i false from rfl) rfl
          · refine aw_aload_n hC dX8_doCommands_55 rfl ?_
            refine aw_iload hC dX8_doCommands_56 rfl ?_
            refine aw_bind rfl (fun q4 hq4 => ?_)
            refine aw_cVb hC dX8_doCommands_58 cv_RX8_493 rfl rm_6_0_0 (am_some (inj := (fun r => (.inr (some (.int (b2i r.1))), r.2))) hq4 (A_X8_doCommand _ (hC.2.2.2.2.2.2.2.2.2.2.2.2.1) _ _ _ x4 h)) rfl rfl rfl rfl rfl ⟨rfl, rfl⟩ ?_
            refine aw_if_ne_b hC dX8_doCommands_61 (tgt := 66) (by decide) ?_ ?_
            · refine aw_aload_n hC dX8_doCommands_66 rfl ?_
              refine aw_dup hC dX8_doCommands_67 rfl ?_
              refine aw_gfI hC dX8_doCommands_68 fg_RX8_88 rfl rm_6_0_0 ?_
              refine aw_iconst hC dX8_doCommands_71 (v := 1) (by decide) ?_
              refine aw_iadd hC dX8_doCommands_72 ?_
              refine aw_pfI hC dX8_doCommands_73 fg_RX8_88 fp_6_15 rfl rm_6_0_0 (fun h5 => ?_)
              refine aw_aload_n hC dX8_doCommands_76 rfl ?_
              refine aw_gfR hC dX8_doCommands_77 fg_RX8_35 rfl rfl rm_6_0_0 ?_
              refine aw_iload hC dX8_doCommands_80 rfl ?_
              refine aw_bind rfl (fun q6 hq6 => ?_)
              refine aw_cVi hC dX8_doCommands_82 cv_RX8_496 rfl rm_3_0_0 (am_some (inj := (fun r => (.inr (some (.int r)), h5))) hq6 (A_X5_behind _ (hC.2.2.2.2.2.2.2.2.2.2.2.2.1) _ _ _ x4 h5)) rfl rfl rfl rfl rfl ⟨rfl, rfl⟩ ?_
              refine aw_istore hC dX8_doCommands_85 (by decide) ?_
              refine aw_iinc hC dX8_doCommands_87 rfl (v := x5 + 1) (by first | rfl | decide) (by decide) ?_
              refine aw_goto hC dX8_doCommands_90 (tgt := 6) (by decide) ?_
              refine aw_sub [0, 2, 3, 4, 5] ?_
              exact ih6 q6 (x5 + 1) h5
            · refine aw_iconst hC dX8_doCommands_64 (v := 0) (by decide) ?_
              exact aw_zret hC dX8_doCommands_65 rfl (show _ = b2i false from rfl) rfl
        · refine aw_gsO hC dX8_doCommands_28 tw5_49 (st_rep (cx_st hC)) ?_
          refine aw_acmpne hC dX8_doCommands_31 (tgt := 46) (by decide) g3 (by decide) ?_ ?_
          · refine aw_aload_n hC dX8_doCommands_46 rfl ?_
            refine aw_gfI hC dX8_doCommands_47 fg_RX8_88 rfl rm_6_0_0 ?_
            refine aw_bipush hC dX8_doCommands_50 (v := 40) (by decide) ?_
            refine aw_icmp_ge hC dX8_doCommands_52 (tgt := 64) (by decide) ?_ ?_
            · refine aw_iconst hC dX8_doCommands_64 (v := 0) (by decide) ?_
              exact aw_zret hC dX8_doCommands_65 rfl (show _ = b2i false from rfl) rfl
            · refine aw_aload_n hC dX8_doCommands_55 rfl ?_
              refine aw_iload hC dX8_doCommands_56 rfl ?_
              refine aw_bind rfl (fun q7 hq7 => ?_)
              refine aw_cVb hC dX8_doCommands_58 cv_RX8_493 rfl rm_6_0_0 (am_some (inj := (fun r => (.inr (some (.int (b2i r.1))), r.2))) hq7 (A_X8_doCommand _ (hC.2.2.2.2.2.2.2.2.2.2.2.2.1) _ _ _ x4 h)) rfl rfl rfl rfl rfl ⟨rfl, rfl⟩ ?_
              refine aw_if_ne_b hC dX8_doCommands_61 (tgt := 66) (by decide) ?_ ?_
              · refine aw_aload_n hC dX8_doCommands_66 rfl ?_
                refine aw_dup hC dX8_doCommands_67 rfl ?_
                refine aw_gfI hC dX8_doCommands_68 fg_RX8_88 rfl rm_6_0_0 ?_
                refine aw_iconst hC dX8_doCommands_71 (v := 1) (by decide) ?_
                refine aw_iadd hC dX8_doCommands_72 ?_
                refine aw_pfI hC dX8_doCommands_73 fg_RX8_88 fp_6_15 rfl rm_6_0_0 (fun h8 => ?_)
                refine aw_aload_n hC dX8_doCommands_76 rfl ?_
                refine aw_gfR hC dX8_doCommands_77 fg_RX8_35 rfl rfl rm_6_0_0 ?_
                refine aw_iload hC dX8_doCommands_80 rfl ?_
                refine aw_bind rfl (fun q9 hq9 => ?_)
                refine aw_cVi hC dX8_doCommands_82 cv_RX8_496 rfl rm_3_0_0 (am_some (inj := (fun r => (.inr (some (.int r)), h8))) hq9 (A_X5_behind _ (hC.2.2.2.2.2.2.2.2.2.2.2.2.1) _ _ _ x4 h8)) rfl rfl rfl rfl rfl ⟨rfl, rfl⟩ ?_
                refine aw_istore hC dX8_doCommands_85 (by decide) ?_
                refine aw_iinc hC dX8_doCommands_87 rfl (v := x5 + 1) (by first | rfl | decide) (by decide) ?_
                refine aw_goto hC dX8_doCommands_90 (tgt := 6) (by decide) ?_
                refine aw_sub [0, 2, 3, 4, 5] ?_
                exact ih6 q9 (x5 + 1) h8
              · refine aw_iconst hC dX8_doCommands_64 (v := 0) (by decide) ?_
                exact aw_zret hC dX8_doCommands_65 rfl (show _ = b2i false from rfl) rfl
          · refine aw_aload_n hC dX8_doCommands_34 rfl ?_
            refine aw_iload hC dX8_doCommands_35 rfl ?_
            refine aw_iload_n hC dX8_doCommands_37 rfl ?_
            refine aw_bind rfl (fun q10 hq10 => ?_)
            refine aw_cVb hC dX8_doCommands_38 cv_RX8_490 rfl rm_6_0_0 (am_some (inj := (fun r => (.inr (some (.int (b2i r.1))), r.2))) hq10 (A_X8_doRepeat_l2 _ (hC.2.2.2.2.2.2.2.2.2.2.2.2.1) _ _ _ x4 p3 h)) rfl rfl rfl rfl rfl ⟨rfl, rfl⟩ ?_
            refine aw_if_ne_b hC dX8_doCommands_41 (tgt := 76) (by decide) ?_ ?_
            · refine aw_aload_n hC dX8_doCommands_76 rfl ?_
              refine aw_gfR hC dX8_doCommands_77 fg_RX8_35 rfl rfl rm_6_0_0 ?_
              refine aw_iload hC dX8_doCommands_80 rfl ?_
              refine aw_bind rfl (fun q11 hq11 => ?_)
              refine aw_cVi hC dX8_doCommands_82 cv_RX8_496 rfl rm_3_0_0 (am_some (inj := (fun r => (.inr (some (.int r)), q10.2))) hq11 (A_X5_behind _ (hC.2.2.2.2.2.2.2.2.2.2.2.2.1) _ _ _ x4 q10.2)) rfl rfl rfl rfl rfl ⟨rfl, rfl⟩ ?_
              refine aw_istore hC dX8_doCommands_85 (by decide) ?_
              refine aw_iinc hC dX8_doCommands_87 rfl (v := x5 + 1) (by first | rfl | decide) (by decide) ?_
              refine aw_goto hC dX8_doCommands_90 (tgt := 6) (by decide) ?_
              refine aw_sub [0, 2, 3, 4, 5] ?_
              exact ih6 q11 (x5 + 1) q10.2
            · refine aw_iconst hC dX8_doCommands_44 (v := 0) (by decide) ?_
              exact aw_zret hC dX8_doCommands_45 rfl (show _ = b2i false from rfl) rfl
set_option maxHeartbeats 4000000 in
set_option maxRecDepth 100000 in
theorem A_X8_doCommands_l2 (l : Launch) (hl0 : l.stackTraces = false) (D : va_G) (loc : Rf → Nat) (cy : Nat → ClassId) (p1 : Int32) (p2 : Int32) (p3 : Int32) (h : HD) : AM l D loc cy yX8_doCommands cX8_doCommands 6 (some .boolean) 7 212 [.ref (loc (6, 0, 0)), .int p1, .int p2, .int p3] h ((jX8_doCommands_l2 p1 p2 p3 h).map (fun r => (.inr (some (.int (b2i r.1))), r.2))) := by
  refine am_start (y := yX8_doCommands) (av := [.ref (loc (6, 0, 0)), .int p1, .int p2, .int p3]) (nL := 6) (h := h) (RF := fun (r : Option (Bool × HD)) => r.map (fun r => (.inr (some (.int (b2i r.1))), r.2))) (x := jX8_doCommands_l2 p1 p2 p3 h) hl0 (by decide +kernel) rfl ?_
  intro p e R s m below meth c A hC
  unfold jX8_doCommands_l2
  refine aw_iload_n hC dX8_doCommands_0 rfl ?_
  refine aw_istore hC dX8_doCommands_1 (by decide) ?_
  refine aw_iconst hC dX8_doCommands_3 (v := 0) (by decide) ?_
  refine aw_istore hC dX8_doCommands_4 (by decide) ?_
  refine aw_sub [0, 2, 3, 4, 5] ?_
  exact L_X8_doCommands_l2_6 p1 p2 p3  hC FU p1 (0 : Int32) h
set_option maxHeartbeats 4000000 in
set_option maxRecDepth 100000 in
theorem L_X8_doRepeat_l3_16 (p1 : Int32) (p2 : Int32) (hC : Cx p l e R s m args meth c D loc cy A cX8_doRepeat 4 (some .boolean) RX8 8 237 0 0)  : ∀ (n16 : Nat) (x3 : Int32) (h : HD), AW p l e R s m args below meth c D loc cy A 4 (QM below D loc cy A args s) (fun (r : Option (Bool × HD)) => r.map (fun r => (.inr (some (.int (b2i r.1))), r.2))) (0, 0) 16 [(0, .ref (loc (6, 0, 0))), (1, .int p1), (2, .int p2), (3, .int x3)] [] h (jX8_doRepeat_l3_L16 p1 p2 n16 x3 h) := by
  intro n16
  induction n16 with
  | zero => intro x3 h; exact aw_none rfl
  | succ n16 ih16 =>
    intro x3 h
    rw [jX8_doRepeat_l3_L16]
    refine aw_iload_n hC dX8_doRepeat_16 rfl ?_
    refine aw_if_le hC dX8_doRepeat_17 (tgt := 49) (by decide) ?_ ?_
    · refine aw_iconst hC dX8_doRepeat_49 (v := 1) (by decide) ?_
      exact aw_zret hC dX8_doRepeat_50 rfl (show _ = b2i true from rfl) rfl
    · refine aw_aload_n hC dX8_doRepeat_20 rfl ?_
      refine aw_iload_n hC dX8_doRepeat_21 rfl ?_
      refine aw_iconst hC dX8_doRepeat_22 (v := 1) (by decide) ?_
      refine aw_iadd hC dX8_doRepeat_23 ?_
      refine aw_aload_n hC dX8_doRepeat_24 rfl ?_
      refine aw_gfR hC dX8_doRepeat_25 fg_RX8_35 rfl rfl rm_6_0_0 ?_
      refine aw_iload_n hC dX8_doRepeat_28 rfl ?_
      refine aw_bind rfl (fun q2 hq2 => ?_)
      refine aw_cVi hC dX8_doRepeat_29 cv_RX8_496 rfl rm_3_0_0 (am_some (inj := (fun r => (.inr (some (.int r)), h))) hq2 (A_X5_behind _ (hC.2.2.2.2.2.2.2.2.2.2.2.2.1) _ _ _ p1 h)) rfl rfl rfl rfl rfl ⟨rfl, rfl⟩ ?_
      refine aw_iload_n hC dX8_doRepeat_32 rfl ?_
      refine aw_iconst hC dX8_doRepeat_33 (v := 1) (by decide) ?_
      refine aw_iadd hC dX8_doRepeat_34 ?_
      refine aw_bind rfl (fun q3 hq3 => ?_)
      refine aw_cVb hC dX8_doRepeat_35 cv_RX8_151 rfl rm_6_0_0 (am_some (inj := (fun r => (.inr (some (.int (b2i r.1))), r.2))) hq3 (A_X8_doCommands_l2 _ (hC.2.2.2.2.2.2.2.2.2.2.2.2.1) _ _ _ (p1 + (1 : Int32)) q2 (p2 + (1 : Int32)) h)) rfl rfl rfl rfl rfl ⟨rfl, rfl⟩ ?_
      refine aw_if_ne_b hC dX8_doRepeat_38 (tgt := 43) (by decide) ?_ ?_
      · refine aw_iinc hC dX8_doRepeat_43 rfl (v := x3 + (-1)) (by first | rfl | decide) (by decide) ?_
        refine aw_goto hC dX8_doRepeat_46 (tgt := 16) (by decide) ?_
        refine aw_sub [0, 1, 2, 3] ?_
        exact ih16 (x3 + (-1)) q3.2
      · refine aw_iconst hC dX8_doRepeat_41 (v := 0) (by decide) ?_
        exact aw_zret hC dX8_doRepeat_42 rfl (show _ = b2i false from rfl) rfl
set_option maxHeartbeats 4000000 in
set_option maxRecDepth 100000 in
theorem A_X8_doRepeat_l3 (l : Launch) (hl0 : l.stackTraces = false) (D : va_G) (loc : Rf → Nat) (cy : Nat → ClassId) (p1 : Int32) (p2 : Int32) (h : HD) : AM l D loc cy yX8_doRepeat cX8_doRepeat 4 (some .boolean) 8 237 [.ref (loc (6, 0, 0)), .int p1, .int p2] h ((jX8_doRepeat_l3 p1 p2 h).map (fun r => (.inr (some (.int (b2i r.1))), r.2))) := by
  refine am_start (y := yX8_doRepeat) (av := [.ref (loc (6, 0, 0)), .int p1, .int p2]) (nL := 4) (h := h) (RF := fun (r : Option (Bool × HD)) => r.map (fun r => (.inr (some (.int (b2i r.1))), r.2))) (x := jX8_doRepeat_l3 p1 p2 h) hl0 (by decide +kernel) rfl ?_
  intro p e R s m below meth c A hC
  unfold jX8_doRepeat_l3
  refine aw_iload_n hC dX8_doRepeat_0 rfl ?_
  refine aw_iconst hC dX8_doRepeat_1 (v := 2) (by decide) ?_
  refine aw_icmp_lt hC dX8_doRepeat_2 (tgt := 7) (by decide) ?_ ?_
  · refine aw_aload_n hC dX8_doRepeat_7 rfl ?_
    refine aw_gfR hC dX8_doRepeat_8 fg_RX8_35 rfl rfl rm_6_0_0 ?_
    refine aw_iload_n hC dX8_doRepeat_11 rfl ?_
    refine aw_bind rfl (fun q1 hq1 => ?_)
    refine aw_cVi hC dX8_doRepeat_12 cv_RX8_499 rfl rm_3_0_0 (am_some (inj := (fun r => (.inr (some (.int r)), h))) hq1 (A_X5_numberAt _ (hC.2.2.2.2.2.2.2.2.2.2.2.2.1) _ _ _ p1 h)) rfl rfl rfl rfl rfl ⟨rfl, rfl⟩ ?_
    refine aw_istore_n hC dX8_doRepeat_15 (by decide) ?_
    refine aw_sub [0, 1, 2, 3] ?_
    exact L_X8_doRepeat_l3_16 p1 p2  hC FU q1 h
  · refine aw_iconst hC dX8_doRepeat_5 (v := 0) (by decide) ?_
    exact aw_zret hC dX8_doRepeat_6 rfl (show _ = b2i false from rfl) rfl
end PRF
