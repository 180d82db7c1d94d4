section PRF
variable {p : Program} {l : Launch} {e : Env} {R : Room} {s : State} {m : MethodId} {args : Array Value} {below : List Frame} {meth : Method} {c : Code} {D : va_G} {loc : Rf → Nat} {cy : Nat → ClassId} {A : Nat → Prop}
set_option maxHeartbeats 4000000 in
set_option maxRecDepth 100000 in
theorem L_X8_wordOf_4 (u1 : Nat × List Int32) (hu1 : u1 ∈ TXT) (h : HD) (hC : Cx p l e R s m args meth c D loc cy A cX8_wordOf 4 (some .long) RX8 4 140 0 0)  : ∀ (n4 : Nat) (x1 : Int64) (x3 : Int32), AW p l e R s m args below meth c D loc cy A 4 (QM below D loc cy A args s) (fun (r : Option Int64) => r.map (fun r => (.inr (some (.long r)), h))) (0, 0) 4 [(0, .ref (loc (10, u1.1, 0))), (1, .long x1), (3, .int x3)] [] h (jX8_wordOf_L4 u1 h n4 x1 x3) := by
  intro n4
  induction n4 with
  | zero => intro x1 x3; exact aw_none rfl
  | succ n4 ih4 =>
    intro x1 x3
    rw [jX8_wordOf_L4]
    refine aw_iload_n hC dX8_wordOf_4 rfl ?_
    refine aw_aload_n hC dX8_wordOf_5 rfl ?_
    refine aw_slen hC dX8_wordOf_6 hu1 tw4_121 rfl rfl rfl ⟨rfl, rfl⟩ ?_
    refine aw_icmp_ge hC dX8_wordOf_9 (tgt := 40) (by decide) ?_ ?_
    · refine aw_lload_n hC dX8_wordOf_40 rfl ?_
      exact aw_lret hC dX8_wordOf_41 rfl rfl
    · refine aw_iload_n hC dX8_wordOf_12 rfl ?_
      refine aw_bipush hC dX8_wordOf_13 (v := 8) (by decide) ?_
      refine aw_icmp_ge hC dX8_wordOf_15 (tgt := 40) (by decide) ?_ ?_
      · refine aw_lload_n hC dX8_wordOf_40 rfl ?_
        exact aw_lret hC dX8_wordOf_41 rfl rfl
      · refine aw_lload_n hC dX8_wordOf_18 rfl ?_
        refine aw_iload_n hC dX8_wordOf_19 rfl ?_
        refine aw_aload_n hC dX8_wordOf_20 rfl ?_
        refine aw_iload_n hC dX8_wordOf_21 rfl ?_
        refine aw_guard rfl (fun g1 => ?_)
        refine aw_schar hC dX8_wordOf_22 hu1 g1 tw4_131 rfl rfl rfl ⟨rfl, rfl⟩ ?_
        refine aw_bipush hC dX8_wordOf_25 (v := 97) (by decide) ?_
        refine aw_isub hC dX8_wordOf_27 ?_
        refine aw_iconst hC dX8_wordOf_28 (v := 1) (by decide) ?_
        refine aw_iadd hC dX8_wordOf_29 ?_
        refine aw_cSj hC dX8_wordOf_30 cv_RX8_538 (A_X8_withLetter _ (hC.2.2.2.2.2.2.2.2.2.2.2.2.1) _ _ _ x1 x3 (((u1.2.getD x3.toNatClampNeg 0) - (97 : Int32)) + (1 : Int32)) h) rfl rfl rfl rfl rfl ⟨rfl, rfl⟩ ?_
        refine aw_lstore_n hC dX8_wordOf_33 (by decide) ?_
        refine aw_iinc hC dX8_wordOf_34 rfl (v := x3 + 1) (by first | rfl | decide) (by decide) ?_
        refine aw_goto hC dX8_wordOf_37 (tgt := 4) (by decide) ?_
        refine aw_sub [0, 1, 3] ?_
        exact ih4 (jX8_withLetter x1 x3 (((u1.2.getD x3.toNatClampNeg 0) - (97 : Int32)) + (1 : Int32)) h) (x3 + 1)
set_option maxHeartbeats 4000000 in
set_option maxRecDepth 100000 in
theorem A_X8_wordOf (l : Launch) (hl0 : l.stackTraces = false) (D : va_G) (loc : Rf → Nat) (cy : Nat → ClassId) (u1 : Nat × List Int32) (hu1 : u1 ∈ TXT) (h : HD) : AM l D loc cy yX8_wordOf cX8_wordOf 4 (some .long) 4 140 [.ref (loc (10, u1.1, 0))] h ((jX8_wordOf u1 h).map (fun r => (.inr (some (.long r)), h))) := by
  refine am_start (y := yX8_wordOf) (av := [.ref (loc (10, u1.1, 0))]) (nL := 4) (h := h) (RF := fun (r : Option Int64) => r.map (fun r => (.inr (some (.long r)), h))) (x := jX8_wordOf u1 h) hl0 (by decide +kernel) rfl ?_
  intro p e R s m below meth c A hC
  unfold jX8_wordOf
  refine aw_lconst hC dX8_wordOf_0 (v := 0) (by decide) ?_
  refine aw_lstore_n hC dX8_wordOf_1 (by decide) ?_
  refine aw_iconst hC dX8_wordOf_2 (v := 0) (by decide) ?_
  refine aw_istore_n hC dX8_wordOf_3 (by decide) ?_
  refine aw_sub [0, 1, 3] ?_
  exact L_X8_wordOf_4 u1 hu1 h  hC FU (0 : Int64) (0 : Int32)
set_option maxHeartbeats 4000000 in
set_option maxRecDepth 100000 in
theorem A_X6_isWord_ (l : Launch) (hl0 : l.stackTraces = false) (D : va_G) (loc : Rf → Nat) (cy : Nat → ClassId) (u1 : Nat × List Int32) (hu1 : u1 ∈ TXT) (h : HD) : AM l D loc cy yX6_isWord_ cX6_isWord_ 2 (some .boolean) 5 163 [.ref (loc (4, 0, 0)), .ref (loc (10, u1.1, 0))] h ((jX6_isWord_ u1 h).map (fun r => (.inr (some (.int (b2i r))), h))) := by
  refine am_start (y := yX6_isWord_) (av := [.ref (loc (4, 0, 0)), .ref (loc (10, u1.1, 0))]) (nL := 2) (h := h) (RF := fun (r : Option Bool) => r.map (fun r => (.inr (some (.int (b2i r))), h))) (x := jX6_isWord_ u1 h) hl0 (by decide +kernel) rfl ?_
  intro p e R s m below meth c A hC
  unfold jX6_isWord_
  refine aw_aload_n hC dX6_isWord__0 rfl ?_
  refine aw_gfI hC dX6_isWord__1 fg_RX6_20 rfl rm_4_0_0 ?_
  refine aw_iconst hC dX6_isWord__4 (v := 1) (by decide) ?_
  refine aw_icmp_ne hC dX6_isWord__5 (tgt := 24) (by decide) ?_ ?_
  · refine aw_iconst hC dX6_isWord__24 (v := 0) (by decide) ?_
    exact aw_zret hC dX6_isWord__25 rfl (show _ = b2i false from rfl) rfl
  · refine aw_aload_n hC dX6_isWord__8 rfl ?_
    refine aw_gfJ hC dX6_isWord__9 fg_RX6_30 rfl rm_4_0_0 ?_
    refine aw_aload_n hC dX6_isWord__12 rfl ?_
    refine aw_bind rfl (fun q1 hq1 => ?_)
    refine aw_cNj hC dX6_isWord__13 cv_RX6_71 (am_some (inj := (fun r => (.inr (some (.long r)), h))) hq1 (A_X8_wordOf _ (hC.2.2.2.2.2.2.2.2.2.2.2.2.1) _ _ _ u1 hu1 h)) rfl rfl rfl rfl rfl ⟨rfl, rfl⟩ ?_
    refine aw_lcmp hC dX6_isWord__16 ?_
    refine aw_if_ne hC dX6_isWord__17 (tgt := 24) (by decide) ?_ ?_
    · refine aw_iconst hC dX6_isWord__24 (v := 0) (by decide) ?_
      exact aw_zret hC dX6_isWord__25 rfl (show _ = b2i false from rfl) rfl
    · refine aw_iconst hC dX6_isWord__20 (v := 1) (by decide) ?_
      refine aw_goto hC dX6_isWord__21 (tgt := 25) (by decide) ?_
      exact aw_zret hC dX6_isWord__25 rfl (show _ = b2i true from rfl) rfl
set_option maxHeartbeats 4000000 in
set_option maxRecDepth 100000 in
theorem A_X6_readWord (l : Launch) (hl0 : l.stackTraces = false) (D : va_G) (loc : Rf → Nat) (cy : Nat → ClassId) (u1 : Nat × List Int32) (hu1 : u1 ∈ TXT) (h : HD) : AM l D loc cy yX6_readWord cX6_readWord 2 (some .boolean) 6 184 [.ref (loc (4, 0, 0)), .ref (loc (10, u1.1, 0))] h ((jX6_readWord u1 h).map (fun r => (.inr (some (.int (b2i r.1))), r.2))) := by
  refine am_start (y := yX6_readWord) (av := [.ref (loc (4, 0, 0)), .ref (loc (10, u1.1, 0))]) (nL := 2) (h := h) (RF := fun (r : Option (Bool × HD)) => r.map (fun r => (.inr (some (.int (b2i r.1))), r.2))) (x := jX6_readWord u1 h) hl0 (by decide +kernel) rfl ?_
  intro p e R s m below meth c A hC
  unfold jX6_readWord
  refine aw_aload_n hC dX6_readWord_0 rfl ?_
  refine aw_bind rfl (fun q1 hq1 => ?_)
  refine aw_cVv hC dX6_readWord_1 cv_RX6_75 rfl rm_4_0_0 (am_some (inj := (fun r => (.inr (none), r))) hq1 (A_X6_advance _ (hC.2.2.2.2.2.2.2.2.2.2.2.2.1) _ _ _ h)) rfl rfl rfl rfl rfl ⟨rfl, rfl⟩ ?_
  refine aw_aload_n hC dX6_readWord_4 rfl ?_
  refine aw_aload_n hC dX6_readWord_5 rfl ?_
  refine aw_bind rfl (fun q2 hq2 => ?_)
  refine aw_cVb hC dX6_readWord_6 cv_RX6_78 rfl rm_4_0_0 (am_some (inj := (fun r => (.inr (some (.int (b2i r))), q1))) hq2 (A_X6_isWord_ _ (hC.2.2.2.2.2.2.2.2.2.2.2.2.1) _ _ _ u1 hu1 q1)) rfl rfl rfl rfl rfl ⟨rfl, rfl⟩ ?_
  refine aw_if_ne_b hC dX6_readWord_9 (tgt := 20) (by decide) ?_ ?_
  · refine aw_iconst hC dX6_readWord_20 (v := 1) (by decide) ?_
    refine aw_goto hC dX6_readWord_21 (tgt := 25) (by decide) ?_
    exact aw_zret hC dX6_readWord_25 rfl (show _ = b2i true from rfl) rfl
  · refine aw_aload_n hC dX6_readWord_12 rfl ?_
    refine aw_iconst hC dX6_readWord_13 (v := 1) (by decide) ?_
    refine aw_bind rfl (fun q3 hq3 => ?_)
    refine aw_cVb hC dX6_readWord_14 cv_RX6_82 rfl rm_4_0_0 (am_some (inj := (fun r => (.inr (some (.int (b2i r.1))), r.2))) hq3 (A_X6_fail _ (hC.2.2.2.2.2.2.2.2.2.2.2.2.1) _ _ _ (1 : Int32) q1)) rfl rfl rfl rfl rfl ⟨rfl, rfl⟩ ?_
    refine aw_if_eq_b hC dX6_readWord_17 (tgt := 24) (by decide) ?_ ?_
    · refine aw_iconst hC dX6_readWord_24 (v := 0) (by decide) ?_
      exact aw_zret hC dX6_readWord_25 rfl (show _ = b2i false from rfl) rfl
    · refine aw_iconst hC dX6_readWord_20 (v := 1) (by decide) ?_
      refine aw_goto hC dX6_readWord_21 (tgt := 25) (by decide) ?_
      exact aw_zret hC dX6_readWord_25 rfl (show _ = b2i true from rfl) rfl
set_option maxHeartbeats 4000000 in
set_option maxRecDepth 100000 in
theorem A_X8_readCar (l : Launch) (hl0 : l.stackTraces = false) (D : va_G) (loc : Rf → Nat) (cy : Nat → ClassId) (r1 : Nat) (hr1 : r1 < 10) (p2 : Int32) (h : HD) : AM l D loc cy yX8_readCar cX8_readCar 5 (some .boolean) 6 184 [.ref (loc (6, 0, 0)), .ref (loc (1, r1, 0)), .int p2] h ((jX8_readCar r1 p2 h).map (fun r => (.inr (some (.int (b2i r.1))), r.2))) := by
  refine am_start (y := yX8_readCar) (av := [.ref (loc (6, 0, 0)), .ref (loc (1, r1, 0)), .int p2]) (nL := 5) (h := h) (RF := fun (r : Option (Bool × HD)) => r.map (fun r => (.inr (some (.int (b2i r.1))), r.2))) (x := jX8_readCar r1 p2 h) hl0 (by decide +kernel) rfl ?_
  intro p e R s m below meth c A hC
  unfold jX8_readCar
  refine aw_aload_n hC dX8_readCar_0 rfl ?_
  refine aw_gfR hC dX8_readCar_1 fg_RX8_12 rfl rfl rm_6_0_0 ?_
  refine aw_ldcS hC dX8_readCar_4 (t := "car") (q := 199) (by decide +kernel) ?_
  refine aw_bind rfl (fun q1 hq1 => ?_)
  refine aw_cVb hC dX8_readCar_6 cv_RX8_189 rfl rm_4_0_0 (am_some (inj := (fun r => (.inr (some (.int (b2i r))), h))) hq1 (A_X6_isWord_ _ (hC.2.2.2.2.2.2.2.2.2.2.2.2.1) _ _ _ tx199 tx199_in h)) rfl rfl rfl rfl rfl ⟨rfl, rfl⟩ ?_
  refine aw_if_ne_b hC dX8_readCar_9 (tgt := 21) (by decide) ?_ ?_
  · refine aw_aload_n hC dX8_readCar_21 rfl ?_
    refine aw_gfR hC dX8_readCar_22 fg_RX8_12 rfl rfl rm_6_0_0 ?_
    refine aw_bind rfl (fun q2 hq2 => ?_)
    refine aw_cVb hC dX8_readCar_25 cv_RX8_212 rfl rm_4_0_0 (am_some (inj := (fun r => (.inr (some (.int (b2i r.1))), r.2))) hq2 (A_X6_readName _ (hC.2.2.2.2.2.2.2.2.2.2.2.2.1) _ _ _ h)) rfl rfl rfl rfl rfl ⟨rfl, rfl⟩ ?_
    refine aw_if_ne_b hC dX8_readCar_28 (tgt := 33) (by decide) ?_ ?_
    · refine aw_aload_n hC dX8_readCar_33 rfl ?_
      refine aw_gfR hC dX8_readCar_34 fg_RX8_12 rfl rfl rm_6_0_0 ?_
      refine aw_cVj hC dX8_readCar_37 cv_RX8_215 rfl rm_4_0_0 (A_X6_word _ (hC.2.2.2.2.2.2.2.2.2.2.2.2.1) _ _ _ q2.2) rfl rfl rfl rfl rfl ⟨rfl, rfl⟩ ?_
      refine aw_lstore_n hC dX8_readCar_40 (by decide) ?_
      refine aw_aload_n hC dX8_readCar_41 rfl ?_
      refine aw_lload_n hC dX8_readCar_42 rfl ?_
      refine aw_bind rfl (fun q3 hq3 => ?_)
      refine aw_cVi hC dX8_readCar_43 cv_RX8_219 rfl (rv_1_0 hr1) (am_some (inj := (fun r => (.inr (some (.int r)), q2.2))) hq3 (A_X2_carNamed _ (hC.2.2.2.2.2.2.2.2.2.2.2.2.1) _ _ _ r1 hr1 (jX6_word q2.2) q2.2)) rfl rfl rfl rfl rfl ⟨rfl, rfl⟩ ?_
      refine aw_iconst hC dX8_readCar_46 (v := -1) (by decide) ?_
      refine aw_icmp_eq hC dX8_readCar_47 (tgt := 59) (by decide) ?_ ?_
      · refine aw_aload_n hC dX8_readCar_59 rfl ?_
        refine aw_gfR hC dX8_readCar_60 fg_RX8_12 rfl rfl rm_6_0_0 ?_
        refine aw_iconst hC dX8_readCar_63 (v := 0) (by decide) ?_
        refine aw_iload_n hC dX8_readCar_64 rfl ?_
        refine aw_bind rfl (fun q4 hq4 => ?_)
        refine aw_cVb hC dX8_readCar_65 cv_RX8_173 rfl rm_4_0_0 (am_some (inj := (fun r => (.inr (some (.int (b2i r.1))), r.2))) hq4 (A_X6_readNumber _ (hC.2.2.2.2.2.2.2.2.2.2.2.2.1) _ _ _ (0 : Int32) p2 q2.2)) rfl rfl rfl rfl rfl ⟨rfl, rfl⟩ ?_
        refine aw_if_ne_b hC dX8_readCar_68 (tgt := 73) (by decide) ?_ ?_
        · refine aw_aload_n hC dX8_readCar_73 rfl ?_
          refine aw_lload_n hC dX8_readCar_74 rfl ?_
          refine aw_aload_n hC dX8_readCar_75 rfl ?_
          refine aw_gfR hC dX8_readCar_76 fg_RX8_12 rfl rfl rm_6_0_0 ?_
          refine aw_cVi hC dX8_readCar_79 cv_RX8_177 rfl rm_4_0_0 (A_X6_number _ (hC.2.2.2.2.2.2.2.2.2.2.2.2.1) _ _ _ q4.2) rfl rfl rfl rfl rfl ⟨rfl, rfl⟩ ?_
          refine aw_bind rfl (fun q5 hq5 => ?_)
          refine aw_cVv hC dX8_readCar_82 cv_RX8_223 rfl (rv_1_0 hr1) (am_some (inj := (fun r => (.inr (none), r))) hq5 (A_X2_add _ (hC.2.2.2.2.2.2.2.2.2.2.2.2.1) _ _ _ r1 hr1 (jX6_word q2.2) (jX6_number q4.2) q4.2)) rfl rfl rfl rfl rfl ⟨rfl, rfl⟩ ?_
          refine aw_aload_n hC dX8_readCar_85 rfl ?_
          refine aw_gfR hC dX8_readCar_86 fg_RX8_12 rfl rfl rm_6_0_0 ?_
          refine aw_bipush hC dX8_readCar_89 (v := 59) (by decide) ?_
          refine aw_bind rfl (fun q6 hq6 => ?_)
          refine aw_cVb hC dX8_readCar_91 cv_RX8_180 rfl rm_4_0_0 (am_some (inj := (fun r => (.inr (some (.int (b2i r.1))), r.2))) hq6 (A_X6_readMark _ (hC.2.2.2.2.2.2.2.2.2.2.2.2.1) _ _ _ (59 : Int32) q5)) rfl rfl rfl rfl rfl ⟨rfl, rfl⟩ ?_
          refine aw_if_ne_b hC dX8_readCar_94 (tgt := 99) (by decide) ?_ ?_
          · refine aw_aload_n hC dX8_readCar_99 rfl ?_
            refine aw_gfR hC dX8_readCar_100 fg_RX8_12 rfl rfl rm_6_0_0 ?_
            refine aw_bind rfl (fun q7 hq7 => ?_)
            refine aw_cVv hC dX8_readCar_103 cv_RX8_184 rfl rm_4_0_0 (am_some (inj := (fun r => (.inr (none), r))) hq7 (A_X6_advance _ (hC.2.2.2.2.2.2.2.2.2.2.2.2.1) _ _ _ q6.2)) rfl rfl rfl rfl rfl ⟨rfl, rfl⟩ ?_
            refine aw_iconst hC dX8_readCar_106 (v := 1) (by decide) ?_
            exact aw_zret hC dX8_readCar_107 rfl (show _ = b2i true from rfl) rfl
          · refine aw_iconst hC dX8_readCar_97 (v := 0) (by decide) ?_
            exact aw_zret hC dX8_readCar_98 rfl (show _ = b2i false from rfl) rfl
        · refine aw_iconst hC dX8_readCar_71 (v := 0) (by decide) ?_
          exact aw_zret hC dX8_readCar_72 rfl (show _ = b2i false from rfl) rfl
      · refine aw_aload_n hC dX8_readCar_50 rfl ?_
        refine aw_gfR hC dX8_readCar_51 fg_RX8_12 rfl rfl rm_6_0_0 ?_
        refine aw_iconst hC dX8_readCar_54 (v := 3) (by decide) ?_
        refine aw_bind rfl (fun q8 hq8 => ?_)
        refine aw_cVb hC dX8_readCar_55 cv_RX8_201 rfl rm_4_0_0 (am_some (inj := (fun r => (.inr (some (.int (b2i r.1))), r.2))) hq8 (A_X6_fail _ (hC.2.2.2.2.2.2.2.2.2.2.2.2.1) _ _ _ (3 : Int32) q2.2)) rfl rfl rfl rfl rfl ⟨rfl, rfl⟩ ?_
        exact aw_zret hC dX8_readCar_58 rfl (show _ = b2i q8.1 from rfl) rfl
    · refine aw_iconst hC dX8_readCar_31 (v := 0) (by decide) ?_
      exact aw_zret hC dX8_readCar_32 rfl (show _ = b2i false from rfl) rfl
  · refine aw_aload_n hC dX8_readCar_12 rfl ?_
    refine aw_gfR hC dX8_readCar_13 fg_RX8_12 rfl rfl rm_6_0_0 ?_
    refine aw_iconst hC dX8_readCar_16 (v := 1) (by decide) ?_
    refine aw_bind rfl (fun q9 hq9 => ?_)
    refine aw_cVb hC dX8_readCar_17 cv_RX8_201 rfl rm_4_0_0 (am_some (inj := (fun r => (.inr (some (.int (b2i r.1))), r.2))) hq9 (A_X6_fail _ (hC.2.2.2.2.2.2.2.2.2.2.2.2.1) _ _ _ (1 : Int32) h)) rfl rfl rfl rfl rfl ⟨rfl, rfl⟩ ?_
    exact aw_zret hC dX8_readCar_20 rfl (show _ = b2i q9.1 from rfl) rfl
set_option maxHeartbeats 4000000 in
set_option maxRecDepth 100000 in
theorem L_X8_readSystem_84 (r1 : Nat) (hr1 : r1 < 10) (x2 : Int32) (k106 : HD → Option (Bool × HD)) (hC : Cx p l e R s m args meth c D loc cy A cX8_readSystem 4 (some .boolean) RX8 7 208 0 0) (hk106 : ∀  (h2 : HD), AW p l e R s m args below meth c D loc cy A 4 (QM below D loc cy A args s) (fun (r : Option (Bool × HD)) => r.map (fun r => (.inr (some (.int (b2i r.1))), r.2))) (0, 0) 106 [(0, .ref (loc (6, 0, 0)))] [] h2 (k106  h2)) : ∀ (n84 : Nat) (x3 : Int32) (h : HD), AW p l e R s m args below meth c D loc cy A 4 (QM below D loc cy A args s) (fun (r : Option (Bool × HD)) => r.map (fun r => (.inr (some (.int (b2i r.1))), r.2))) (0, 0) 84 [(0, .ref (loc (6, 0, 0))), (1, .ref (loc (1, r1, 0))), (2, .int x2), (3, .int x3)] [] h (jX8_readSystem_L84 r1 x2 k106 n84 x3 h) := by
  intro n84
  induction n84 with
  | zero => intro x3 h; exact aw_none rfl
  | succ n84 ih84 =>
    intro x3 h
    rw [jX8_readSystem_L84]
    refine aw_iload_n hC dX8_readSystem_84 rfl ?_
    refine aw_iload_n hC dX8_readSystem_85 rfl ?_
    refine aw_icmp_ge hC dX8_readSystem_86 (tgt := 106) (by decide) ?_ ?_
    · refine aw_sub [0] ?_
      exact hk106 h
    · refine aw_aload_n hC dX8_readSystem_89 rfl ?_
      refine aw_aload_n hC dX8_readSystem_90 rfl ?_
      refine aw_iload_n hC dX8_readSystem_91 rfl ?_
      refine aw_bind rfl (fun q7 hq7 => ?_)
      refine aw_cVb hC dX8_readSystem_92 cv_RX8_195 rfl rm_6_0_0 (am_some (inj := (fun r => (.inr (some (.int (b2i r.1))), r.2))) hq7 (A_X8_readCar _ (hC.2.2.2.2.2.2.2.2.2.2.2.2.1) _ _ _ r1 hr1 x2 h)) rfl rfl rfl rfl rfl ⟨rfl, rfl⟩ ?_
      refine aw_if_ne_b hC dX8_readSystem_95 (tgt := 100) (by decide) ?_ ?_
      · refine aw_iinc hC dX8_readSystem_100 rfl (v := x3 + 1) (by first | rfl | decide) (by decide) ?_
        refine aw_goto hC dX8_readSystem_103 (tgt := 84) (by decide) ?_
        refine aw_sub [0, 1, 2, 3] ?_
        exact ih84 (x3 + 1) q7.2
      · refine aw_iconst hC dX8_readSystem_98 (v := 0) (by decide) ?_
        exact aw_zret hC dX8_readSystem_99 rfl (show _ = b2i false from rfl) rfl
set_option maxHeartbeats 4000000 in
set_option maxRecDepth 100000 in
theorem A_X8_readSystem (l : Launch) (hl0 : l.stackTraces = false) (D : va_G) (loc : Rf → Nat) (cy : Nat → ClassId) (r1 : Nat) (hr1 : r1 < 10) (h : HD) : AM l D loc cy yX8_readSystem cX8_readSystem 4 (some .boolean) 7 208 [.ref (loc (6, 0, 0)), .ref (loc (1, r1, 0))] h ((jX8_readSystem r1 h).map (fun r => (.inr (some (.int (b2i r.1))), r.2))) := by
  refine am_start (y := yX8_readSystem) (av := [.ref (loc (6, 0, 0)), .ref (loc (1, r1, 0))]) (nL := 4) (h := h) (RF := fun (r : Option (Bool × HD)) => r.map (fun r => (.inr (some (.int (b2i r.1))), r.2))) (x := jX8_readSystem r1 h) hl0 (by decide +kernel) rfl ?_
  intro p e R s m below meth c A hC
  unfold jX8_readSystem
  refine aw_aload_n hC dX8_readSystem_0 rfl ?_
  refine aw_bind rfl (fun q1 hq1 => ?_)
  refine aw_cVv hC dX8_readSystem_1 cv_RX8_164 rfl (rv_1_0 hr1) (am_some (inj := (fun r => (.inr (none), r))) hq1 (A_X2_empty _ (hC.2.2.2.2.2.2.2.2.2.2.2.2.1) _ _ _ r1 hr1 h)) rfl rfl rfl rfl rfl ⟨rfl, rfl⟩ ?_
  refine aw_aload_n hC dX8_readSystem_4 rfl ?_
  refine aw_gfR hC dX8_readSystem_5 fg_RX8_12 rfl rfl rm_6_0_0 ?_
  refine aw_ldcS hC dX8_readSystem_8 (t := "park") (q := 167) (by decide +kernel) ?_
  refine aw_bind rfl (fun q2 hq2 => ?_)
  refine aw_cVb hC dX8_readSystem_10 cv_RX8_169 rfl rm_4_0_0 (am_some (inj := (fun r => (.inr (some (.int (b2i r.1))), r.2))) hq2 (A_X6_readWord _ (hC.2.2.2.2.2.2.2.2.2.2.2.2.1) _ _ _ tx167 tx167_in q1)) rfl rfl rfl rfl rfl ⟨rfl, rfl⟩ ?_
  refine aw_if_eq_b hC dX8_readSystem_13 (tgt := 29) (by decide) ?_ ?_
  · refine aw_iconst hC dX8_readSystem_29 (v := 0) (by decide) ?_
    exact aw_zret hC dX8_readSystem_30 rfl (show _ = b2i false from rfl) rfl
  · refine aw_aload_n hC dX8_readSystem_16 rfl ?_
    refine aw_gfR hC dX8_readSystem_17 fg_RX8_12 rfl rfl rm_6_0_0 ?_
    refine aw_iconst hC dX8_readSystem_20 (v := 0) (by decide) ?_
    refine aw_bipush hC dX8_readSystem_21 (v := 11) (by decide) ?_
    refine aw_bind rfl (fun q3 hq3 => ?_)
    refine aw_cVb hC dX8_readSystem_23 cv_RX8_173 rfl rm_4_0_0 (am_some (inj := (fun r => (.inr (some (.int (b2i r.1))), r.2))) hq3 (A_X6_readNumber _ (hC.2.2.2.2.2.2.2.2.2.2.2.2.1) _ _ _ (0 : Int32) (11 : Int32) q2.2)) rfl rfl rfl rfl rfl ⟨rfl, rfl⟩ ?_
    refine aw_if_ne_b hC dX8_readSystem_26 (tgt := 31) (by decide) ?_ ?_
    · refine aw_aload_n hC dX8_readSystem_31 rfl ?_
      refine aw_gfR hC dX8_readSystem_32 fg_RX8_12 rfl rfl rm_6_0_0 ?_
      refine aw_cVi hC dX8_readSystem_35 cv_RX8_177 rfl rm_4_0_0 (A_X6_number _ (hC.2.2.2.2.2.2.2.2.2.2.2.2.1) _ _ _ q3.2) rfl rfl rfl rfl rfl ⟨rfl, rfl⟩ ?_
      refine aw_istore_n hC dX8_readSystem_38 (by decide) ?_
      refine aw_aload_n hC dX8_readSystem_39 rfl ?_
      refine aw_gfR hC dX8_readSystem_40 fg_RX8_12 rfl rfl rm_6_0_0 ?_
      refine aw_bipush hC dX8_readSystem_43 (v := 59) (by decide) ?_
      refine aw_bind rfl (fun q4 hq4 => ?_)
      refine aw_cVb hC dX8_readSystem_45 cv_RX8_180 rfl rm_4_0_0 (am_some (inj := (fun r => (.inr (some (.int (b2i r.1))), r.2))) hq4 (A_X6_readMark _ (hC.2.2.2.2.2.2.2.2.2.2.2.2.1) _ _ _ (59 : Int32) q3.2)) rfl rfl rfl rfl rfl ⟨rfl, rfl⟩ ?_
      refine aw_if_ne_b hC dX8_readSystem_48 (tgt := 53) (by decide) ?_ ?_
      · refine aw_aload_n hC dX8_readSystem_53 rfl ?_
        refine aw_gfR hC dX8_readSystem_54 fg_RX8_12 rfl rfl rm_6_0_0 ?_
        refine aw_bind rfl (fun q5 hq5 => ?_)
        refine aw_cVv hC dX8_readSystem_57 cv_RX8_184 rfl rm_4_0_0 (am_some (inj := (fun r => (.inr (none), r))) hq5 (A_X6_advance _ (hC.2.2.2.2.2.2.2.2.2.2.2.2.1) _ _ _ q4.2)) rfl rfl rfl rfl rfl ⟨rfl, rfl⟩ ?_
        refine aw_aload_n hC dX8_readSystem_60 rfl ?_
        refine aw_gfR hC dX8_readSystem_61 fg_RX8_12 rfl rfl rm_6_0_0 ?_
        refine aw_ldcS hC dX8_readSystem_64 (t := "back") (q := 187) (by decide +kernel) ?_
        refine aw_bind rfl (fun q6 hq6 => ?_)
        refine aw_cVb hC dX8_readSystem_66 cv_RX8_189 rfl rm_4_0_0 (am_some (inj := (fun r => (.inr (some (.int (b2i r))), q5))) hq6 (A_X6_isWord_ _ (hC.2.2.2.2.2.2.2.2.2.2.2.2.1) _ _ _ tx187 tx187_in q5)) rfl rfl rfl rfl rfl ⟨rfl, rfl⟩ ?_
        refine aw_if_eq_b hC dX8_readSystem_69 (tgt := 82) (by decide) ?_ ?_
        · refine aw_iconst hC dX8_readSystem_82 (v := 0) (by decide) ?_
          refine aw_istore_n hC dX8_readSystem_83 (by decide) ?_
          refine aw_sub [0, 1, 2, 3] ?_
          refine L_X8_readSystem_84 r1 hr1 (jX6_number q3.2) _ hC ?_ FU (0 : Int32) q5
          · intro h8
            refine aw_aload_n hC dX8_readSystem_106 rfl ?_
            refine aw_gfR hC dX8_readSystem_107 fg_RX8_12 rfl rfl rm_6_0_0 ?_
            refine aw_ldcS hC dX8_readSystem_110 (t := "car") (q := 199) (by decide +kernel) ?_
            refine aw_bind rfl (fun q9 hq9 => ?_)
            refine aw_cVb hC dX8_readSystem_112 cv_RX8_189 rfl rm_4_0_0 (am_some (inj := (fun r => (.inr (some (.int (b2i r))), h8))) hq9 (A_X6_isWord_ _ (hC.2.2.2.2.2.2.2.2.2.2.2.2.1) _ _ _ tx199 tx199_in h8)) rfl rfl rfl rfl rfl ⟨rfl, rfl⟩ ?_
            refine aw_if_eq_b hC dX8_readSystem_115 (tgt := 127) (by decide) ?_ ?_
            · refine aw_aload_n hC dX8_readSystem_127 rfl ?_
              refine aw_gfR hC dX8_readSystem_128 fg_RX8_12 rfl rfl rm_6_0_0 ?_
              refine aw_cVb hC dX8_readSystem_131 cv_RX8_205 rfl rm_4_0_0 (A_X6_isEnd _ (hC.2.2.2.2.2.2.2.2.2.2.2.2.1) _ _ _ h8) rfl rfl rfl rfl rfl ⟨rfl, rfl⟩ ?_
              refine aw_if_ne_b hC dX8_readSystem_134 (tgt := 148) (by decide) ?_ ?_
              · refine aw_iconst hC dX8_readSystem_148 (v := 1) (by decide) ?_
                refine aw_goto hC dX8_readSystem_149 (tgt := 153) (by decide) ?_
                exact aw_zret hC dX8_readSystem_153 rfl (show _ = b2i true from rfl) rfl
              · refine aw_aload_n hC dX8_readSystem_137 rfl ?_
                refine aw_gfR hC dX8_readSystem_138 fg_RX8_12 rfl rfl rm_6_0_0 ?_
                refine aw_iconst hC dX8_readSystem_141 (v := 1) (by decide) ?_
                refine aw_bind rfl (fun q10 hq10 => ?_)
                refine aw_cVb hC dX8_readSystem_142 cv_RX8_201 rfl rm_4_0_0 (am_some (inj := (fun r => (.inr (some (.int (b2i r.1))), r.2))) hq10 (A_X6_fail _ (hC.2.2.2.2.2.2.2.2.2.2.2.2.1) _ _ _ (1 : Int32) h8)) rfl rfl rfl rfl rfl ⟨rfl, rfl⟩ ?_
                refine aw_if_eq_b hC dX8_readSystem_145 (tgt := 152) (by decide) ?_ ?_
                · refine aw_iconst hC dX8_readSystem_152 (v := 0) (by decide) ?_
                  exact aw_zret hC dX8_readSystem_153 rfl (show _ = b2i false from rfl) rfl
                · refine aw_iconst hC dX8_readSystem_148 (v := 1) (by decide) ?_
                  refine aw_goto hC dX8_readSystem_149 (tgt := 153) (by decide) ?_
                  exact aw_zret hC dX8_readSystem_153 rfl (show _ = b2i true from rfl) rfl
            · refine aw_aload_n hC dX8_readSystem_118 rfl ?_
              refine aw_gfR hC dX8_readSystem_119 fg_RX8_12 rfl rfl rm_6_0_0 ?_
              refine aw_iconst hC dX8_readSystem_122 (v := 5) (by decide) ?_
              refine aw_bind rfl (fun q11 hq11 => ?_)
              refine aw_cVb hC dX8_readSystem_123 cv_RX8_201 rfl rm_4_0_0 (am_some (inj := (fun r => (.inr (some (.int (b2i r.1))), r.2))) hq11 (A_X6_fail _ (hC.2.2.2.2.2.2.2.2.2.2.2.2.1) _ _ _ (5 : Int32) h8)) rfl rfl rfl rfl rfl ⟨rfl, rfl⟩ ?_
              exact aw_zret hC dX8_readSystem_126 rfl (show _ = b2i q11.1 from rfl) rfl
        · refine aw_aload_n hC dX8_readSystem_72 rfl ?_
          refine aw_aload_n hC dX8_readSystem_73 rfl ?_
          refine aw_bind rfl (fun q12 hq12 => ?_)
          refine aw_cVb hC dX8_readSystem_74 cv_RX8_192 rfl rm_6_0_0 (am_some (inj := (fun r => (.inr (some (.int (b2i r.1))), r.2))) hq12 (A_X8_readBack _ (hC.2.2.2.2.2.2.2.2.2.2.2.2.1) _ _ _ r1 hr1 q5)) rfl rfl rfl rfl rfl ⟨rfl, rfl⟩ ?_
          refine aw_if_ne_b hC dX8_readSystem_77 (tgt := 82) (by decide) ?_ ?_
          · refine aw_iconst hC dX8_readSystem_82 (v := 0) (by decide) ?_
            refine aw_istore_n hC dX8_readSystem_83 (by decide) ?_
            refine aw_sub [0, 1, 2, 3] ?_
            refine L_X8_readSystem_84 r1 hr1 (jX6_number q3.2) _ hC ?_ FU (0 : Int32) q12.2
            · intro h14
              refine aw_aload_n hC dX8_readSystem_106 rfl ?_
              refine aw_gfR hC dX8_readSystem_107 fg_RX8_12 rfl rfl rm_6_0_0 ?_
              refine aw_ldcS hC dX8_readSystem_110 (t := "car") (q := 199) (by decide +kernel) ?_
              refine aw_bind rfl (fun q15 hq15 => ?_)
              refine aw_cVb hC dX8_readSystem_112 cv_RX8_189 rfl rm_4_0_0 (am_some (inj := (fun r => (.inr (some (.int (b2i r))), h14))) hq15 (A_X6_isWord_ _ (hC.2.2.2.2.2.2.2.2.2.2.2.2.1) _ _ _ tx199 tx199_in h14)) rfl rfl rfl rfl rfl ⟨rfl, rfl⟩ ?_
              refine aw_if_eq_b hC dX8_readSystem_115 (tgt := 127) (by decide) ?_ ?_
              · refine aw_aload_n hC dX8_readSystem_127 rfl ?_
                refine aw_gfR hC dX8_readSystem_128 fg_RX8_12 rfl rfl rm_6_0_0 ?_
                refine aw_cVb hC dX8_readSystem_131 cv_RX8_205 rfl rm_4_0_0 (A_X6_isEnd _ (hC.2.2.2.2.2.2.2.2.2.2.2.2.1) _ _ _ h14) rfl rfl rfl rfl rfl ⟨rfl, rfl⟩ ?_
                refine aw_if_ne_b hC dX8_readSystem_134 (tgt := 148) (by decide) ?_ ?_
                · refine aw_iconst hC dX8_readSystem_148 (v := 1) (by decide) ?_
                  refine aw_goto hC dX8_readSystem_149 (tgt := 153) (by decide) ?_
                  exact aw_zret hC dX8_readSystem_153 rfl (show _ = b2i true from rfl) rfl
                · refine aw_aload_n hC dX8_readSystem_137 rfl ?_
                  refine aw_gfR hC dX8_readSystem_138 fg_RX8_12 rfl rfl rm_6_0_0 ?_
                  refine aw_iconst hC dX8_readSystem_141 (v := 1) (by decide) ?_
                  refine aw_bind rfl (fun q16 hq16 => ?_)
                  refine aw_cVb hC dX8_readSystem_142 cv_RX8_201 rfl rm_4_0_0 (am_some (inj := (fun r => (.inr (some (.int (b2i r.1))), r.2))) hq16 (A_X6_fail _ (hC.2.2.2.2.2.2.2.2.2.2.2.2.1) _ _ _ (1 : Int32) h14)) rfl rfl rfl rfl rfl ⟨rfl, rfl⟩ ?_
                  refine aw_if_eq_b hC dX8_readSystem_145 (tgt := 152) (by decide) ?_ ?_
                  · refine aw_iconst hC dX8_readSystem_152 (v := 0) (by decide) ?_
                    exact aw_zret hC dX8_readSystem_153 rfl (show _ = b2i false from rfl) rfl
                  · refine aw_iconst hC dX8_readSystem_148 (v := 1) (by decide) ?_
                    refine aw_goto hC dX8_readSystem_149 (tgt := 153) (by decide) ?_
                    exact aw_zret hC dX8_readSystem_153 rfl (show _ = b2i true from rfl) rfl
              · refine aw_aload_n hC dX8_readSystem_118 rfl ?_
                refine aw_gfR hC dX8_readSystem_119 fg_RX8_12 rfl rfl rm_6_0_0 ?_
                refine aw_iconst hC dX8_readSystem_122 (v := 5) (by decide) ?_
                refine aw_bind rfl (fun q17 hq17 => ?_)
                refine aw_cVb hC dX8_readSystem_123 cv_RX8_201 rfl rm_4_0_0 (am_some (inj := (fun r => (.inr (some (.int (b2i r.1))), r.2))) hq17 (A_X6_fail _ (hC.2.2.2.2.2.2.2.2.2.2.2.2.1) _ _ _ (5 : Int32) h14)) rfl rfl rfl rfl rfl ⟨rfl, rfl⟩ ?_
                exact aw_zret hC dX8_readSystem_126 rfl (show _ = b2i q17.1 from rfl) rfl
          · refine aw_iconst hC dX8_readSystem_80 (v := 0) (by decide) ?_
            exact aw_zret hC dX8_readSystem_81 rfl (show _ = b2i false from rfl) rfl
      · refine aw_iconst hC dX8_readSystem_51 (v := 0) (by decide) ?_
        exact aw_zret hC dX8_readSystem_52 rfl (show _ = b2i false from rfl) rfl
    · refine aw_iconst hC dX8_readSystem_29 (v := 0) (by decide) ?_
      exact aw_zret hC dX8_readSystem_30 rfl (show _ = b2i false from rfl) rfl
set_option maxHeartbeats 4000000 in
set_option maxRecDepth 100000 in
theorem A_X8_readText (l : Launch) (hl0 : l.stackTraces = false) (D : va_G) (loc : Rf → Nat) (cy : Nat → ClassId)  (h : HD) : AX l D loc cy yX8_readText (Cond.code yX8_readText cX8_readText 2 (some .int) :: LW) 8 231 1 6 [.ref (loc (6, 0, 0))] h ((jX8_readText h).map (fun r => (xi (fun v => some (.int v)) r.1, r.2))) := by
  refine ax_start (y := yX8_readText) (av := [.ref (loc (6, 0, 0))]) (nL := 2) (h := h) (RF := fun (r : Option ((Nat ⊕ Int32) × HD)) => r.map (fun r => (xi (fun v => some (.int v)) r.1, r.2))) (x := jX8_readText h) hl0 (by decide +kernel) rfl ?_
  intro p e R s m below meth c A hxt hC
  unfold jX8_readText
  refine aw_aload_n hC dX8_readText_0 rfl ?_
  refine aw_gfR hC dX8_readText_1 fg_RX8_12 rfl rfl rm_6_0_0 ?_
  refine aw_bind rfl (fun q1 hq1 => ?_)
  refine aw_cVv hC dX8_readText_4 cv_RX8_122 rfl rm_4_0_0 (am_some (inj := (fun r => (.inr (none), r))) hq1 (A_X6_begin _ (hC.2.2.2.2.2.2.2.2.2.2.2.2.1) _ _ _ h)) rfl rfl rfl rfl rfl ⟨rfl, rfl⟩ ?_
  refine aw_aload_n hC dX8_readText_7 rfl ?_
  refine aw_aload_n hC dX8_readText_8 rfl ?_
  refine aw_gfR hC dX8_readText_9 fg_RX8_46 rfl rfl rm_6_0_0 ?_
  refine aw_bind rfl (fun q2 hq2 => ?_)
  refine aw_cVb hC dX8_readText_12 cv_RX8_125 rfl rm_6_0_0 (am_some (inj := (fun r => (.inr (some (.int (b2i r.1))), r.2))) hq2 (A_X8_readSystem _ (hC.2.2.2.2.2.2.2.2.2.2.2.2.1) _ _ _ 1 (by decide) q1)) rfl rfl rfl rfl rfl ⟨rfl, rfl⟩ ?_
  refine aw_istore_n hC dX8_readText_15 (by decide) ?_
  refine aw_aload_n hC dX8_readText_16 rfl ?_
  refine aw_bind rfl (fun q3 hq3 => ?_)
  refine aw_cVv hC dX8_readText_17 cv_RX8_129 rfl rm_6_0_0 (am_some (inj := (fun r => (.inr (none), r))) hq3 (A_X8_endReading _ (hC.2.2.2.2.2.2.2.2.2.2.2.2.1) _ _ _ q2.2)) rfl rfl rfl rfl rfl ⟨rfl, rfl⟩ ?_
  refine aw_iload_n hC dX8_readText_20 rfl ?_
  refine aw_if_ne_b hC dX8_readText_21 (tgt := 34) (by decide) ?_ ?_
  · refine aw_aload_n hC dX8_readText_34 rfl ?_
    refine aw_gfR hC dX8_readText_35 fg_RX8_42 rfl rfl rm_6_0_0 ?_
    refine aw_aload_n hC dX8_readText_38 rfl ?_
    refine aw_gfR hC dX8_readText_39 fg_RX8_46 rfl rfl rm_6_0_0 ?_
    refine aw_bind rfl (fun q4 hq4 => ?_)
    refine aw_cVv hC dX8_readText_42 cv_RX8_134 rfl rm_1_0_0 (am_some (inj := (fun r => (.inr (none), r))) hq4 (A_X2_copyFrom _ (hC.2.2.2.2.2.2.2.2.2.2.2.2.1) _ _ _ 0 (by decide) 1 (by decide) q3)) rfl rfl rfl rfl rfl ⟨rfl, rfl⟩ ?_
    refine aw_aload_n hC dX8_readText_45 rfl ?_
    refine aw_iconst hC dX8_readText_46 (v := 0) (by decide) ?_
    refine aw_pfI hC dX8_readText_47 fg_RX8_80 fp_6_13 rfl rm_6_0_0 (fun h5 => ?_)
    refine aw_aload_n hC dX8_readText_50 rfl ?_
    refine aw_gfR hC dX8_readText_51 fg_RX8_42 rfl rfl rm_6_0_0 ?_
    refine aw_cVi hC dX8_readText_54 cv_RX8_138 rfl rm_1_0_0 (A_X2_count _ (hC.2.2.2.2.2.2.2.2.2.2.2.2.1) _ _ _ 0 (by decide) h5) rfl rfl rfl rfl rfl ⟨rfl, rfl⟩ ?_
    exact aw_ireX hC dX8_readText_57 rfl rfl rfl rfl
  · exact aw_throw1 (text := "the text is no system") (sid := 132) hC hxt dX8_readText_24 dX8_readText_27 dX8_readText_28 dX8_readText_30 dX8_readText_33 tw4_48 tw1_13 (by decide +kernel) rfl rfl rfl rfl rfl rfl rfl
set_option maxHeartbeats 4000000 in
set_option maxRecDepth 100000 in
theorem L_X3_withWord_10 (p1 : Int64) (h : HD) (hC : Cx p l e R s m args meth c D loc cy A cX3_withWord 6 (some (.object "ParkingCircle$Command")) RX3 5 163 0 0)  : ∀ (n10 : Nat) (x4 : Int32), AW p l e R s m args below meth c D loc cy A 6 (QM below D loc cy A args s) (fun (r : Option (Option Nat)) => r.map (fun r => (.inr (some (cmv loc r)), h))) (0, 0) 10 [(0, .long p1), (2, .ref (loc (9, 0, 1))), (3, .int (9 : Int32)), (4, .int x4)] [] h (jX3_withWord_L10 p1 h n10 x4) := by
  intro n10
  induction n10 with
  | zero => intro x4; exact aw_none rfl
  | succ n10 ih10 =>
    intro x4
    rw [jX3_withWord_L10]
    refine aw_iload hC dX3_withWord_10 rfl ?_
    refine aw_iload_n hC dX3_withWord_12 rfl ?_
    refine aw_icmp_ge hC dX3_withWord_13 (tgt := 44) (by decide) ?_ ?_
    · refine aw_null hC dX3_withWord_44 ?_
      exact aw_aret hC dX3_withWord_45 rfl (Or.inl ⟨_, rfl⟩) (Or.inl rfl) rfl
    · refine aw_aload_n hC dX3_withWord_16 rfl ?_
      refine aw_iload hC dX3_withWord_17 rfl ?_
      refine aw_guard rfl (fun g1 => ?_)
      refine aw_allld hC dX3_withWord_19 g1 ?_
      refine aw_astore hC dX3_withWord_20 (by decide) ?_
      refine aw_aload hC dX3_withWord_22 rfl ?_
      refine aw_gfO hC dX3_withWord_24 tw10_37 (st_txt (cx_st hC) (inB_lt g1)) ?_
      refine aw_bind rfl (fun q2 hq2 => ?_)
      refine aw_cNj hC dX3_withWord_27 cv_RX3_64 (am_some (inj := (fun r => (.inr (some (.long r)), h))) hq2 (A_X8_wordOf _ (hC.2.2.2.2.2.2.2.2.2.2.2.2.1) _ _ _ (txC x4.toNatClampNeg) (txC_in (inB_lt g1)) h)) rfl rfl rfl rfl rfl ⟨rfl, rfl⟩ ?_
      refine aw_lload_n hC dX3_withWord_30 rfl ?_
      refine aw_lcmp hC dX3_withWord_31 ?_
      refine aw_if_ne hC dX3_withWord_32 (tgt := 38) (by decide) ?_ ?_
      · refine aw_iinc hC dX3_withWord_38 rfl (v := x4 + 1) (by first | rfl | decide) (by decide) ?_
        refine aw_goto hC dX3_withWord_41 (tgt := 10) (by decide) ?_
        refine aw_sub [0, 2, 3, 4] ?_
        exact ih10 (x4 + 1)
      · refine aw_aload hC dX3_withWord_35 rfl ?_
        exact aw_aret hC dX3_withWord_37 rfl (Or.inl ⟨_, rfl⟩) (Or.inr ⟨_, rfl⟩) rfl
set_option maxHeartbeats 4000000 in
set_option maxRecDepth 100000 in
theorem A_X3_withWord (l : Launch) (hl0 : l.stackTraces = false) (D : va_G) (loc : Rf → Nat) (cy : Nat → ClassId) (p1 : Int64) (h : HD) : AM l D loc cy yX3_withWord cX3_withWord 6 (some (.object "ParkingCircle$Command")) 5 163 [.long p1] h ((jX3_withWord p1 h).map (fun r => (.inr (some (cmv loc r)), h))) := by
  refine am_start (y := yX3_withWord) (av := [.long p1]) (nL := 6) (h := h) (RF := fun (r : Option (Option Nat)) => r.map (fun r => (.inr (some (cmv loc r)), h))) (x := jX3_withWord p1 h) hl0 (by decide +kernel) rfl ?_
  intro p e R s m below meth c A hC
  unfold jX3_withWord
  refine aw_gsO hC dX3_withWord_0 tw5_32 (st_all (cx_st hC)).1 ?_
  refine aw_astore_n hC dX3_withWord_3 (by decide) ?_
  refine aw_aload_n hC dX3_withWord_4 rfl ?_
  refine aw_alllen hC dX3_withWord_5 ?_
  refine aw_istore_n hC dX3_withWord_6 (by decide) ?_
  refine aw_iconst hC dX3_withWord_7 (v := 0) (by decide) ?_
  refine aw_istore hC dX3_withWord_8 (by decide) ?_
  refine aw_sub [0, 2, 3, 4] ?_
  exact L_X3_withWord_10 p1 h  hC FU (0 : Int32)
set_option maxHeartbeats 4000000 in
set_option maxRecDepth 100000 in
theorem A_X5_add (l : Launch) (hl0 : l.stackTraces = false) (D : va_G) (loc : Rf → Nat) (cy : Nat → ClassId) (c1 : Nat) (hc1 : c1 < 9) (p2 : Int64) (p3 : Int32) (h : HD) : AM l D loc cy yX5_add cX5_add 5 (none) 1 37 [.ref (loc (3, 0, 0)), .ref (loc (9, c1, 0)), .long p2, .int p3] h ((jX5_add c1 p2 p3 h).map (fun r => (.inr (none), r))) := by
  refine am_start (y := yX5_add) (av := [.ref (loc (3, 0, 0)), .ref (loc (9, c1, 0)), .long p2, .int p3]) (nL := 5) (h := h) (RF := fun (r : Option HD) => r.map (fun r => (.inr (none), r))) (x := jX5_add c1 p2 p3 h) hl0 (by decide +kernel) rfl ?_
  intro p e R s m below meth c A hC
  unfold jX5_add
  refine aw_aload_n hC dX5_add_0 rfl ?_
  refine aw_gfI hC dX5_add_1 fg_RX5_35 rfl rm_3_0_0 ?_
  refine aw_if_lt hC dX5_add_4 (tgt := 16) (by decide) ?_ ?_
  · exact aw_vret hC dX5_add_16 rfl rfl
  · refine aw_aload_n hC dX5_add_7 rfl ?_
    refine aw_gfI hC dX5_add_8 fg_RX5_35 rfl rm_3_0_0 ?_
    refine aw_bipush hC dX5_add_11 (v := 30) (by decide) ?_
    refine aw_icmp_lt hC dX5_add_13 (tgt := 17) (by decide) ?_ ?_
    · refine aw_aload_n hC dX5_add_17 rfl ?_
      refine aw_gfR hC dX5_add_18 fg_RX5_11 rfl rfl rm_3_0_0 ?_
      refine aw_aload_n hC dX5_add_21 rfl ?_
      refine aw_gfI hC dX5_add_22 fg_RX5_35 rfl rm_3_0_0 ?_
      refine aw_aload_n hC dX5_add_25 rfl ?_
      refine aw_guard rfl (fun g2 => ?_)
      refine aw_oast hC dX5_add_26 hc1 g2 (fun h1 => ?_)
      refine aw_aload_n hC dX5_add_27 rfl ?_
      refine aw_gfR hC dX5_add_28 fg_RX5_17 rfl rfl rm_3_0_0 ?_
      refine aw_aload_n hC dX5_add_31 rfl ?_
      refine aw_gfI hC dX5_add_32 fg_RX5_35 rfl rm_3_0_0 ?_
      refine aw_lload_n hC dX5_add_35 rfl ?_
      refine aw_guard rfl (fun g4 => ?_)
      refine aw_last hC dX5_add_36 rm_3_0_2 rfl rfl g4 rfl (fun h3 => ?_)
      refine aw_aload_n hC dX5_add_37 rfl ?_
      refine aw_gfR hC dX5_add_38 fg_RX5_21 rfl rfl rm_3_0_0 ?_
      refine aw_aload_n hC dX5_add_41 rfl ?_
      refine aw_gfI hC dX5_add_42 fg_RX5_35 rfl rm_3_0_0 ?_
      refine aw_iload hC dX5_add_45 rfl ?_
      refine aw_guard rfl (fun g6 => ?_)
      refine aw_iast hC dX5_add_47 rm_3_0_3 rfl rfl g6 rfl (fun h5 => ?_)
      refine aw_aload_n hC dX5_add_48 rfl ?_
      refine aw_gfR hC dX5_add_49 fg_RX5_25 rfl rfl rm_3_0_0 ?_
      refine aw_aload_n hC dX5_add_52 rfl ?_
      refine aw_gfI hC dX5_add_53 fg_RX5_35 rfl rm_3_0_0 ?_
      refine aw_aload_n hC dX5_add_56 rfl ?_
      refine aw_gfI hC dX5_add_57 fg_RX5_35 rfl rm_3_0_0 ?_
      refine aw_iconst hC dX5_add_60 (v := 1) (by decide) ?_
      refine aw_iadd hC dX5_add_61 ?_
      refine aw_guard rfl (fun g8 => ?_)
      refine aw_iast hC dX5_add_62 rm_3_0_4 rfl rfl g8 rfl (fun h7 => ?_)
      refine aw_aload_n hC dX5_add_63 rfl ?_
      refine aw_gsO hC dX5_add_64 tw5_36 (st_rep (cx_st hC)) ?_
      refine aw_acmpne hC dX5_add_67 (tgt := 78) (by decide) hc1 (by decide) ?_ ?_
      · refine aw_aload_n hC dX5_add_78 rfl ?_
        refine aw_dup hC dX5_add_79 rfl ?_
        refine aw_gfI hC dX5_add_80 fg_RX5_35 rfl rm_3_0_0 ?_
        refine aw_iconst hC dX5_add_83 (v := 1) (by decide) ?_
        refine aw_iadd hC dX5_add_84 ?_
        refine aw_pfI hC dX5_add_85 fg_RX5_35 fp_3_6 rfl rm_3_0_0 (fun h9 => ?_)
        exact aw_vret hC dX5_add_88 rfl rfl
      · refine aw_aload_n hC dX5_add_70 rfl ?_
        refine aw_aload_n hC dX5_add_71 rfl ?_
        refine aw_gfI hC dX5_add_72 fg_RX5_35 rfl rm_3_0_0 ?_
        refine aw_bind rfl (fun q10 hq10 => ?_)
        refine aw_cVv hC dX5_add_75 cv_RX5_105 rfl rm_3_0_0 (am_some (inj := (fun r => (.inr (none), r))) hq10 (A_X5_openRepeat _ (hC.2.2.2.2.2.2.2.2.2.2.2.2.1) _ _ _ (gI h7 (3, 0, 0) 6) h7)) rfl rfl rfl rfl rfl ⟨rfl, rfl⟩ ?_
        refine aw_aload_n hC dX5_add_78 rfl ?_
        refine aw_dup hC dX5_add_79 rfl ?_
        refine aw_gfI hC dX5_add_80 fg_RX5_35 rfl rm_3_0_0 ?_
        refine aw_iconst hC dX5_add_83 (v := 1) (by decide) ?_
        refine aw_iadd hC dX5_add_84 ?_
        refine aw_pfI hC dX5_add_85 fg_RX5_35 fp_3_6 rfl rm_3_0_0 (fun h11 => ?_)
        exact aw_vret hC dX5_add_88 rfl rfl
    · exact aw_vret hC dX5_add_16 rfl rfl
set_option maxHeartbeats 4000000 in
set_option maxRecDepth 100000 in
theorem A_X5_readCommand (l : Launch) (hl0 : l.stackTraces = false) (D : va_G) (loc : Rf → Nat) (cy : Nat → ClassId)  (h : HD) : AM l D loc cy yX5_readCommand cX5_readCommand 7 (some .boolean) 6 188 [.ref (loc (3, 0, 0)), .ref (loc (4, 0, 0))] h ((jX5_readCommand h).map (fun r => (.inr (some (.int (b2i r.1))), r.2))) := by
  refine am_start (y := yX5_readCommand) (av := [.ref (loc (3, 0, 0)), .ref (loc (4, 0, 0))]) (nL := 7) (h := h) (RF := fun (r : Option (Bool × HD)) => r.map (fun r => (.inr (some (.int (b2i r.1))), r.2))) (x := jX5_readCommand h) hl0 (by decide +kernel) rfl ?_
  intro p e R s m below meth c A hC
  unfold jX5_readCommand
  refine aw_aload_n hC dX5_readCommand_0 rfl ?_
  refine aw_cVb hC dX5_readCommand_1 cv_RX5_68 rfl rm_4_0_0 (A_X6_isWord _ (hC.2.2.2.2.2.2.2.2.2.2.2.2.1) _ _ _ h) rfl rfl rfl rfl rfl ⟨rfl, rfl⟩ ?_
  refine aw_if_eq_b hC dX5_readCommand_4 (tgt := 17) (by decide) ?_ ?_
  · refine aw_null hC dX5_readCommand_17 ?_
    refine aw_astore_nN hC dX5_readCommand_18 (by decide) ?_
    refine aw_aload_nN hC dX5_readCommand_19 rfl ?_
    refine aw_ifnonnullN hC dX5_readCommand_20 ?_
    refine aw_aload_n hC dX5_readCommand_23 rfl ?_
    refine aw_iconst hC dX5_readCommand_24 (v := 1) (by decide) ?_
    refine aw_bind rfl (fun q1 hq1 => ?_)
    refine aw_cVb hC dX5_readCommand_25 cv_RX5_65 rfl rm_4_0_0 (am_some (inj := (fun r => (.inr (some (.int (b2i r.1))), r.2))) hq1 (A_X6_fail _ (hC.2.2.2.2.2.2.2.2.2.2.2.2.1) _ _ _ (1 : Int32) h)) rfl rfl rfl rfl rfl ⟨rfl, rfl⟩ ?_
    exact aw_zret hC dX5_readCommand_28 rfl (show _ = b2i q1.1 from rfl) rfl
  · refine aw_aload_n hC dX5_readCommand_7 rfl ?_
    refine aw_cVj hC dX5_readCommand_8 cv_RX5_71 rfl rm_4_0_0 (A_X6_word _ (hC.2.2.2.2.2.2.2.2.2.2.2.2.1) _ _ _ h) rfl rfl rfl rfl rfl ⟨rfl, rfl⟩ ?_
    refine aw_bind rfl (fun q2 hq2 => ?_)
    refine aw_cSo hC dX5_readCommand_11 cv_RX5_75 (am_some (inj := (fun r => (.inr (some (cmv loc r)), h))) hq2 (A_X3_withWord _ (hC.2.2.2.2.2.2.2.2.2.2.2.2.1) _ _ _ (jX6_word h) h)) rfl rfl rfl rfl rfl ⟨rfl, rfl⟩ ?_
    refine aw_oc ?_ (fun k3 => aw_guardP rfl (fun g4 => ?_))
    · refine aw_goto hC dX5_readCommand_14 (tgt := 18) (by decide) ?_
      refine aw_astore_nN hC dX5_readCommand_18 (by decide) ?_
      refine aw_aload_nN hC dX5_readCommand_19 rfl ?_
      refine aw_ifnonnullN hC dX5_readCommand_20 ?_
      refine aw_aload_n hC dX5_readCommand_23 rfl ?_
      refine aw_iconst hC dX5_readCommand_24 (v := 1) (by decide) ?_
      refine aw_bind rfl (fun q5 hq5 => ?_)
      refine aw_cVb hC dX5_readCommand_25 cv_RX5_65 rfl rm_4_0_0 (am_some (inj := (fun r => (.inr (some (.int (b2i r.1))), r.2))) hq5 (A_X6_fail _ (hC.2.2.2.2.2.2.2.2.2.2.2.2.1) _ _ _ (1 : Int32) h)) rfl rfl rfl rfl rfl ⟨rfl, rfl⟩ ?_
      exact aw_zret hC dX5_readCommand_28 rfl (show _ = b2i q5.1 from rfl) rfl
    · refine aw_goto hC dX5_readCommand_14 (tgt := 18) (by decide) ?_
      refine aw_astore_n hC dX5_readCommand_18 (by decide) ?_
      refine aw_aload_n hC dX5_readCommand_19 rfl ?_
      refine aw_ifnonnull hC dX5_readCommand_20 (tgt := 29) (by decide) ?_
      refine aw_aload_n hC dX5_readCommand_29 rfl ?_
      refine aw_gsO hC dX5_readCommand_30 tw5_36 (st_rep (cx_st hC)) ?_
      refine aw_acmpne hC dX5_readCommand_33 (tgt := 40) (by decide) g4 (by decide) ?_ ?_
      · refine aw_iconst hC dX5_readCommand_40 (v := 0) (by decide) ?_
        refine aw_istore_n hC dX5_readCommand_41 (by decide) ?_
        refine aw_iload_n hC dX5_readCommand_42 rfl ?_
        refine aw_if_eq_t hC dX5_readCommand_43 (tgt := 60) (by decide) (by decide) ?_
        refine aw_aload_n hC dX5_readCommand_60 rfl ?_
        refine aw_gfI hC dX5_readCommand_61 fg_RX5_35 rfl rm_3_0_0 ?_
        refine aw_bipush hC dX5_readCommand_64 (v := 30) (by decide) ?_
        refine aw_icmp_lt hC dX5_readCommand_66 (tgt := 75) (by decide) ?_ ?_
        · refine aw_aload_n hC dX5_readCommand_75 rfl ?_
          refine aw_gfN (host := "ParkingCircle") hC dX5_readCommand_76 (st_cmN (cx_st hC) g4) (by decide +kernel) ?_
          refine aw_if_eq hC dX5_readCommand_79 (tgt := 91) (by decide) ?_ ?_
          · refine aw_aload_n hC dX5_readCommand_91 rfl ?_
            refine aw_gfN (host := "ParkingCircle") hC dX5_readCommand_92 (st_cmN (cx_st hC) g4) (by decide +kernel) ?_
            refine aw_if_eq hC dX5_readCommand_95 (tgt := 105) (by decide) ?_ ?_
            · refine aw_lconst hC dX5_readCommand_105 (v := 0) (by decide) ?_
              refine aw_lstore hC dX5_readCommand_106 (by decide) ?_
              refine aw_aload_n hC dX5_readCommand_108 rfl ?_
              refine aw_gfN (host := "ParkingCircle") hC dX5_readCommand_109 (st_cmV (cx_st hC) g4) (by decide +kernel) ?_
              refine aw_if_eq hC dX5_readCommand_112 (tgt := 145) (by decide) ?_ ?_
              · refine aw_aload_n hC dX5_readCommand_145 rfl ?_
                refine aw_gfN (host := "ParkingCircle") hC dX5_readCommand_146 (st_cmV (cx_st hC) g4) (by decide +kernel) ?_
                refine aw_if_eq hC dX5_readCommand_149 (tgt := 159) (by decide) ?_ ?_
                · refine aw_iconst hC dX5_readCommand_159 (v := 0) (by decide) ?_
                  refine aw_istore hC dX5_readCommand_160 (by decide) ?_
                  refine aw_aload_n hC dX5_readCommand_162 rfl ?_
                  refine aw_iload_n hC dX5_readCommand_163 rfl ?_
                  refine aw_if_eq_t hC dX5_readCommand_164 (tgt := 172) (by decide) (by decide) ?_
                  refine aw_bipush hC dX5_readCommand_172 (v := 59) (by decide) ?_
                  refine aw_bind rfl (fun q6 hq6 => ?_)
                  refine aw_cVb hC dX5_readCommand_174 cv_RX5_58 rfl rm_4_0_0 (am_some (inj := (fun r => (.inr (some (.int (b2i r.1))), r.2))) hq6 (A_X6_readMark _ (hC.2.2.2.2.2.2.2.2.2.2.2.2.1) _ _ _ (59 : Int32) h)) rfl rfl rfl rfl rfl ⟨rfl, rfl⟩ ?_
                  refine aw_if_ne_b hC dX5_readCommand_177 (tgt := 182) (by decide) ?_ ?_
                  · refine aw_aload_n hC dX5_readCommand_182 rfl ?_
                    refine aw_aload_n hC dX5_readCommand_183 rfl ?_
                    refine aw_lload hC dX5_readCommand_184 rfl ?_
                    refine aw_iload hC dX5_readCommand_186 rfl ?_
                    refine aw_bind rfl (fun q7 hq7 => ?_)
                    refine aw_cVv hC dX5_readCommand_188 cv_RX5_101 rfl rm_3_0_0 (am_some (inj := (fun r => (.inr (none), r))) hq7 (A_X5_add _ (hC.2.2.2.2.2.2.2.2.2.2.2.2.1) _ _ _ k3 g4 (0 : Int64) (0 : Int32) q6.2)) rfl rfl rfl rfl rfl ⟨rfl, rfl⟩ ?_
                    refine aw_iconst hC dX5_readCommand_191 (v := 1) (by decide) ?_
                    exact aw_zret hC dX5_readCommand_192 rfl (show _ = b2i true from rfl) rfl
                  · refine aw_iconst hC dX5_readCommand_180 (v := 0) (by decide) ?_
                    exact aw_zret hC dX5_readCommand_181 rfl (show _ = b2i false from rfl) rfl
                · refine aw_aload_n hC dX5_readCommand_152 rfl ?_
                  refine aw_cVi hC dX5_readCommand_153 cv_RX5_97 rfl rm_4_0_0 (A_X6_number _ (hC.2.2.2.2.2.2.2.2.2.2.2.2.1) _ _ _ h) rfl rfl rfl rfl rfl ⟨rfl, rfl⟩ ?_
                  refine aw_goto hC dX5_readCommand_156 (tgt := 160) (by decide) ?_
                  refine aw_istore hC dX5_readCommand_160 (by decide) ?_
                  refine aw_aload_n hC dX5_readCommand_162 rfl ?_
                  refine aw_iload_n hC dX5_readCommand_163 rfl ?_
                  refine aw_if_eq_t hC dX5_readCommand_164 (tgt := 172) (by decide) (by decide) ?_
                  refine aw_bipush hC dX5_readCommand_172 (v := 59) (by decide) ?_
                  refine aw_bind rfl (fun q8 hq8 => ?_)
                  refine aw_cVb hC dX5_readCommand_174 cv_RX5_58 rfl rm_4_0_0 (am_some (inj := (fun r => (.inr (some (.int (b2i r.1))), r.2))) hq8 (A_X6_readMark _ (hC.2.2.2.2.2.2.2.2.2.2.2.2.1) _ _ _ (59 : Int32) h)) rfl rfl rfl rfl rfl ⟨rfl, rfl⟩ ?_
                  refine aw_if_ne_b hC dX5_readCommand_177 (tgt := 182) (by decide) ?_ ?_
                  · refine aw_aload_n hC dX5_readCommand_182 rfl ?_
                    refine aw_aload_n hC dX5_readCommand_183 rfl ?_
                    refine aw_lload hC dX5_readCommand_184 rfl ?_
                    refine aw_iload hC dX5_readCommand_186 rfl ?_
                    refine aw_bind rfl (fun q9 hq9 => ?_)
                    refine aw_cVv hC dX5_readCommand_188 cv_RX5_101 rfl rm_3_0_0 (am_some (inj := (fun r => (.inr (none), r))) hq9 (A_X5_add _ (hC.2.2.2.2.2.2.2.2.2.2.2.2.1) _ _ _ k3 g4 (0 : Int64) (jX6_number h) q8.2)) rfl rfl rfl rfl rfl ⟨rfl, rfl⟩ ?_
                    refine aw_iconst hC dX5_readCommand_191 (v := 1) (by decide) ?_
                    exact aw_zret hC dX5_readCommand_192 rfl (show _ = b2i true from rfl) rfl
                  · refine aw_iconst hC dX5_readCommand_180 (v := 0) (by decide) ?_
                    exact aw_zret hC dX5_readCommand_181 rfl (show _ = b2i false from rfl) rfl
              · refine aw_aload_n hC dX5_readCommand_115 rfl ?_
                refine aw_iload_n hC dX5_readCommand_116 rfl ?_
                refine aw_if_eq_t hC dX5_readCommand_117 (tgt := 124) (by decide) (by decide) ?_
                refine aw_iconst hC dX5_readCommand_124 (v := 0) (by decide) ?_
                refine aw_iload_n hC dX5_readCommand_125 rfl ?_
                refine aw_if_eq_t hC dX5_readCommand_126 (tgt := 134) (by decide) (by decide) ?_
                refine aw_sipush hC dX5_readCommand_134 (v := 999) (by decide) ?_
                refine aw_bind rfl (fun q10 hq10 => ?_)
                refine aw_cVb hC dX5_readCommand_137 cv_RX5_93 rfl rm_4_0_0 (am_some (inj := (fun r => (.inr (some (.int (b2i r.1))), r.2))) hq10 (A_X6_readNumber _ (hC.2.2.2.2.2.2.2.2.2.2.2.2.1) _ _ _ (0 : Int32) (999 : Int32) h)) rfl rfl rfl rfl rfl ⟨rfl, rfl⟩ ?_
                refine aw_if_ne_b hC dX5_readCommand_140 (tgt := 145) (by decide) ?_ ?_
                · refine aw_aload_n hC dX5_readCommand_145 rfl ?_
                  refine aw_gfN (host := "ParkingCircle") hC dX5_readCommand_146 (st_cmV (cx_st hC) g4) (by decide +kernel) ?_
                  refine aw_if_eq hC dX5_readCommand_149 (tgt := 159) (by decide) ?_ ?_
                  · refine aw_iconst hC dX5_readCommand_159 (v := 0) (by decide) ?_
                    refine aw_istore hC dX5_readCommand_160 (by decide) ?_
                    refine aw_aload_n hC dX5_readCommand_162 rfl ?_
                    refine aw_iload_n hC dX5_readCommand_163 rfl ?_
                    refine aw_if_eq_t hC dX5_readCommand_164 (tgt := 172) (by decide) (by decide) ?_
                    refine aw_bipush hC dX5_readCommand_172 (v := 59) (by decide) ?_
                    refine aw_bind rfl (fun q11 hq11 => ?_)
                    refine aw_cVb hC dX5_readCommand_174 cv_RX5_58 rfl rm_4_0_0 (am_some (inj := (fun r => (.inr (some (.int (b2i r.1))), r.2))) hq11 (A_X6_readMark _ (hC.2.2.2.2.2.2.2.2.2.2.2.2.1) _ _ _ (59 : Int32) q10.2)) rfl rfl rfl rfl rfl ⟨rfl, rfl⟩ ?_
                    refine aw_if_ne_b hC dX5_readCommand_177 (tgt := 182) (by decide) ?_ ?_
                    · refine aw_aload_n hC dX5_readCommand_182 rfl ?_
                      refine aw_aload_n hC dX5_readCommand_183 rfl ?_
                      refine aw_lload hC dX5_readCommand_184 rfl ?_
                      refine aw_iload hC dX5_readCommand_186 rfl ?_
                      refine aw_bind rfl (fun q12 hq12 => ?_)
                      refine aw_cVv hC dX5_readCommand_188 cv_RX5_101 rfl rm_3_0_0 (am_some (inj := (fun r => (.inr (none), r))) hq12 (A_X5_add _ (hC.2.2.2.2.2.2.2.2.2.2.2.2.1) _ _ _ k3 g4 (0 : Int64) (0 : Int32) q11.2)) rfl rfl rfl rfl rfl ⟨rfl, rfl⟩ ?_
                      refine aw_iconst hC dX5_readCommand_191 (v := 1) (by decide) ?_
                      exact aw_zret hC dX5_readCommand_192 rfl (show _ = b2i true from rfl) rfl
                    · refine aw_iconst hC dX5_readCommand_180 (v := 0) (by decide) ?_
                      exact aw_zret hC dX5_readCommand_181 rfl (show _ = b2i false from rfl) rfl
                  · refine aw_aload_n hC dX5_readCommand_152 rfl ?_
                    refine aw_cVi hC dX5_readCommand_153 cv_RX5_97 rfl rm_4_0_0 (A_X6_number _ (hC.2.2.2.2.2.2.2.2.2.2.2.2.1) _ _ _ q10.2) rfl rfl rfl rfl rfl ⟨rfl, rfl⟩ ?_
                    refine aw_goto hC dX5_readCommand_156 (tgt := 160) (by decide) ?_
                    refine aw_istore hC dX5_readCommand_160 (by decide) ?_
                    refine aw_aload_n hC dX5_readCommand_162 rfl ?_
                    refine aw_iload_n hC dX5_readCommand_163 rfl ?_
                    refine aw_if_eq_t hC dX5_readCommand_164 (tgt := 172) (by decide) (by decide) ?_
                    refine aw_bipush hC dX5_readCommand_172 (v := 59) (by decide) ?_
                    refine aw_bind rfl (fun q13 hq13 => ?_)
                    refine aw_cVb hC dX5_readCommand_174 cv_RX5_58 rfl rm_4_0_0 (am_some (inj := (fun r => (.inr (some (.int (b2i r.1))), r.2))) hq13 (A_X6_readMark _ (hC.2.2.2.2.2.2.2.2.2.2.2.2.1) _ _ _ (59 : Int32) q10.2)) rfl rfl rfl rfl rfl ⟨rfl, rfl⟩ ?_
                    refine aw_if_ne_b hC dX5_readCommand_177 (tgt := 182) (by decide) ?_ ?_
                    · refine aw_aload_n hC dX5_readCommand_182 rfl ?_
                      refine aw_aload_n hC dX5_readCommand_183 rfl ?_
                      refine aw_lload hC dX5_readCommand_184 rfl ?_
                      refine aw_iload hC dX5_readCommand_186 rfl ?_
                      refine aw_bind rfl (fun q14 hq14 => ?_)
                      refine aw_cVv hC dX5_readCommand_188 cv_RX5_101 rfl rm_3_0_0 (am_some (inj := (fun r => (.inr (none), r))) hq14 (A_X5_add _ (hC.2.2.2.2.2.2.2.2.2.2.2.2.1) _ _ _ k3 g4 (0 : Int64) (jX6_number q10.2) q13.2)) rfl rfl rfl rfl rfl ⟨rfl, rfl⟩ ?_
                      refine aw_iconst hC dX5_readCommand_191 (v := 1) (by decide) ?_
                      exact aw_zret hC dX5_readCommand_192 rfl (show _ = b2i true from rfl) rfl
                    · refine aw_iconst hC dX5_readCommand_180 (v := 0) (by decide) ?_
                      exact aw_zret hC dX5_readCommand_181 rfl (show _ = b2i false from rfl) rfl
                · refine aw_iconst hC dX5_readCommand_143 (v := 0) (by decide) ?_
                  exact aw_zret hC dX5_readCommand_144 rfl (show _ = b2i false from rfl) rfl
            · refine aw_aload_n hC dX5_readCommand_98 rfl ?_
              refine aw_cVj hC dX5_readCommand_99 cv_RX5_71 rfl rm_4_0_0 (A_X6_word _ (hC.2.2.2.2.2.2.2.2.2.2.2.2.1) _ _ _ h) rfl rfl rfl rfl rfl ⟨rfl, rfl⟩ ?_
              refine aw_goto hC dX5_readCommand_102 (tgt := 106) (by decide) ?_
              refine aw_lstore hC dX5_readCommand_106 (by decide) ?_
              refine aw_aload_n hC dX5_readCommand_108 rfl ?_
              refine aw_gfN (host := "ParkingCircle") hC dX5_readCommand_109 (st_cmV (cx_st hC) g4) (by decide +kernel) ?_
              refine aw_if_eq hC dX5_readCommand_112 (tgt := 145) (by decide) ?_ ?_
              · refine aw_aload_n hC dX5_readCommand_145 rfl ?_
                refine aw_gfN (host := "ParkingCircle") hC dX5_readCommand_146 (st_cmV (cx_st hC) g4) (by decide +kernel) ?_
                refine aw_if_eq hC dX5_readCommand_149 (tgt := 159) (by decide) ?_ ?_
                · refine aw_iconst hC dX5_readCommand_159 (v := 0) (by decide) ?_
                  refine aw_istore hC dX5_readCommand_160 (by decide) ?_
                  refine aw_aload_n hC dX5_readCommand_162 rfl ?_
                  refine aw_iload_n hC dX5_readCommand_163 rfl ?_
                  refine aw_if_eq_t hC dX5_readCommand_164 (tgt := 172) (by decide) (by decide) ?_
                  refine aw_bipush hC dX5_readCommand_172 (v := 59) (by decide) ?_
                  refine aw_bind rfl (fun q15 hq15 => ?_)
                  refine aw_cVb hC dX5_readCommand_174 cv_RX5_58 rfl rm_4_0_0 (am_some (inj := (fun r => (.inr (some (.int (b2i r.1))), r.2))) hq15 (A_X6_readMark _ (hC.2.2.2.2.2.2.2.2.2.2.2.2.1) _ _ _ (59 : Int32) h)) rfl rfl rfl rfl rfl ⟨rfl, rfl⟩ ?_
                  refine aw_if_ne_b hC dX5_readCommand_177 (tgt := 182) (by decide) ?_ ?_
                  · refine aw_aload_n hC dX5_readCommand_182 rfl ?_
                    refine aw_aload_n hC dX5_readCommand_183 rfl ?_
                    refine aw_lload hC dX5_readCommand_184 rfl ?_
                    refine aw_iload hC dX5_readCommand_186 rfl ?_
                    refine aw_bind rfl (fun q16 hq16 => ?_)
                    refine aw_cVv hC dX5_readCommand_188 cv_RX5_101 rfl rm_3_0_0 (am_some (inj := (fun r => (.inr (none), r))) hq16 (A_X5_add _ (hC.2.2.2.2.2.2.2.2.2.2.2.2.1) _ _ _ k3 g4 (jX6_word h) (0 : Int32) q15.2)) rfl rfl rfl rfl rfl ⟨rfl, rfl⟩ ?_
                    refine aw_iconst hC dX5_readCommand_191 (v := 1) (by decide) ?_
                    exact aw_zret hC dX5_readCommand_192 rfl (show _ = b2i true from rfl) rfl
                  · refine aw_iconst hC dX5_readCommand_180 (v := 0) (by decide) ?_
                    exact aw_zret hC dX5_readCommand_181 rfl (show _ = b2i false from rfl) rfl
                · refine aw_aload_n hC dX5_readCommand_152 rfl ?_
                  refine aw_cVi hC dX5_readCommand_153 cv_RX5_97 rfl rm_4_0_0 (A_X6_number _ (hC.2.2.2.2.2.2.2.2.2.2.2.2.1) _ _ _ h) rfl rfl rfl rfl rfl ⟨rfl, rfl⟩ ?_
                  refine aw_goto hC dX5_readCommand_156 (tgt := 160) (by decide) ?_
                  refine aw_istore hC dX5_readCommand_160 (by decide) ?_
                  refine aw_aload_n hC dX5_readCommand_162 rfl ?_
                  refine aw_iload_n hC dX5_readCommand_163 rfl ?_
                  refine aw_if_eq_t hC dX5_readCommand_164 (tgt := 172) (by decide) (by decide) ?_
                  refine aw_bipush hC dX5_readCommand_172 (v := 59) (by decide) ?_
                  refine aw_bind rfl (fun q17 hq17 => ?_)
                  refine aw_cVb hC dX5_readCommand_174 cv_RX5_58 rfl rm_4_0_0 (am_some (inj := (fun r => (.inr (some (.int (b2i r.1))), r.2))) hq17 (A_X6_readMark _ (hC.2.2.2.2.2.2.2.2.2.2.2.2.1) _ _ _ (59 : Int32) h)) rfl rfl rfl rfl rfl ⟨rfl, rfl⟩ ?_
                  refine aw_if_ne_b hC dX5_readCommand_177 (tgt := 182) (by decide) ?_ ?_
                  · refine aw_aload_n hC dX5_readCommand_182 rfl ?_
                    refine aw_aload_n hC dX5_readCommand_183 rfl ?_
                    refine aw_lload hC dX5_readCommand_184 rfl ?_
                    refine aw_iload hC dX5_readCommand_186 rfl ?_
                    refine aw_bind rfl (fun q18 hq18 => ?_)
                    refine aw_cVv hC dX5_readCommand_188 cv_RX5_101 rfl rm_3_0_0 (am_some (inj := (fun r => (.inr (none), r))) hq18 (A_X5_add _ (hC.2.2.2.2.2.2.2.2.2.2.2.2.1) _ _ _ k3 g4 (jX6_word h) (jX6_number h) q17.2)) rfl rfl rfl rfl rfl ⟨rfl, rfl⟩ ?_
                    refine aw_iconst hC dX5_readCommand_191 (v := 1) (by decide) ?_
                    exact aw_zret hC dX5_readCommand_192 rfl (show _ = b2i true from rfl) rfl
                  · refine aw_iconst hC dX5_readCommand_180 (v := 0) (by decide) ?_
                    exact aw_zret hC dX5_readCommand_181 rfl (show _ = b2i false from rfl) rfl
              · refine aw_aload_n hC dX5_readCommand_115 rfl ?_
                refine aw_iload_n hC dX5_readCommand_116 rfl ?_
                refine aw_if_eq_t hC dX5_readCommand_117 (tgt := 124) (by decide) (by decide) ?_
                refine aw_iconst hC dX5_readCommand_124 (v := 0) (by decide) ?_
                refine aw_iload_n hC dX5_readCommand_125 rfl ?_
                refine aw_if_eq_t hC dX5_readCommand_126 (tgt := 134) (by decide) (by decide) ?_
                refine aw_sipush hC dX5_readCommand_134 (v := 999) (by decide) ?_
                refine aw_bind rfl (fun q19 hq19 => ?_)
                refine aw_cVb hC dX5_readCommand_137 cv_RX5_93 rfl rm_4_0_0 (am_some (inj := (fun r => (.inr (some (.int (b2i r.1))), r.2))) hq19 (A_X6_readNumber _ (hC.2.2.2.2.2.2.2.2.2.2.2.2.1) _ _ _ (0 : Int32) (999 : Int32) h)) rfl rfl rfl rfl rfl ⟨rfl, rfl⟩ ?_
                refine aw_if_ne_b hC dX5_readCommand_140 (tgt := 145) (by decide) ?_ ?_
                · refine aw_aload_n hC dX5_readCommand_145 rfl ?_
                  refine aw_gfN (host := "ParkingCircle") hC dX5_readCommand_146 (st_cmV (cx_st hC) g4) (by decide +kernel) ?_
                  refine aw_if_eq hC dX5_readCommand_149 (tgt := 159) (by decide) ?_ ?_
                  · refine aw_iconst hC dX5_readCommand_159 (v := 0) (by decide) ?_
                    refine aw_istore hC dX5_readCommand_160 (by decide) ?_
                    refine aw_aload_n hC dX5_readCommand_162 rfl ?_
                    refine aw_iload_n hC dX5_readCommand_163 rfl ?_
                    refine aw_if_eq_t hC dX5_readCommand_164 (tgt := 172) (by decide) (by decide) ?_
                    refine aw_bipush hC dX5_readCommand_172 (v := 59) (by decide) ?_
                    refine aw_bind rfl (fun q20 hq20 => ?_)
                    refine aw_cVb hC dX5_readCommand_174 cv_RX5_58 rfl rm_4_0_0 (am_some (inj := (fun r => (.inr (some (.int (b2i r.1))), r.2))) hq20 (A_X6_readMark _ (hC.2.2.2.2.2.2.2.2.2.2.2.2.1) _ _ _ (59 : Int32) q19.2)) rfl rfl rfl rfl rfl ⟨rfl, rfl⟩ ?_
                    refine aw_if_ne_b hC dX5_readCommand_177 (tgt := 182) (by decide) ?_ ?_
                    · refine aw_aload_n hC dX5_readCommand_182 rfl ?_
                      refine aw_aload_n hC dX5_readCommand_183 rfl ?_
                      refine aw_lload hC dX5_readCommand_184 rfl ?_
                      refine aw_iload hC dX5_readCommand_186 rfl ?_
                      refine aw_bind rfl (fun q21 hq21 => ?_)
                      refine aw_cVv hC dX5_readCommand_188 cv_RX5_101 rfl rm_3_0_0 (am_some (inj := (fun r => (.inr (none), r))) hq21 (A_X5_add _ (hC.2.2.2.2.2.2.2.2.2.2.2.2.1) _ _ _ k3 g4 (jX6_word h) (0 : Int32) q20.2)) rfl rfl rfl rfl rfl ⟨rfl, rfl⟩ ?_
                      refine aw_iconst hC dX5_readCommand_191 (v := 1) (by decide) ?_
                      exact aw_zret hC dX5_readCommand_192 rfl (show _ = b2i true from rfl) rfl
                    · refine aw_iconst hC dX5_readCommand_180 (v := 0) (by decide) ?_
                      exact aw_zret hC dX5_readCommand_181 rfl (show _ = b2i false from rfl) rfl
                  · refine aw_aload_n hC dX5_readCommand_152 rfl ?_
                    refine aw_cVi hC dX5_readCommand_153 cv_RX5_97 rfl rm_4_0_0 (A_X6_number _ (hC.2.2.2.2.2.2.2.2.2.2.2.2.1) _ _ _ q19.2) rfl rfl rfl rfl rfl ⟨rfl, rfl⟩ ?_
                    refine aw_goto hC dX5_readCommand_156 (tgt := 160) (by decide) ?_
                    refine aw_istore hC dX5_readCommand_160 (by decide) ?_
                    refine aw_aload_n hC dX5_readCommand_162 rfl ?_
                    refine aw_iload_n hC dX5_readCommand_163 rfl ?_
                    refine aw_if_eq_t hC dX5_readCommand_164 (tgt := 172) (by decide) (by decide) ?_
                    refine aw_bipush hC dX5_readCommand_172 (v := 59) (by decide) ?_
                    refine aw_bind rfl (fun q22 hq22 => ?_)
                    refine aw_cVb hC dX5_readCommand_174 cv_RX5_58 rfl rm_4_0_0 (am_some (inj := (fun r => (.inr (some (.int (b2i r.1))), r.2))) hq22 (A_X6_readMark _ (hC.2.2.2.2.2.2.2.2.2.2.2.2.1) _ _ _ (59 : Int32) q19.2)) rfl rfl rfl rfl rfl ⟨rfl, rfl⟩ ?_
                    refine aw_if_ne_b hC dX5_readCommand_177 (tgt := 182) (by decide) ?_ ?_
                    · refine aw_aload_n hC dX5_readCommand_182 rfl ?_
                      refine aw_aload_n hC dX5_readCommand_183 rfl ?_
                      refine aw_lload hC dX5_readCommand_184 rfl ?_
                      refine aw_iload hC dX5_readCommand_186 rfl ?_
                      refine aw_bind rfl (fun q23 hq23 => ?_)
                      refine aw_cVv hC dX5_readCommand_188 cv_RX5_101 rfl rm_3_0_0 (am_some (inj := (fun r => (.inr (none), r))) hq23 (A_X5_add _ (hC.2.2.2.2.2.2.2.2.2.2.2.2.1) _ _ _ k3 g4 (jX6_word h) (jX6_number q19.2) q22.2)) rfl rfl rfl rfl rfl ⟨rfl, rfl⟩ ?_
                      refine aw_iconst hC dX5_readCommand_191 (v := 1) (by decide) ?_
                      exact aw_zret hC dX5_readCommand_192 rfl (show _ = b2i true from rfl) rfl
                    · refine aw_iconst hC dX5_readCommand_180 (v := 0) (by decide) ?_
                      exact aw_zret hC dX5_readCommand_181 rfl (show _ = b2i false from rfl) rfl
                · refine aw_iconst hC dX5_readCommand_143 (v := 0) (by decide) ?_
                  exact aw_zret hC dX5_readCommand_144 rfl (show _ = b2i false from rfl) rfl
          · refine aw_aload_n hC dX5_readCommand_82 rfl ?_
            refine aw_bind rfl (fun q24 hq24 => ?_)
            refine aw_cVb hC dX5_readCommand_83 cv_RX5_87 rfl rm_4_0_0 (am_some (inj := (fun r => (.inr (some (.int (b2i r.1))), r.2))) hq24 (A_X6_readName _ (hC.2.2.2.2.2.2.2.2.2.2.2.2.1) _ _ _ h)) rfl rfl rfl rfl rfl ⟨rfl, rfl⟩ ?_
            refine aw_if_ne_b hC dX5_readCommand_86 (tgt := 91) (by decide) ?_ ?_
            · refine aw_aload_n hC dX5_readCommand_91 rfl ?_
              refine aw_gfN (host := "ParkingCircle") hC dX5_readCommand_92 (st_cmN (cx_st hC) g4) (by decide +kernel) ?_
              refine aw_if_eq hC dX5_readCommand_95 (tgt := 105) (by decide) ?_ ?_
              · refine aw_lconst hC dX5_readCommand_105 (v := 0) (by decide) ?_
                refine aw_lstore hC dX5_readCommand_106 (by decide) ?_
                refine aw_aload_n hC dX5_readCommand_108 rfl ?_
                refine aw_gfN (host := "ParkingCircle") hC dX5_readCommand_109 (st_cmV (cx_st hC) g4) (by decide +kernel) ?_
                refine aw_if_eq hC dX5_readCommand_112 (tgt := 145) (by decide) ?_ ?_
                · refine aw_aload_n hC dX5_readCommand_145 rfl ?_
                  refine aw_gfN (host := "ParkingCircle") hC dX5_readCommand_146 (st_cmV (cx_st hC) g4) (by decide +kernel) ?_
                  refine aw_if_eq hC dX5_readCommand_149 (tgt := 159) (by decide) ?_ ?_
                  · refine aw_iconst hC dX5_readCommand_159 (v := 0) (by decide) ?_
                    refine aw_istore hC dX5_readCommand_160 (by decide) ?_
                    refine aw_aload_n hC dX5_readCommand_162 rfl ?_
                    refine aw_iload_n hC dX5_readCommand_163 rfl ?_
                    refine aw_if_eq_t hC dX5_readCommand_164 (tgt := 172) (by decide) (by decide) ?_
                    refine aw_bipush hC dX5_readCommand_172 (v := 59) (by decide) ?_
                    refine aw_bind rfl (fun q25 hq25 => ?_)
                    refine aw_cVb hC dX5_readCommand_174 cv_RX5_58 rfl rm_4_0_0 (am_some (inj := (fun r => (.inr (some (.int (b2i r.1))), r.2))) hq25 (A_X6_readMark _ (hC.2.2.2.2.2.2.2.2.2.2.2.2.1) _ _ _ (59 : Int32) q24.2)) rfl rfl rfl rfl rfl ⟨rfl, rfl⟩ ?_
                    refine aw_if_ne_b hC dX5_readCommand_177 (tgt := 182) (by decide) ?_ ?_
                    · refine aw_aload_n hC dX5_readCommand_182 rfl ?_
                      refine aw_aload_n hC dX5_readCommand_183 rfl ?_
                      refine aw_lload hC dX5_readCommand_184 rfl ?_
                      refine aw_iload hC dX5_readCommand_186 rfl ?_
                      refine aw_bind rfl (fun q26 hq26 => ?_)
                      refine aw_cVv hC dX5_readCommand_188 cv_RX5_101 rfl rm_3_0_0 (am_some (inj := (fun r => (.inr (none), r))) hq26 (A_X5_add _ (hC.2.2.2.2.2.2.2.2.2.2.2.2.1) _ _ _ k3 g4 (0 : Int64) (0 : Int32) q25.2)) rfl rfl rfl rfl rfl ⟨rfl, rfl⟩ ?_
                      refine aw_iconst hC dX5_readCommand_191 (v := 1) (by decide) ?_
                      exact aw_zret hC dX5_readCommand_192 rfl (show _ = b2i true from rfl) rfl
                    · refine aw_iconst hC dX5_readCommand_180 (v := 0) (by decide) ?_
                      exact aw_zret hC dX5_readCommand_181 rfl (show _ = b2i false from rfl) rfl
                  · refine aw_aload_n hC dX5_readCommand_152 rfl ?_
                    refine aw_cVi hC dX5_readCommand_153 cv_RX5_97 rfl rm_4_0_0 (A_X6_number _ (hC.2.2.2.2.2.2.2.2.2.2.2.2.1) _ _ _ q24.2) rfl rfl rfl rfl rfl ⟨rfl, rfl⟩ ?_
                    refine aw_goto hC dX5_readCommand_156 (tgt := 160) (by decide) ?_
                    refine aw_istore hC dX5_readCommand_160 (by decide) ?_
                    refine aw_aload_n hC dX5_readCommand_162 rfl ?_
                    refine aw_iload_n hC dX5_readCommand_163 rfl ?_
                    refine aw_if_eq_t hC dX5_readCommand_164 (tgt := 172) (by decide) (by decide) ?_
                    refine aw_bipush hC dX5_readCommand_172 (v := 59) (by decide) ?_
                    refine aw_bind rfl (fun q27 hq27 => ?_)
                    refine aw_cVb hC dX5_readCommand_174 cv_RX5_58 rfl rm_4_0_0 (am_some (inj := (fun r => (.inr (some (.int (b2i r.1))), r.2))) hq27 (A_X6_readMark _ (hC.2.2.2.2.2.2.2.2.2.2.2.2.1) _ _ _ (59 : Int32) q24.2)) rfl rfl rfl rfl rfl ⟨rfl, rfl⟩ ?_
                    refine aw_if_ne_b hC dX5_readCommand_177 (tgt := 182) (by decide) ?_ ?_
                    · refine aw_aload_n hC dX5_readCommand_182 rfl ?_
                      refine aw_aload_n hC dX5_readCommand_183 rfl ?_
                      refine aw_lload hC dX5_readCommand_184 rfl ?_
                      refine aw_iload hC dX5_readCommand_186 rfl ?_
                      refine aw_bind rfl (fun q28 hq28 => ?_)
                      refine aw_cVv hC dX5_readCommand_188 cv_RX5_101 rfl rm_3_0_0 (am_some (inj := (fun r => (.inr (none), r))) hq28 (A_X5_add _ (hC.2.2.2.2.2.2.2.2.2.2.2.2.1) _ _ _ k3 g4 (0 : Int64) (jX6_number q24.2) q27.2)) rfl rfl rfl rfl rfl ⟨rfl, rfl⟩ ?_
                      refine aw_iconst hC dX5_readCommand_191 (v := 1) (by decide) ?_
                      exact aw_zret hC dX5_readCommand_192 rfl (show _ = b2i true from rfl) rfl
                    · refine aw_iconst hC dX5_readCommand_180 (v := 0) (by decide) ?_
                      exact aw_zret hC dX5_readCommand_181 rfl (show _ = b2i false from rfl) rfl
                · refine aw_aload_n hC dX5_readCommand_115 rfl ?_
                  refine aw_iload_n hC dX5_readCommand_116 rfl ?_
                  refine aw_if_eq_t hC dX5_readCommand_117 (tgt := 124) (by decide) (by decide) ?_
                  refine aw_iconst hC dX5_readCommand_124 (v := 0) (by decide) ?_
                  refine aw_iload_n hC dX5_readCommand_125 rfl ?_
                  refine aw_if_eq_t hC dX5_readCommand_126 (tgt := 134) (by decide) (by decide) ?_
                  refine aw_sipush hC dX5_readCommand_134 (v := 999) (by decide) ?_
                  refine aw_bind rfl (fun q29 hq29 => ?_)
                  refine aw_cVb hC dX5_readCommand_137 cv_RX5_93 rfl rm_4_0_0 (am_some (inj := (fun r => (.inr (some (.int (b2i r.1))), r.2))) hq29 (A_X6_readNumber _ (hC.2.2.2.2.2.2.2.2.2.2.2.2.1) _ _ _ (0 : Int32) (999 : Int32) q24.2)) rfl rfl rfl rfl rfl ⟨rfl, rfl⟩ ?_
                  refine aw_if_ne_b hC dX5_readCommand_140 (tgt := 145) (by decide) ?_ ?_
                  · refine aw_aload_n hC dX5_readCommand_145 rfl ?_
                    refine aw_gfN (host := "ParkingCircle") hC dX5_readCommand_146 (st_cmV (cx_st hC) g4) (by decide +kernel) ?_
                    refine aw_if_eq hC dX5_readCommand_149 (tgt := 159) (by decide) ?_ ?_
                    · refine aw_iconst hC dX5_readCommand_159 (v := 0) (by decide) ?_
                      refine aw_istore hC dX5_readCommand_160 (by decide) ?_
                      refine aw_aload_n hC dX5_readCommand_162 rfl ?_
                      refine aw_iload_n hC dX5_readCommand_163 rfl ?_
                      refine aw_if_eq_t hC dX5_readCommand_164 (tgt := 172) (by decide) (by decide) ?_
                      refine aw_bipush hC dX5_readCommand_172 (v := 59) (by decide) ?_
                      refine aw_bind rfl (fun q30 hq30 => ?_)
                      refine aw_cVb hC dX5_readCommand_174 cv_RX5_58 rfl rm_4_0_0 (am_some (inj := (fun r => (.inr (some (.int (b2i r.1))), r.2))) hq30 (A_X6_readMark _ (hC.2.2.2.2.2.2.2.2.2.2.2.2.1) _ _ _ (59 : Int32) q29.2)) rfl rfl rfl rfl rfl ⟨rfl, rfl⟩ ?_
                      refine aw_if_ne_b hC dX5_readCommand_177 (tgt := 182) (by decide) ?_ ?_
                      · refine aw_aload_n hC dX5_readCommand_182 rfl ?_
                        refine aw_aload_n hC dX5_readCommand_183 rfl ?_
                        refine aw_lload hC dX5_readCommand_184 rfl ?_
                        refine aw_iload hC dX5_readCommand_186 rfl ?_
                        refine aw_bind rfl (fun q31 hq31 => ?_)
                        refine aw_cVv hC dX5_readCommand_188 cv_RX5_101 rfl rm_3_0_0 (am_some (inj := (fun r => (.inr (none), r))) hq31 (A_X5_add _ (hC.2.2.2.2.2.2.2.2.2.2.2.2.1) _ _ _ k3 g4 (0 : Int64) (0 : Int32) q30.2)) rfl rfl rfl rfl rfl ⟨rfl, rfl⟩ ?_
                        refine aw_iconst hC dX5_readCommand_191 (v := 1) (by decide) ?_
                        exact aw_zret hC dX5_readCommand_192 rfl (show _ = b2i true from rfl) rfl
                      · refine aw_iconst hC dX5_readCommand_180 (v := 0) (by decide) ?_
                        exact aw_zret hC dX5_readCommand_181 rfl (show _ = b2i false from rfl) rfl
                    · refine aw_aload_n hC dX5_readCommand_152 rfl ?_
                      refine aw_cVi hC dX5_readCommand_153 cv_RX5_97 rfl rm_4_0_0 (A_X6_number _ (hC.2.2.2.2.2.2.2.2.2.2.2.2.1) _ _ _ q29.2) rfl rfl rfl rfl rfl ⟨rfl, rfl⟩ ?_
                      refine aw_goto hC dX5_readCommand_156 (tgt := 160) (by decide) ?_
                      refine aw_istore hC dX5_readCommand_160 (by decide) ?_
                      refine aw_aload_n hC dX5_readCommand_162 rfl ?_
                      refine aw_iload_n hC dX5_readCommand_163 rfl ?_
                      refine aw_if_eq_t hC dX5_readCommand_164 (tgt := 172) (by decide) (by decide) ?_
                      refine aw_bipush hC dX5_readCommand_172 (v := 59) (by decide) ?_
                      refine aw_bind rfl (fun q32 hq32 => ?_)
                      refine aw_cVb hC dX5_readCommand_174 cv_RX5_58 rfl rm_4_0_0 (am_some (inj := (fun r => (.inr (some (.int (b2i r.1))), r.2))) hq32 (A_X6_readMark _ (hC.2.2.2.2.2.2.2.2.2.2.2.2.1) _ _ _ (59 : Int32) q29.2)) rfl rfl rfl rfl rfl ⟨rfl, rfl⟩ ?_
                      refine aw_if_ne_b hC dX5_readCommand_177 (tgt := 182) (by decide) ?_ ?_
                      · refine aw_aload_n hC dX5_readCommand_182 rfl ?_
                        refine aw_aload_n hC dX5_readCommand_183 rfl ?_
                        refine aw_lload hC dX5_readCommand_184 rfl ?_
                        refine aw_iload hC dX5_readCommand_186 rfl ?_
                        refine aw_bind rfl (fun q33 hq33 => ?_)
                        refine aw_cVv hC dX5_readCommand_188 cv_RX5_101 rfl rm_3_0_0 (am_some (inj := (fun r => (.inr (none), r))) hq33 (A_X5_add _ (hC.2.2.2.2.2.2.2.2.2.2.2.2.1) _ _ _ k3 g4 (0 : Int64) (jX6_number q29.2) q32.2)) rfl rfl rfl rfl rfl ⟨rfl, rfl⟩ ?_
                        refine aw_iconst hC dX5_readCommand_191 (v := 1) (by decide) ?_
                        exact aw_zret hC dX5_readCommand_192 rfl (show _ = b2i true from rfl) rfl
                      · refine aw_iconst hC dX5_readCommand_180 (v := 0) (by decide) ?_
                        exact aw_zret hC dX5_readCommand_181 rfl (show _ = b2i false from rfl) rfl
                  · refine aw_iconst hC dX5_readCommand_143 (v := 0) (by decide) ?_
                    exact aw_zret hC dX5_readCommand_144 rfl (show _ = b2i false from rfl) rfl
              · refine aw_aload_n hC dX5_readCommand_98 rfl ?_
                refine aw_cVj hC dX5_readCommand_99 cv_RX5_71 rfl rm_4_0_0 (A_X6_word _ (hC.2.2.2.2.2.2.2.2.2.2.2.2.1) _ _ _ q24.2) rfl rfl rfl rfl rfl ⟨rfl, rfl⟩ ?_
                refine aw_goto hC dX5_readCommand_102 (tgt := 106) (by decide) ?_
                refine aw_lstore hC dX5_readCommand_106 (by decide) ?_
                refine aw_aload_n hC dX5_readCommand_108 rfl ?_
                refine aw_gfN (host := "ParkingCircle") hC dX5_readCommand_109 (st_cmV (cx_st hC) g4) (by decide +kernel) ?_
                refine aw_if_eq hC dX5_readCommand_112 (tgt := 145) (by decide) ?_ ?_
                · refine aw_aload_n hC dX5_readCommand_145 rfl ?_
                  refine aw_gfN (host := "ParkingCircle") hC dX5_readCommand_146 (st_cmV (cx_st hC) g4) (by decide +kernel) ?_
                  refine aw_if_eq hC dX5_readCommand_149 (tgt := 159) (by decide) ?_ ?_
                  · refine aw_iconst hC dX5_readCommand_159 (v := 0) (by decide) ?_
                    refine aw_istore hC dX5_readCommand_160 (by decide) ?_
                    refine aw_aload_n hC dX5_readCommand_162 rfl ?_
                    refine aw_iload_n hC dX5_readCommand_163 rfl ?_
                    refine aw_if_eq_t hC dX5_readCommand_164 (tgt := 172) (by decide) (by decide) ?_
                    refine aw_bipush hC dX5_readCommand_172 (v := 59) (by decide) ?_
                    refine aw_bind rfl (fun q34 hq34 => ?_)
                    refine aw_cVb hC dX5_readCommand_174 cv_RX5_58 rfl rm_4_0_0 (am_some (inj := (fun r => (.inr (some (.int (b2i r.1))), r.2))) hq34 (A_X6_readMark _ (hC.2.2.2.2.2.2.2.2.2.2.2.2.1) _ _ _ (59 : Int32) q24.2)) rfl rfl rfl rfl rfl ⟨rfl, rfl⟩ ?_
                    refine aw_if_ne_b hC dX5_readCommand_177 (tgt := 182) (by decide) ?_ ?_
                    · refine aw_aload_n hC dX5_readCommand_182 rfl ?_
                      refine aw_aload_n hC dX5_readCommand_183 rfl ?_
                      refine aw_lload hC dX5_readCommand_184 rfl ?_
                      refine aw_iload hC dX5_readCommand_186 rfl ?_
                      refine aw_bind rfl (fun q35 hq35 => ?_)
                      refine aw_cVv hC dX5_readCommand_188 cv_RX5_101 rfl rm_3_0_0 (am_some (inj := (fun r => (.inr (none), r))) hq35 (A_X5_add _ (hC.2.2.2.2.2.2.2.2.2.2.2.2.1) _ _ _ k3 g4 (jX6_word q24.2) (0 : Int32) q34.2)) rfl rfl rfl rfl rfl ⟨rfl, rfl⟩ ?_
                      refine aw_iconst hC dX5_readCommand_191 (v := 1) (by decide) ?_
                      exact aw_zret hC dX5_readCommand_192 rfl (show _ = b2i true from rfl) rfl
                    · refine aw_iconst hC dX5_readCommand_180 (v := 0) (by decide) ?_
                      exact aw_zret hC dX5_readCommand_181 rfl (show _ = b2i false from rfl) rfl
                  · refine aw_aload_n hC dX5_readCommand_152 rfl ?_
                    refine aw_cVi hC dX5_readCommand_153 cv_RX5_97 rfl rm_4_0_0 (A_X6_number _ (hC.2.2.2.2.2.2.2.2.2.2.2.2.1) _ _ _ q24.2) rfl rfl rfl rfl rfl ⟨rfl, rfl⟩ ?_
                    refine aw_goto hC dX5_readCommand_156 (tgt := 160) (by decide) ?_
                    refine aw_istore hC dX5_readCommand_160 (by decide) ?_
                    refine aw_aload_n hC dX5_readCommand_162 rfl ?_
                    refine aw_iload_n hC dX5_readCommand_163 rfl ?_
                    refine aw_if_eq_t hC dX5_readCommand_164 (tgt := 172) (by decide) (by decide) ?_
                    refine aw_bipush hC dX5_readCommand_172 (v := 59) (by decide) ?_
                    refine aw_bind rfl (fun q36 hq36 => ?_)
                    refine aw_cVb hC dX5_readCommand_174 cv_RX5_58 rfl rm_4_0_0 (am_some (inj := (fun r => (.inr (some (.int (b2i r.1))), r.2))) hq36 (A_X6_readMark _ (hC.2.2.2.2.2.2.2.2.2.2.2.2.1) _ _ _ (59 : Int32) q24.2)) rfl rfl rfl rfl rfl ⟨rfl, rfl⟩ ?_
                    refine aw_if_ne_b hC dX5_readCommand_177 (tgt := 182) (by decide) ?_ ?_
                    · refine aw_aload_n hC dX5_readCommand_182 rfl ?_
                      refine aw_aload_n hC dX5_readCommand_183 rfl ?_
                      refine aw_lload hC dX5_readCommand_184 rfl ?_
                      refine aw_iload hC dX5_readCommand_186 rfl ?_
                      refine aw_bind rfl (fun q37 hq37 => ?_)
                      refine aw_cVv hC dX5_readCommand_188 cv_RX5_101 rfl rm_3_0_0 (am_some (inj := (fun r => (.inr (none), r))) hq37 (A_X5_add _ (hC.2.2.2.2.2.2.2.2.2.2.2.2.1) _ _ _ k3 g4 (jX6_word q24.2) (jX6_number q24.2) q36.2)) rfl rfl rfl rfl rfl ⟨rfl, rfl⟩ ?_
                      refine aw_iconst hC dX5_readCommand_191 (v := 1) (by decide) ?_
                      exact aw_zret hC dX5_readCommand_192 rfl (show _ = b2i true from rfl) rfl
                    · refine aw_iconst hC dX5_readCommand_180 (v := 0) (by decide) ?_
                      exact aw_zret hC dX5_readCommand_181 rfl (show _ = b2i false from rfl) rfl
                · refine aw_aload_n hC dX5_readCommand_115 rfl ?_
                  refine aw_iload_n hC dX5_readCommand_116 rfl ?_
                  refine aw_if_eq_t hC dX5_readCommand_117 (tgt := 124) (by decide) (by decide) ?_
                  refine aw_iconst hC dX5_readCommand_124 (v := 0) (by decide) ?_
                  refine aw_iload_n hC dX5_readCommand_125 rfl ?_
                  refine aw_if_eq_t hC dX5_readCommand_126 (tgt := 134) (by decide) (by decide) ?_
                  refine aw_sipush hC dX5_readCommand_134 (v := 999) (by decide) ?_
                  refine aw_bind rfl (fun q38 hq38 => ?_)
                  refine aw_cVb hC dX5_readCommand_137 cv_RX5_93 rfl rm_4_0_0 (am_some (inj := (fun r => (.inr (some (.int (b2i r.1))), r.2))) hq38 (A_X6_readNumber _ (hC.2.2.2.2.2.2.2.2.2.2.2.2.1) _ _ _ (0 : Int32) (999 : Int32) q24.2)) rfl rfl rfl rfl rfl ⟨rfl, rfl⟩ ?_
                  refine aw_if_ne_b hC dX5_readCommand_140 (tgt := 145) (by decide) ?_ ?_
                  · refine aw_aload_n hC dX5_readCommand_145 rfl ?_
                    refine aw_gfN (host := "ParkingCircle") hC dX5_readCommand_146 (st_cmV (cx_st hC) g4) (by decide +kernel) ?_
                    refine aw_if_eq hC dX5_readCommand_149 (tgt := 159) (by decide) ?_ ?_
                    · refine aw_iconst hC dX5_readCommand_159 (v := 0) (by decide) ?_
                      refine aw_istore hC dX5_readCommand_160 (by decide) ?_
                      refine aw_aload_n hC dX5_readCommand_162 rfl ?_
                      refine aw_iload_n hC dX5_readCommand_163 rfl ?_
                      refine aw_if_eq_t hC dX5_readCommand_164 (tgt := 172) (by decide) (by decide) ?_
                      refine aw_bipush hC dX5_readCommand_172 (v := 59) (by decide) ?_
                      refine aw_bind rfl (fun q39 hq39 => ?_)
                      refine aw_cVb hC dX5_readCommand_174 cv_RX5_58 rfl rm_4_0_0 (am_some (inj := (fun r => (.inr (some (.int (b2i r.1))), r.2))) hq39 (A_X6_readMark _ (hC.2.2.2.2.2.2.2.2.2.2.2.2.1) _ _ _ (59 : Int32) q38.2)) rfl rfl rfl rfl rfl ⟨rfl, rfl⟩ ?_
                      refine aw_if_ne_b hC dX5_readCommand_177 (tgt := 182) (by decide) ?_ ?_
                      · refine aw_aload_n hC dX5_readCommand_182 rfl ?_
                        refine aw_aload_n hC dX5_readCommand_183 rfl ?_
                        refine aw_lload hC dX5_readCommand_184 rfl ?_
                        refine aw_iload hC dX5_readCommand_186 rfl ?_
                        refine aw_bind rfl (fun q40 hq40 => ?_)
                        refine aw_cVv hC dX5_readCommand_188 cv_RX5_101 rfl rm_3_0_0 (am_some (inj := (fun r => (.inr (none), r))) hq40 (A_X5_add _ (hC.2.2.2.2.2.2.2.2.2.2.2.2.1) _ _ _ k3 g4 (jX6_word q24.2) (0 : Int32) q39.2)) rfl rfl rfl rfl rfl ⟨rfl, rfl⟩ ?_
                        refine aw_iconst hC dX5_readCommand_191 (v := 1) (by decide) ?_
                        exact aw_zret hC dX5_readCommand_192 rfl (show _ = b2i true from rfl) rfl
                      · refine aw_iconst hC dX5_readCommand_180 (v := 0) (by decide) ?_
                        exact aw_zret hC dX5_readCommand_181 rfl (show _ = b2i false from rfl) rfl
                    · refine aw_aload_n hC dX5_readCommand_152 rfl ?_
                      refine aw_cVi hC dX5_readCommand_153 cv_RX5_97 rfl rm_4_0_0 (A_X6_number _ (hC.2.2.2.2.2.2.2.2.2.2.2.2.1) _ _ _ q38.2) rfl rfl rfl rfl rfl ⟨rfl, rfl⟩ ?_
                      refine aw_goto hC dX5_readCommand_156 (tgt := 160) (by decide) ?_
                      refine aw_istore hC dX5_readCommand_160 (by decide) ?_
                      refine aw_aload_n hC dX5_readCommand_162 rfl ?_
                      refine aw_iload_n hC dX5_readCommand_163 rfl ?_
                      refine aw_if_eq_t hC dX5_readCommand_164 (tgt := 172) (by decide) (by decide) ?_
                      refine aw_bipush hC dX5_readCommand_172 (v := 59) (by decide) ?_
                      refine aw_bind rfl (fun q41 hq41 => ?_)
                      refine aw_cVb hC dX5_readCommand_174 cv_RX5_58 rfl rm_4_0_0 (am_some (inj := (fun r => (.inr (some (.int (b2i r.1))), r.2))) hq41 (A_X6_readMark _ (hC.2.2.2.2.2.2.2.2.2.2.2.2.1) _ _ _ (59 : Int32) q38.2)) rfl rfl rfl rfl rfl ⟨rfl, rfl⟩ ?_
                      refine aw_if_ne_b hC dX5_readCommand_177 (tgt := 182) (by decide) ?_ ?_
                      · refine aw_aload_n hC dX5_readCommand_182 rfl ?_
                        refine aw_aload_n hC dX5_readCommand_183 rfl ?_
                        refine aw_lload hC dX5_readCommand_184 rfl ?_
                        refine aw_iload hC dX5_readCommand_186 rfl ?_
                        refine aw_bind rfl (fun q42 hq42 => ?_)
                        refine aw_cVv hC dX5_readCommand_188 cv_RX5_101 rfl rm_3_0_0 (am_some (inj := (fun r => (.inr (none), r))) hq42 (A_X5_add _ (hC.2.2.2.2.2.2.2.2.2.2.2.2.1) _ _ _ k3 g4 (jX6_word q24.2) (jX6_number q38.2) q41.2)) rfl rfl rfl rfl rfl ⟨rfl, rfl⟩ ?_
                        refine aw_iconst hC dX5_readCommand_191 (v := 1) (by decide) ?_
                        exact aw_zret hC dX5_readCommand_192 rfl (show _ = b2i true from rfl) rfl
                      · refine aw_iconst hC dX5_readCommand_180 (v := 0) (by decide) ?_
                        exact aw_zret hC dX5_readCommand_181 rfl (show _ = b2i false from rfl) rfl
                  · refine aw_iconst hC dX5_readCommand_143 (v := 0) (by decide) ?_
                    exact aw_zret hC dX5_readCommand_144 rfl (show _ = b2i false from rfl) rfl
            · refine aw_iconst hC dX5_readCommand_89 (v := 0) (by decide) ?_
              exact aw_zret hC dX5_readCommand_90 rfl (show _ = b2i false from rfl) rfl
        · refine aw_aload_n hC dX5_readCommand_69 rfl ?_
          refine aw_iconst hC dX5_readCommand_70 (v := 5) (by decide) ?_
          refine aw_bind rfl (fun q43 hq43 => ?_)
          refine aw_cVb hC dX5_readCommand_71 cv_RX5_65 rfl rm_4_0_0 (am_some (inj := (fun r => (.inr (some (.int (b2i r.1))), r.2))) hq43 (A_X6_fail _ (hC.2.2.2.2.2.2.2.2.2.2.2.2.1) _ _ _ (5 : Int32) h)) rfl rfl rfl rfl rfl ⟨rfl, rfl⟩ ?_
          exact aw_zret hC dX5_readCommand_74 rfl (show _ = b2i q43.1 from rfl) rfl
      · refine aw_iconst hC dX5_readCommand_36 (v := 1) (by decide) ?_
        refine aw_goto hC dX5_readCommand_37 (tgt := 41) (by decide) ?_
        refine aw_istore_n hC dX5_readCommand_41 (by decide) ?_
        refine aw_iload_n hC dX5_readCommand_42 rfl ?_
        refine aw_if_eq_f hC dX5_readCommand_43 (tgt := 60) (by decide) (by decide) ?_
        refine aw_aload_n hC dX5_readCommand_46 rfl ?_
        refine aw_gfI hC dX5_readCommand_47 fg_RX5_31 rfl rm_3_0_0 ?_
        refine aw_iconst hC dX5_readCommand_50 (v := 2) (by decide) ?_
        refine aw_icmp_lt hC dX5_readCommand_51 (tgt := 60) (by decide) ?_ ?_
        · refine aw_aload_n hC dX5_readCommand_60 rfl ?_
          refine aw_gfI hC dX5_readCommand_61 fg_RX5_35 rfl rm_3_0_0 ?_
          refine aw_bipush hC dX5_readCommand_64 (v := 30) (by decide) ?_
          refine aw_icmp_lt hC dX5_readCommand_66 (tgt := 75) (by decide) ?_ ?_
          · refine aw_aload_n hC dX5_readCommand_75 rfl ?_
            refine aw_gfN (host := "ParkingCircle") hC dX5_readCommand_76 (st_cmN (cx_st hC) g4) (by decide +kernel) ?_
            refine aw_if_eq hC dX5_readCommand_79 (tgt := 91) (by decide) ?_ ?_
            · refine aw_aload_n hC dX5_readCommand_91 rfl ?_
              refine aw_gfN (host := "ParkingCircle") hC dX5_readCommand_92 (st_cmN (cx_st hC) g4) (by decide +kernel) ?_
              refine aw_if_eq hC dX5_readCommand_95 (tgt := 105) (by decide) ?_ ?_
              · refine aw_lconst hC dX5_readCommand_105 (v := 0) (by decide) ?_
                refine aw_lstore hC dX5_readCommand_106 (by decide) ?_
                refine aw_aload_n hC dX5_readCommand_108 rfl ?_
                refine aw_gfN (host := "ParkingCircle") hC dX5_readCommand_109 (st_cmV (cx_st hC) g4) (by decide +kernel) ?_
                refine aw_if_eq hC dX5_readCommand_112 (tgt := 145) (by decide) ?_ ?_
                · refine aw_aload_n hC dX5_readCommand_145 rfl ?_
                  refine aw_gfN (host := "ParkingCircle") hC dX5_readCommand_146 (st_cmV (cx_st hC) g4) (by decide +kernel) ?_
                  refine aw_if_eq hC dX5_readCommand_149 (tgt := 159) (by decide) ?_ ?_
                  · refine aw_iconst hC dX5_readCommand_159 (v := 0) (by decide) ?_
                    refine aw_istore hC dX5_readCommand_160 (by decide) ?_
                    refine aw_aload_n hC dX5_readCommand_162 rfl ?_
                    refine aw_iload_n hC dX5_readCommand_163 rfl ?_
                    refine aw_if_eq_f hC dX5_readCommand_164 (tgt := 172) (by decide) (by decide) ?_
                    refine aw_bipush hC dX5_readCommand_167 (v := 40) (by decide) ?_
                    refine aw_goto hC dX5_readCommand_169 (tgt := 174) (by decide) ?_
                    refine aw_bind rfl (fun q44 hq44 => ?_)
                    refine aw_cVb hC dX5_readCommand_174 cv_RX5_58 rfl rm_4_0_0 (am_some (inj := (fun r => (.inr (some (.int (b2i r.1))), r.2))) hq44 (A_X6_readMark _ (hC.2.2.2.2.2.2.2.2.2.2.2.2.1) _ _ _ (40 : Int32) h)) rfl rfl rfl rfl rfl ⟨rfl, rfl⟩ ?_
                    refine aw_if_ne_b hC dX5_readCommand_177 (tgt := 182) (by decide) ?_ ?_
                    · refine aw_aload_n hC dX5_readCommand_182 rfl ?_
                      refine aw_aload_n hC dX5_readCommand_183 rfl ?_
                      refine aw_lload hC dX5_readCommand_184 rfl ?_
                      refine aw_iload hC dX5_readCommand_186 rfl ?_
                      refine aw_bind rfl (fun q45 hq45 => ?_)
                      refine aw_cVv hC dX5_readCommand_188 cv_RX5_101 rfl rm_3_0_0 (am_some (inj := (fun r => (.inr (none), r))) hq45 (A_X5_add _ (hC.2.2.2.2.2.2.2.2.2.2.2.2.1) _ _ _ k3 g4 (0 : Int64) (0 : Int32) q44.2)) rfl rfl rfl rfl rfl ⟨rfl, rfl⟩ ?_
                      refine aw_iconst hC dX5_readCommand_191 (v := 1) (by decide) ?_
                      exact aw_zret hC dX5_readCommand_192 rfl (show _ = b2i true from rfl) rfl
                    · refine aw_iconst hC dX5_readCommand_180 (v := 0) (by decide) ?_
                      exact aw_zret hC dX5_readCommand_181 rfl (show _ = b2i false from rfl) rfl
                  · refine aw_aload_n hC dX5_readCommand_152 rfl ?_
                    refine aw_cVi hC dX5_readCommand_153 cv_RX5_97 rfl rm_4_0_0 (A_X6_number _ (hC.2.2.2.2.2.2.2.2.2.2.2.2.1) _ _ _ h) rfl rfl rfl rfl rfl ⟨rfl, rfl⟩ ?_
                    refine aw_goto hC dX5_readCommand_156 (tgt := 160) (by decide) ?_
                    refine aw_istore hC dX5_readCommand_160 (by decide) ?_
                    refine aw_aload_n hC dX5_readCommand_162 rfl ?_
                    refine aw_iload_n hC dX5_readCommand_163 rfl ?_
                    refine aw_if_eq_f hC dX5_readCommand_164 (tgt := 172) (by decide) (by decide) ?_
                    refine aw_bipush hC dX5_readCommand_167 (v := 40) (by decide) ?_
                    refine aw_goto hC dX5_readCommand_169 (tgt := 174) (by decide) ?_
                    refine aw_bind rfl (fun q46 hq46 => ?_)
                    refine aw_cVb hC dX5_readCommand_174 cv_RX5_58 rfl rm_4_0_0 (am_some (inj := (fun r => (.inr (some (.int (b2i r.1))), r.2))) hq46 (A_X6_readMark _ (hC.2.2.2.2.2.2.2.2.2.2.2.2.1) _ _ _ (40 : Int32) h)) rfl rfl rfl rfl rfl ⟨rfl, rfl⟩ ?_
                    refine aw_if_ne_b hC dX5_readCommand_177 (tgt := 182) (by decide) ?_ ?_
                    · refine aw_aload_n hC dX5_readCommand_182 rfl ?_
                      refine aw_aload_n hC dX5_readCommand_183 rfl ?_
                      refine aw_lload hC dX5_readCommand_184 rfl ?_
                      refine aw_iload hC dX5_readCommand_186 rfl ?_
                      refine aw_bind rfl (fun q47 hq47 => ?_)
                      refine aw_cVv hC dX5_readCommand_188 cv_RX5_101 rfl rm_3_0_0 (am_some (inj := (fun r => (.inr (none), r))) hq47 (A_X5_add _ (hC.2.2.2.2.2.2.2.2.2.2.2.2.1) _ _ _ k3 g4 (0 : Int64) (jX6_number h) q46.2)) rfl rfl rfl rfl rfl ⟨rfl, rfl⟩ ?_
                      refine aw_iconst hC dX5_readCommand_191 (v := 1) (by decide) ?_
                      exact aw_zret hC dX5_readCommand_192 rfl (show _ = b2i true from rfl) rfl
                    · refine aw_iconst hC dX5_readCommand_180 (v := 0) (by decide) ?_
                      exact aw_zret hC dX5_readCommand_181 rfl (show _ = b2i false from rfl) rfl
                · refine aw_aload_n hC dX5_readCommand_115 rfl ?_
                  refine aw_iload_n hC dX5_readCommand_116 rfl ?_
                  refine aw_if_eq_f hC dX5_readCommand_117 (tgt := 124) (by decide) (by decide) ?_
                  refine aw_iconst hC dX5_readCommand_120 (v := 1) (by decide) ?_
                  refine aw_goto hC dX5_readCommand_121 (tgt := 125) (by decide) ?_
                  refine aw_iload_n hC dX5_readCommand_125 rfl ?_
                  refine aw_if_eq_f hC dX5_readCommand_126 (tgt := 134) (by decide) (by decide) ?_
                  refine aw_bipush hC dX5_readCommand_129 (v := 20) (by decide) ?_
                  refine aw_goto hC dX5_readCommand_131 (tgt := 137) (by decide) ?_
                  refine aw_bind rfl (fun q48 hq48 => ?_)
                  refine aw_cVb hC dX5_readCommand_137 cv_RX5_93 rfl rm_4_0_0 (am_some (inj := (fun r => (.inr (some (.int (b2i r.1))), r.2))) hq48 (A_X6_readNumber _ (hC.2.2.2.2.2.2.2.2.2.2.2.2.1) _ _ _ (1 : Int32) (20 : Int32) h)) rfl rfl rfl rfl rfl ⟨rfl, rfl⟩ ?_
                  refine aw_if_ne_b hC dX5_readCommand_140 (tgt := 145) (by decide) ?_ ?_
                  · refine aw_aload_n hC dX5_readCommand_145 rfl ?_
                    refine aw_gfN (host := "ParkingCircle") hC dX5_readCommand_146 (st_cmV (cx_st hC) g4) (by decide +kernel) ?_
                    refine aw_if_eq hC dX5_readCommand_149 (tgt := 159) (by decide) ?_ ?_
                    · refine aw_iconst hC dX5_readCommand_159 (v := 0) (by decide) ?_
                      refine aw_istore hC dX5_readCommand_160 (by decide) ?_
                      refine aw_aload_n hC dX5_readCommand_162 rfl ?_
                      refine aw_iload_n hC dX5_readCommand_163 rfl ?_
                      refine aw_if_eq_f hC dX5_readCommand_164 (tgt := 172) (by decide) (by decide) ?_
                      refine aw_bipush hC dX5_readCommand_167 (v := 40) (by decide) ?_
                      refine aw_goto hC dX5_readCommand_169 (tgt := 174) (by decide) ?_
                      refine aw_bind rfl (fun q49 hq49 => ?_)
                      refine aw_cVb hC dX5_readCommand_174 cv_RX5_58 rfl rm_4_0_0 (am_some (inj := (fun r => (.inr (some (.int (b2i r.1))), r.2))) hq49 (A_X6_readMark _ (hC.2.2.2.2.2.2.2.2.2.2.2.2.1) _ _ _ (40 : Int32) q48.2)) rfl rfl rfl rfl rfl ⟨rfl, rfl⟩ ?_
                      refine aw_if_ne_b hC dX5_readCommand_177 (tgt := 182) (by decide) ?_ ?_
                      · refine aw_aload_n hC dX5_readCommand_182 rfl ?_
                        refine aw_aload_n hC dX5_readCommand_183 rfl ?_
                        refine aw_lload hC dX5_readCommand_184 rfl ?_
                        refine aw_iload hC dX5_readCommand_186 rfl ?_
                        refine aw_bind rfl (fun q50 hq50 => ?_)
                        refine aw_cVv hC dX5_readCommand_188 cv_RX5_101 rfl rm_3_0_0 (am_some (inj := (fun r => (.inr (none), r))) hq50 (A_X5_add _ (hC.2.2.2.2.2.2.2.2.2.2.2.2.1) _ _ _ k3 g4 (0 : Int64) (0 : Int32) q49.2)) rfl rfl rfl rfl rfl ⟨rfl, rfl⟩ ?_
                        refine aw_iconst hC dX5_readCommand_191 (v := 1) (by decide) ?_
                        exact aw_zret hC dX5_readCommand_192 rfl (show _ = b2i true from rfl) rfl
                      · refine aw_iconst hC dX5_readCommand_180 (v := 0) (by decide) ?_
                        exact aw_zret hC dX5_readCommand_181 rfl (show _ = b2i false from rfl) rfl
                    · refine aw_aload_n hC dX5_readCommand_152 rfl ?_
                      refine aw_cVi hC dX5_readCommand_153 cv_RX5_97 rfl rm_4_0_0 (A_X6_number _ (hC.2.2.2.2.2.2.2.2.2.2.2.2.1) _ _ _ q48.2) rfl rfl rfl rfl rfl ⟨rfl, rfl⟩ ?_
                      refine aw_goto hC dX5_readCommand_156 (tgt := 160) (by decide) ?_
                      refine aw_istore hC dX5_readCommand_160 (by decide) ?_
                      refine aw_aload_n hC dX5_readCommand_162 rfl ?_
                      refine aw_iload_n hC dX5_readCommand_163 rfl ?_
                      refine aw_if_eq_f hC dX5_readCommand_164 (tgt := 172) (by decide) (by decide) ?_
                      refine aw_bipush hC dX5_readCommand_167 (v := 40) (by decide) ?_
                      refine aw_goto hC dX5_readCommand_169 (tgt := 174) (by decide) ?_
                      refine aw_bind rfl (fun q51 hq51 => ?_)
                      refine aw_cVb hC dX5_readCommand_174 cv_RX5_58 rfl rm_4_0_0 (am_some (inj := (fun r => (.inr (some (.int (b2i r.1))), r.2))) hq51 (A_X6_readMark _ (hC.2.2.2.2.2.2.2.2.2.2.2.2.1) _ _ _ (40 : Int32) q48.2)) rfl rfl rfl rfl rfl ⟨rfl, rfl⟩ ?_
                      refine aw_if_ne_b hC dX5_readCommand_177 (tgt := 182) (by decide) ?_ ?_
                      · refine aw_aload_n hC dX5_readCommand_182 rfl ?_
                        refine aw_aload_n hC dX5_readCommand_183 rfl ?_
                        refine aw_lload hC dX5_readCommand_184 rfl ?_
                        refine aw_iload hC dX5_readCommand_186 rfl ?_
                        refine aw_bind rfl (fun q52 hq52 => ?_)
                        refine aw_cVv hC dX5_readCommand_188 cv_RX5_101 rfl rm_3_0_0 (am_some (inj := (fun r => (.inr (none), r))) hq52 (A_X5_add _ (hC.2.2.2.2.2.2.2.2.2.2.2.2.1) _ _ _ k3 g4 (0 : Int64) (jX6_number q48.2) q51.2)) rfl rfl rfl rfl rfl ⟨rfl, rfl⟩ ?_
                        refine aw_iconst hC dX5_readCommand_191 (v := 1) (by decide) ?_
                        exact aw_zret hC dX5_readCommand_192 rfl (show _ = b2i true from rfl) rfl
                      · refine aw_iconst hC dX5_readCommand_180 (v := 0) (by decide) ?_
                        exact aw_zret hC dX5_readCommand_181 rfl (show _ = b2i false from rfl) rfl
                  · refine aw_iconst hC dX5_readCommand_143 (v := 0) (by decide) ?_
                    exact aw_zret hC dX5_readCommand_144 rfl (show _ = b2i false from rfl) rfl
              · refine aw_aload_n hC dX5_readCommand_98 rfl ?_
                refine aw_cVj hC dX5_readCommand_99 cv_RX5_71 rfl rm_4_0_0 (A_X6_word _ (hC.2.2.2.2.2.2.2.2.2.2.2.2.1) _ _ _ h) rfl rfl rfl rfl rfl ⟨rfl, rfl⟩ ?_
                refine aw_goto hC dX5_readCommand_102 (tgt := 106) (by decide) ?_
                refine aw_lstore hC dX5_readCommand_106 (by decide) ?_
                refine aw_aload_n hC dX5_readCommand_108 rfl ?_
                refine aw_gfN (host := "ParkingCircle") hC dX5_readCommand_109 (st_cmV (cx_st hC) g4) (by decide +kernel) ?_
                refine aw_if_eq hC dX5_readCommand_112 (tgt := 145) (by decide) ?_ ?_
                · refine aw_aload_n hC dX5_readCommand_145 rfl ?_
                  refine aw_gfN (host := "ParkingCircle") hC dX5_readCommand_146 (st_cmV (cx_st hC) g4) (by decide +kernel) ?_
                  refine aw_if_eq hC dX5_readCommand_149 (tgt := 159) (by decide) ?_ ?_
                  · refine aw_iconst hC dX5_readCommand_159 (v := 0) (by decide) ?_
                    refine aw_istore hC dX5_readCommand_160 (by decide) ?_
                    refine aw_aload_n hC dX5_readCommand_162 rfl ?_
                    refine aw_iload_n hC dX5_readCommand_163 rfl ?_
                    refine aw_if_eq_f hC dX5_readCommand_164 (tgt := 172) (by decide) (by decide) ?_
                    refine aw_bipush hC dX5_readCommand_167 (v := 40) (by decide) ?_
                    refine aw_goto hC dX5_readCommand_169 (tgt := 174) (by decide) ?_
                    refine aw_bind rfl (fun q53 hq53 => ?_)
                    refine aw_cVb hC dX5_readCommand_174 cv_RX5_58 rfl rm_4_0_0 (am_some (inj := (fun r => (.inr (some (.int (b2i r.1))), r.2))) hq53 (A_X6_readMark _ (hC.2.2.2.2.2.2.2.2.2.2.2.2.1) _ _ _ (40 : Int32) h)) rfl rfl rfl rfl rfl ⟨rfl, rfl⟩ ?_
                    refine aw_if_ne_b hC dX5_readCommand_177 (tgt := 182) (by decide) ?_ ?_
                    · refine aw_aload_n hC dX5_readCommand_182 rfl ?_
                      refine aw_aload_n hC dX5_readCommand_183 rfl ?_
                      refine aw_lload hC dX5_readCommand_184 rfl ?_
                      refine aw_iload hC dX5_readCommand_186 rfl ?_
                      refine aw_bind rfl (fun q54 hq54 => ?_)
                      refine aw_cVv hC dX5_readCommand_188 cv_RX5_101 rfl rm_3_0_0 (am_some (inj := (fun r => (.inr (none), r))) hq54 (A_X5_add _ (hC.2.2.2.2.2.2.2.2.2.2.2.2.1) _ _ _ k3 g4 (jX6_word h) (0 : Int32) q53.2)) rfl rfl rfl rfl rfl ⟨rfl, rfl⟩ ?_
                      refine aw_iconst hC dX5_readCommand_191 (v := 1) (by decide) ?_
                      exact aw_zret hC dX5_readCommand_192 rfl (show _ = b2i true from rfl) rfl
                    · refine aw_iconst hC dX5_readCommand_180 (v := 0) (by decide) ?_
                      exact aw_zret hC dX5_readCommand_181 rfl (show _ = b2i false from rfl) rfl
                  · refine aw_aload_n hC dX5_readCommand_152 rfl ?_
                    refine aw_cVi hC dX5_readCommand_153 cv_RX5_97 rfl rm_4_0_0 (A_X6_number _ (hC.2.2.2.2.2.2.2.2.2.2.2.2.1) _ _ _ h) rfl rfl rfl rfl rfl ⟨rfl, rfl⟩ ?_
                    refine aw_goto hC dX5_readCommand_156 (tgt := 160) (by decide) ?_
                    refine aw_istore hC dX5_readCommand_160 (by decide) ?_
                    refine aw_aload_n hC dX5_readCommand_162 rfl ?_
                    refine aw_iload_n hC dX5_readCommand_163 rfl ?_
                    refine aw_if_eq_f hC dX5_readCommand_164 (tgt := 172) (by decide) (by decide) ?_
                    refine aw_bipush hC dX5_readCommand_167 (v := 40) (by decide) ?_
                    refine aw_goto hC dX5_readCommand_169 (tgt := 174) (by decide) ?_
                    refine aw_bind rfl (fun q55 hq55 => ?_)
                    refine aw_cVb hC dX5_readCommand_174 cv_RX5_58 rfl rm_4_0_0 (am_some (inj := (fun r => (.inr (some (.int (b2i r.1))), r.2))) hq55 (A_X6_readMark _ (hC.2.2.2.2.2.2.2.2.2.2.2.2.1) _ _ _ (40 : Int32) h)) rfl rfl rfl rfl rfl ⟨rfl, rfl⟩ ?_
                    refine aw_if_ne_b hC dX5_readCommand_177 (tgt := 182) (by decide) ?_ ?_
                    · refine aw_aload_n hC dX5_readCommand_182 rfl ?_
                      refine aw_aload_n hC dX5_readCommand_183 rfl ?_
                      refine aw_lload hC dX5_readCommand_184 rfl ?_
                      refine aw_iload hC dX5_readCommand_186 rfl ?_
                      refine aw_bind rfl (fun q56 hq56 => ?_)
                      refine aw_cVv hC dX5_readCommand_188 cv_RX5_101 rfl rm_3_0_0 (am_some (inj := (fun r => (.inr (none), r))) hq56 (A_X5_add _ (hC.2.2.2.2.2.2.2.2.2.2.2.2.1) _ _ _ k3 g4 (jX6_word h) (jX6_number h) q55.2)) rfl rfl rfl rfl rfl ⟨rfl, rfl⟩ ?_
                      refine aw_iconst hC dX5_readCommand_191 (v := 1) (by decide) ?_
                      exact aw_zret hC dX5_readCommand_192 rfl (show _ = b2i true from rfl) rfl
                    · refine aw_iconst hC dX5_readCommand_180 (v := 0) (by decide) ?_
                      exact aw_zret hC dX5_readCommand_181 rfl (show _ = b2i false from rfl) rfl
                · refine aw_aload_n hC dX5_readCommand_115 rfl ?_
                  refine aw_iload_n hC dX5_readCommand_116 rfl ?_
                  refine aw_if_eq_f hC dX5_readCommand_117 (tgt := 124) (by decide) (by decide) ?_
                  refine aw_iconst hC dX5_readCommand_120 (v := 1) (by decide) ?_
                  refine aw_goto hC dX5_readCommand_121 (tgt := 125) (by decide) ?_
                  refine aw_iload_n hC dX5_readCommand_125 rfl ?_
                  refine aw_if_eq_f hC dX5_readCommand_126 (tgt := 134) (by decide) (by decide) ?_
                  refine aw_bipush hC dX5_readCommand_129 (v := 20) (by decide) ?_
                  refine aw_goto hC dX5_readCommand_131 (tgt := 137) (by decide) ?_
                  refine aw_bind rfl (fun q57 hq57 => ?_)
                  refine aw_cVb hC dX5_readCommand_137 cv_RX5_93 rfl rm_4_0_0 (am_some (inj := (fun r => (.inr (some (.int (b2i r.1))), r.2))) hq57 (A_X6_readNumber _ (hC.2.2.2.2.2.2.2.2.2.2.2.2.1) _ _ _ (1 : Int32) (20 : Int32) h)) rfl rfl rfl rfl rfl ⟨rfl, rfl⟩ ?_
                  refine aw_if_ne_b hC dX5_readCommand_140 (tgt := 145) (by decide) ?_ ?_
                  · refine aw_aload_n hC dX5_readCommand_145 rfl ?_
                    refine aw_gfN (host := "ParkingCircle") hC dX5_readCommand_146 (st_cmV (cx_st hC) g4) (by decide +kernel) ?_
                    refine aw_if_eq hC dX5_readCommand_149 (tgt := 159) (by decide) ?_ ?_
                    · refine aw_iconst hC dX5_readCommand_159 (v := 0) (by decide) ?_
                      refine aw_istore hC dX5_readCommand_160 (by decide) ?_
                      refine aw_aload_n hC dX5_readCommand_162 rfl ?_
                      refine aw_iload_n hC dX5_readCommand_163 rfl ?_
                      refine aw_if_eq_f hC dX5_readCommand_164 (tgt := 172) (by decide) (by decide) ?_
                      refine aw_bipush hC dX5_readCommand_167 (v := 40) (by decide) ?_
                      refine aw_goto hC dX5_readCommand_169 (tgt := 174) (by decide) ?_
                      refine aw_bind rfl (fun q58 hq58 => ?_)
                      refine aw_cVb hC dX5_readCommand_174 cv_RX5_58 rfl rm_4_0_0 (am_some (inj := (fun r => (.inr (some (.int (b2i r.1))), r.2))) hq58 (A_X6_readMark _ (hC.2.2.2.2.2.2.2.2.2.2.2.2.1) _ _ _ (40 : Int32) q57.2)) rfl rfl rfl rfl rfl ⟨rfl, rfl⟩ ?_
                      refine aw_if_ne_b hC dX5_readCommand_177 (tgt := 182) (by decide) ?_ ?_
                      · refine aw_aload_n hC dX5_readCommand_182 rfl ?_
                        refine aw_aload_n hC dX5_readCommand_183 rfl ?_
                        refine aw_lload hC dX5_readCommand_184 rfl ?_
                        refine aw_iload hC dX5_readCommand_186 rfl ?_
                        refine aw_bind rfl (fun q59 hq59 => ?_)
                        refine aw_cVv hC dX5_readCommand_188 cv_RX5_101 rfl rm_3_0_0 (am_some (inj := (fun r => (.inr (none), r))) hq59 (A_X5_add _ (hC.2.2.2.2.2.2.2.2.2.2.2.2.1) _ _ _ k3 g4 (jX6_word h) (0 : Int32) q58.2)) rfl rfl rfl rfl rfl ⟨rfl, rfl⟩ ?_
                        refine aw_iconst hC dX5_readCommand_191 (v := 1) (by decide) ?_
                        exact aw_zret hC dX5_readCommand_192 rfl (show _ = b2i true from rfl) rfl
                      · refine aw_iconst hC dX5_readCommand_180 (v := 0) (by decide) ?_
                        exact aw_zret hC dX5_readCommand_181 rfl (show _ = b2i false from rfl) rfl
                    · refine aw_aload_n hC dX5_readCommand_152 rfl ?_
                      refine aw_cVi hC dX5_readCommand_153 cv_RX5_97 rfl rm_4_0_0 (A_X6_number _ (hC.2.2.2.2.2.2.2.2.2.2.2.2.1) _ _ _ q57.2) rfl rfl rfl rfl rfl ⟨rfl, rfl⟩ ?_
                      refine aw_goto hC dX5_readCommand_156 (tgt := 160) (by decide) ?_
                      refine aw_istore hC dX5_readCommand_160 (by decide) ?_
                      refine aw_aload_n hC dX5_readCommand_162 rfl ?_
                      refine aw_iload_n hC dX5_readCommand_163 rfl ?_
                      refine aw_if_eq_f hC dX5_readCommand_164 (tgt := 172) (by decide) (by decide) ?_
                      refine aw_bipush hC dX5_readCommand_167 (v := 40) (by decide) ?_
                      refine aw_goto hC dX5_readCommand_169 (tgt := 174) (by decide) ?_
                      refine aw_bind rfl (fun q60 hq60 => ?_)
                      refine aw_cVb hC dX5_readCommand_174 cv_RX5_58 rfl rm_4_0_0 (am_some (inj := (fun r => (.inr (some (.int (b2i r.1))), r.2))) hq60 (A_X6_readMark _ (hC.2.2.2.2.2.2.2.2.2.2.2.2.1) _ _ _ (40 : Int32) q57.2)) rfl rfl rfl rfl rfl ⟨rfl, rfl⟩ ?_
                      refine aw_if_ne_b hC dX5_readCommand_177 (tgt := 182) (by decide) ?_ ?_
                      · refine aw_aload_n hC dX5_readCommand_182 rfl ?_
                        refine aw_aload_n hC dX5_readCommand_183 rfl ?_
                        refine aw_lload hC dX5_readCommand_184 rfl ?_
                        refine aw_iload hC dX5_readCommand_186 rfl ?_
                        refine aw_bind rfl (fun q61 hq61 => ?_)
                        refine aw_cVv hC dX5_readCommand_188 cv_RX5_101 rfl rm_3_0_0 (am_some (inj := (fun r => (.inr (none), r))) hq61 (A_X5_add _ (hC.2.2.2.2.2.2.2.2.2.2.2.2.1) _ _ _ k3 g4 (jX6_word h) (jX6_number q57.2) q60.2)) rfl rfl rfl rfl rfl ⟨rfl, rfl⟩ ?_
                        refine aw_iconst hC dX5_readCommand_191 (v := 1) (by decide) ?_
                        exact aw_zret hC dX5_readCommand_192 rfl (show _ = b2i true from rfl) rfl
                      · refine aw_iconst hC dX5_readCommand_180 (v := 0) (by decide) ?_
                        exact aw_zret hC dX5_readCommand_181 rfl (show _ = b2i false from rfl) rfl
                  · refine aw_iconst hC dX5_readCommand_143 (v := 0) (by decide) ?_
                    exact aw_zret hC dX5_readCommand_144 rfl (show _ = b2i false from rfl) rfl
            · refine aw_aload_n hC dX5_readCommand_82 rfl ?_
              refine aw_bind rfl (fun q62 hq62 => ?_)
              refine aw_cVb hC dX5_readCommand_83 cv_RX5_87 rfl rm_4_0_0 (am_some (inj := (fun r => (.inr (some (.int (b2i r.1))), r.2))) hq62 (A_X6_readName _ (hC.2.2.2.2.2.2.2.2.2.2.2.2.1) _ _ _ h)) rfl rfl rfl rfl rfl ⟨rfl, rfl⟩ ?_
              refine aw_if_ne_b hC dX5_readCommand_86 (tgt := 91) (by decide) ?_ ?_
              · refine aw_aload_n hC dX5_readCommand_91 rfl ?_
                refine aw_gfN (host := "ParkingCircle") hC dX5_readCommand_92 (st_cmN (cx_st hC) g4) (by decide +kernel) ?_
                refine aw_if_eq hC dX5_readCommand_95 (tgt := 105) (by decide) ?_ ?_
                · refine aw_lconst hC dX5_readCommand_105 (v := 0) (by decide) ?_
                  refine aw_lstore hC dX5_readCommand_106 (by decide) ?_
                  refine aw_aload_n hC dX5_readCommand_108 rfl ?_
                  refine aw_gfN (host := "ParkingCircle") hC dX5_readCommand_109 (st_cmV (cx_st hC) g4) (by decide +kernel) ?_
                  refine aw_if_eq hC dX5_readCommand_112 (tgt := 145) (by decide) ?_ ?_
                  · refine aw_aload_n hC dX5_readCommand_145 rfl ?_
                    refine aw_gfN (host := "ParkingCircle") hC dX5_readCommand_146 (st_cmV (cx_st hC) g4) (by decide +kernel) ?_
                    refine aw_if_eq hC dX5_readCommand_149 (tgt := 159) (by decide) ?_ ?_
                    · refine aw_iconst hC dX5_readCommand_159 (v := 0) (by decide) ?_
                      refine aw_istore hC dX5_readCommand_160 (by decide) ?_
                      refine aw_aload_n hC dX5_readCommand_162 rfl ?_
                      refine aw_iload_n hC dX5_readCommand_163 rfl ?_
                      refine aw_if_eq_f hC dX5_readCommand_164 (tgt := 172) (by decide) (by decide) ?_
                      refine aw_bipush hC dX5_readCommand_167 (v := 40) (by decide) ?_
                      refine aw_goto hC dX5_readCommand_169 (tgt := 174) (by decide) ?_
                      refine aw_bind rfl (fun q63 hq63 => ?_)
                      refine aw_cVb hC dX5_readCommand_174 cv_RX5_58 rfl rm_4_0_0 (am_some (inj := (fun r => (.inr (some (.int (b2i r.1))), r.2))) hq63 (A_X6_readMark _ (hC.2.2.2.2.2.2.2.2.2.2.2.2.1) _ _ _ (40 : Int32) q62.2)) rfl rfl rfl rfl rfl ⟨rfl, rfl⟩ ?_
                      refine aw_if_ne_b hC dX5_readCommand_177 (tgt := 182) (by decide) ?_ ?_
                      · refine aw_aload_n hC dX5_readCommand_182 rfl ?_
                        refine aw_aload_n hC dX5_readCommand_183 rfl ?_
                        refine aw_lload hC dX5_readCommand_184 rfl ?_
                        refine aw_iload hC dX5_readCommand_186 rfl ?_
                        refine aw_bind rfl (fun q64 hq64 => ?_)
                        refine aw_cVv hC dX5_readCommand_188 cv_RX5_101 rfl rm_3_0_0 (am_some (inj := (fun r => (.inr (none), r))) hq64 (A_X5_add _ (hC.2.2.2.2.2.2.2.2.2.2.2.2.1) _ _ _ k3 g4 (0 : Int64) (0 : Int32) q63.2)) rfl rfl rfl rfl rfl ⟨rfl, rfl⟩ ?_
                        refine aw_iconst hC dX5_readCommand_191 (v := 1) (by decide) ?_
                        exact aw_zret hC dX5_readCommand_192 rfl (show _ = b2i true from rfl) rfl
                      · refine aw_iconst hC dX5_readCommand_180 (v := 0) (by decide) ?_
                        exact aw_zret hC dX5_readCommand_181 rfl (show _ = b2i false from rfl) rfl
                    · refine aw_aload_n hC dX5_readCommand_152 rfl ?_
                      refine aw_cVi hC dX5_readCommand_153 cv_RX5_97 rfl rm_4_0_0 (A_X6_number _ (hC.2.2.2.2.2.2.2.2.2.2.2.2.1) _ _ _ q62.2) rfl rfl rfl rfl rfl ⟨rfl, rfl⟩ ?_
                      refine aw_goto hC dX5_readCommand_156 (tgt := 160) (by decide) ?_
                      refine aw_istore hC dX5_readCommand_160 (by decide) ?_
                      refine aw_aload_n hC dX5_readCommand_162 rfl ?_
                      refine aw_iload_n hC dX5_readCommand_163 rfl ?_
                      refine aw_if_eq_f hC dX5_readCommand_164 (tgt := 172) (by decide) (by decide) ?_
                      refine aw_bipush hC dX5_readCommand_167 (v := 40) (by decide) ?_
                      refine aw_goto hC dX5_readCommand_169 (tgt := 174) (by decide) ?_
                      refine aw_bind rfl (fun q65 hq65 => ?_)
                      refine aw_cVb hC dX5_readCommand_174 cv_RX5_58 rfl rm_4_0_0 (am_some (inj := (fun r => (.inr (some (.int (b2i r.1))), r.2))) hq65 (A_X6_readMark _ (hC.2.2.2.2.2.2.2.2.2.2.2.2.1) _ _ _ (40 : Int32) q62.2)) rfl rfl rfl rfl rfl ⟨rfl, rfl⟩ ?_
                      refine aw_if_ne_b hC dX5_readCommand_177 (tgt := 182) (by decide) ?_ ?_
                      · refine aw_aload_n hC dX5_readCommand_182 rfl ?_
                        refine aw_aload_n hC dX5_readCommand_183 rfl ?_
                        refine aw_lload hC dX5_readCommand_184 rfl ?_
                        refine aw_iload hC dX5_readCommand_186 rfl ?_
                        refine aw_bind rfl (fun q66 hq66 => ?_)
                        refine aw_cVv hC dX5_readCommand_188 cv_RX5_101 rfl rm_3_0_0 (am_some (inj := (fun r => (.inr (none), r))) hq66 (A_X5_add _ (hC.2.2.2.2.2.2.2.2.2.2.2.2.1) _ _ _ k3 g4 (0 : Int64) (jX6_number q62.2) q65.2)) rfl rfl rfl rfl rfl ⟨rfl, rfl⟩ ?_
                        refine aw_iconst hC dX5_readCommand_191 (v := 1) (by decide) ?_
                        exact aw_zret hC dX5_readCommand_192 rfl (show _ = b2i true from rfl) rfl
                      · refine aw_iconst hC dX5_readCommand_180 (v := 0) (by decide) ?_
                        exact aw_zret hC dX5_readCommand_181 rfl (show _ = b2i false from rfl) rfl
                  · refine aw_aload_n hC dX5_readCommand_115 rfl ?_
                    refine aw_iload_n hC dX5_readCommand_116 rfl ?_
                    refine aw_if_eq_f hC dX5_readCommand_117 (tgt := 124) (by decide) (by decide) ?_
                    refine aw_iconst hC dX5_readCommand_120 (v := 1) (by decide) ?_
                    refine aw_goto hC dX5_readCommand_121 (tgt := 125) (by decide) ?_
                    refine aw_iload_n hC dX5_readCommand_125 rfl ?_
                    refine aw_if_eq_f hC dX5_readCommand_126 (tgt := 134) (by decide) (by decide) ?_
                    refine aw_bipush hC dX5_readCommand_129 (v := 20) (by decide) ?_
                    refine aw_goto hC dX5_readCommand_131 (tgt := 137) (by decide) ?_
                    refine aw_bind rfl (fun q67 hq67 => ?_)
                    refine aw_cVb hC dX5_readCommand_137 cv_RX5_93 rfl rm_4_0_0 (am_some (inj := (fun r => (.inr (some (.int (b2i r.1))), r.2))) hq67 (A_X6_readNumber _ (hC.2.2.2.2.2.2.2.2.2.2.2.2.1) _ _ _ (1 : Int32) (20 : Int32) q62.2)) rfl rfl rfl rfl rfl ⟨rfl, rfl⟩ ?_
                    refine aw_if_ne_b hC dX5_readCommand_140 (tgt := 145) (by decide) ?_ ?_
                    · refine aw_aload_n hC dX5_readCommand_145 rfl ?_
                      refine aw_gfN (host := "ParkingCircle") hC dX5_readCommand_146 (st_cmV (cx_st hC) g4) (by decide +kernel) ?_
                      refine aw_if_eq hC dX5_readCommand_149 (tgt := 159) (by decide) ?_ ?_
                      · refine aw_iconst hC dX5_readCommand_159 (v := 0) (by decide) ?_
                        refine aw_istore hC dX5_readCommand_160 (by decide) ?_
                        refine aw_aload_n hC dX5_readCommand_162 rfl ?_
                        refine aw_iload_n hC dX5_readCommand_163 rfl ?_
                        refine aw_if_eq_f hC dX5_readCommand_164 (tgt := 172) (by decide) (by decide) ?_
                        refine aw_bipush hC dX5_readCommand_167 (v := 40) (by decide) ?_
                        refine aw_goto hC dX5_readCommand_169 (tgt := 174) (by decide) ?_
                        refine aw_bind rfl (fun q68 hq68 => ?_)
                        refine aw_cVb hC dX5_readCommand_174 cv_RX5_58 rfl rm_4_0_0 (am_some (inj := (fun r => (.inr (some (.int (b2i r.1))), r.2))) hq68 (A_X6_readMark _ (hC.2.2.2.2.2.2.2.2.2.2.2.2.1) _ _ _ (40 : Int32) q67.2)) rfl rfl rfl rfl rfl ⟨rfl, rfl⟩ ?_
                        refine aw_if_ne_b hC dX5_readCommand_177 (tgt := 182) (by decide) ?_ ?_
                        · refine aw_aload_n hC dX5_readCommand_182 rfl ?_
                          refine aw_aload_n hC dX5_readCommand_183 rfl ?_
                          refine aw_lload hC dX5_readCommand_184 rfl ?_
                          refine aw_iload hC dX5_readCommand_186 rfl ?_
                          refine aw_bind rfl (fun q69 hq69 => ?_)
                          refine aw_cVv hC dX5_readCommand_188 cv_RX5_101 rfl rm_3_0_0 (am_some (inj := (fun r => (.inr (none), r))) hq69 (A_X5_add _ (hC.2.2.2.2.2.2.2.2.2.2.2.2.1) _ _ _ k3 g4 (0 : Int64) (0 : Int32) q68.2)) rfl rfl rfl rfl rfl ⟨rfl, rfl⟩ ?_
                          refine aw_iconst hC dX5_readCommand_191 (v := 1) (by decide) ?_
                          exact aw_zret hC dX5_readCommand_192 rfl (show _ = b2i true from rfl) rfl
                        · refine aw_iconst hC dX5_readCommand_180 (v := 0) (by decide) ?_
                          exact aw_zret hC dX5_readCommand_181 rfl (show _ = b2i false from rfl) rfl
                      · refine aw_aload_n hC dX5_readCommand_152 rfl ?_
                        refine aw_cVi hC dX5_readCommand_153 cv_RX5_97 rfl rm_4_0_0 (A_X6_number _ (hC.2.2.2.2.2.2.2.2.2.2.2.2.1) _ _ _ q67.2) rfl rfl rfl rfl rfl ⟨rfl, rfl⟩ ?_
                        refine aw_goto hC dX5_readCommand_156 (tgt := 160) (by decide) ?_
                        refine aw_istore hC dX5_readCommand_160 (by decide) ?_
                        refine aw_aload_n hC dX5_readCommand_162 rfl ?_
                        refine aw_iload_n hC dX5_readCommand_163 rfl ?_
                        refine aw_if_eq_f hC dX5_readCommand_164 (tgt := 172) (by decide) (by decide) ?_
                        refine aw_bipush hC dX5_readCommand_167 (v := 40) (by decide) ?_
                        refine aw_goto hC dX5_readCommand_169 (tgt := 174) (by decide) ?_
                        refine aw_bind rfl (fun q70 hq70 => ?_)
                        refine aw_cVb hC dX5_readCommand_174 cv_RX5_58 rfl rm_4_0_0 (am_some (inj := (fun r => (.inr (some (.int (b2i r.1))), r.2))) hq70 (A_X6_readMark _ (hC.2.2.2.2.2.2.2.2.2.2.2.2.1) _ _ _ (40 : Int32) q67.2)) rfl rfl rfl rfl rfl ⟨rfl, rfl⟩ ?_
                        refine aw_if_ne_b hC dX5_readCommand_177 (tgt := 182) (by decide) ?_ ?_
                        · refine aw_aload_n hC dX5_readCommand_182 rfl ?_
                          refine aw_aload_n hC dX5_readCommand_183 rfl ?_
                          refine aw_lload hC dX5_readCommand_184 rfl ?_
                          refine aw_iload hC dX5_readCommand_186 rfl ?_
                          refine aw_bind rfl (fun q71 hq71 => ?_)
                          refine aw_cVv hC dX5_readCommand_188 cv_RX5_101 rfl rm_3_0_0 (am_some (inj := (fun r => (.inr (none), r))) hq71 (A_X5_add _ (hC.2.2.2.2.2.2.2.2.2.2.2.2.1) _ _ _ k3 g4 (0 : Int64) (jX6_number q67.2) q70.2)) rfl rfl rfl rfl rfl ⟨rfl, rfl⟩ ?_
                          refine aw_iconst hC dX5_readCommand_191 (v := 1) (by decide) ?_
                          exact aw_zret hC dX5_readCommand_192 rfl (show _ = b2i true from rfl) rfl
                        · refine aw_iconst hC dX5_readCommand_180 (v := 0) (by decide) ?_
                          exact aw_zret hC dX5_readCommand_181 rfl (show _ = b2i false from rfl) rfl
                    · refine aw_iconst hC dX5_readCommand_143 (v := 0) (by decide) ?_
                      exact aw_zret hC dX5_readCommand_144 rfl (show _ = b2i false from rfl) rfl
                · refine aw_aload_n hC dX5_readCommand_98 rfl ?_
                  refine aw_cVj hC dX5_readCommand_99 cv_RX5_71 rfl rm_4_0_0 (A_X6_word _ (hC.2.2.2.2.2.2.2.2.2.2.2.2.1) _ _ _ q62.2) rfl rfl rfl rfl rfl ⟨rfl, rfl⟩ ?_
                  refine aw_goto hC dX5_readCommand_102 (tgt := 106) (by decide) ?_
                  refine aw_lstore hC dX5_readCommand_106 (by decide) ?_
                  refine aw_aload_n hC dX5_readCommand_108 rfl ?_
                  refine aw_gfN (host := "ParkingCircle") hC dX5_readCommand_109 (st_cmV (cx_st hC) g4) (by decide +kernel) ?_
                  refine aw_if_eq hC dX5_readCommand_112 (tgt := 145) (by decide) ?_ ?_
                  · refine aw_aload_n hC dX5_readCommand_145 rfl ?_
                    refine aw_gfN (host := "ParkingCircle") hC dX5_readCommand_146 (st_cmV (cx_st hC) g4) (by decide +kernel) ?_
                    refine aw_if_eq hC dX5_readCommand_149 (tgt := 159) (by decide) ?_ ?_
                    · refine aw_iconst hC dX5_readCommand_159 (v := 0) (by decide) ?_
                      refine aw_istore hC dX5_readCommand_160 (by decide) ?_
                      refine aw_aload_n hC dX5_readCommand_162 rfl ?_
                      refine aw_iload_n hC dX5_readCommand_163 rfl ?_
                      refine aw_if_eq_f hC dX5_readCommand_164 (tgt := 172) (by decide) (by decide) ?_
                      refine aw_bipush hC dX5_readCommand_167 (v := 40) (by decide) ?_
                      refine aw_goto hC dX5_readCommand_169 (tgt := 174) (by decide) ?_
                      refine aw_bind rfl (fun q72 hq72 => ?_)
                      refine aw_cVb hC dX5_readCommand_174 cv_RX5_58 rfl rm_4_0_0 (am_some (inj := (fun r => (.inr (some (.int (b2i r.1))), r.2))) hq72 (A_X6_readMark _ (hC.2.2.2.2.2.2.2.2.2.2.2.2.1) _ _ _ (40 : Int32) q62.2)) rfl rfl rfl rfl rfl ⟨rfl, rfl⟩ ?_
                      refine aw_if_ne_b hC dX5_readCommand_177 (tgt := 182) (by decide) ?_ ?_
                      · refine aw_aload_n hC dX5_readCommand_182 rfl ?_
                        refine aw_aload_n hC dX5_readCommand_183 rfl ?_
                        refine aw_lload hC dX5_readCommand_184 rfl ?_
                        refine aw_iload hC dX5_readCommand_186 rfl ?_
                        refine aw_bind rfl (fun q73 hq73 => ?_)
                        refine aw_cVv hC dX5_readCommand_188 cv_RX5_101 rfl rm_3_0_0 (am_some (inj := (fun r => (.inr (none), r))) hq73 (A_X5_add _ (hC.2.2.2.2.2.2.2.2.2.2.2.2.1) _ _ _ k3 g4 (jX6_word q62.2) (0 : Int32) q72.2)) rfl rfl rfl rfl rfl ⟨rfl, rfl⟩ ?_
                        refine aw_iconst hC dX5_readCommand_191 (v := 1) (by decide) ?_
                        exact aw_zret hC dX5_readCommand_192 rfl (show _ = b2i true from rfl) rfl
                      · refine aw_iconst hC dX5_readCommand_180 (v := 0) (by decide) ?_
                        exact aw_zret hC dX5_readCommand_181 rfl (show _ = b2i false from rfl) rfl
                    · refine aw_aload_n hC dX5_readCommand_152 rfl ?_
                      refine aw_cVi hC dX5_readCommand_153 cv_RX5_97 rfl rm_4_0_0 (A_X6_number _ (hC.2.2.2.2.2.2.2.2.2.2.2.2.1) _ _ _ q62.2) rfl rfl rfl rfl rfl ⟨rfl, rfl⟩ ?_
                      refine aw_goto hC dX5_readCommand_156 (tgt := 160) (by decide) ?_
                      refine aw_istore hC dX5_readCommand_160 (by decide) ?_
                      refine aw_aload_n hC dX5_readCommand_162 rfl ?_
                      refine aw_iload_n hC dX5_readCommand_163 rfl ?_
                      refine aw_if_eq_f hC dX5_readCommand_164 (tgt := 172) (by decide) (by decide) ?_
                      refine aw_bipush hC dX5_readCommand_167 (v := 40) (by decide) ?_
                      refine aw_goto hC dX5_readCommand_169 (tgt := 174) (by decide) ?_
                      refine aw_bind rfl (fun q74 hq74 => ?_)
                      refine aw_cVb hC dX5_readCommand_174 cv_RX5_58 rfl rm_4_0_0 (am_some (inj := (fun r => (.inr (some (.int (b2i r.1))), r.2))) hq74 (A_X6_readMark _ (hC.2.2.2.2.2.2.2.2.2.2.2.2.1) _ _ _ (40 : Int32) q62.2)) rfl rfl rfl rfl rfl ⟨rfl, rfl⟩ ?_
                      refine aw_if_ne_b hC dX5_readCommand_177 (tgt := 182) (by decide) ?_ ?_
                      · refine aw_aload_n hC dX5_readCommand_182 rfl ?_
                        refine aw_aload_n hC dX5_readCommand_183 rfl ?_
                        refine aw_lload hC dX5_readCommand_184 rfl ?_
                        refine aw_iload hC dX5_readCommand_186 rfl ?_
                        refine aw_bind rfl (fun q75 hq75 => ?_)
                        refine aw_cVv hC dX5_readCommand_188 cv_RX5_101 rfl rm_3_0_0 (am_some (inj := (fun r => (.inr (none), r))) hq75 (A_X5_add _ (hC.2.2.2.2.2.2.2.2.2.2.2.2.1) _ _ _ k3 g4 (jX6_word q62.2) (jX6_number q62.2) q74.2)) rfl rfl rfl rfl rfl ⟨rfl, rfl⟩ ?_
                        refine aw_iconst hC dX5_readCommand_191 (v := 1) (by decide) ?_
                        exact aw_zret hC dX5_readCommand_192 rfl (show _ = b2i true from rfl) rfl
                      · refine aw_iconst hC dX5_readCommand_180 (v := 0) (by decide) ?_
                        exact aw_zret hC dX5_readCommand_181 rfl (show _ = b2i false from rfl) rfl
                  · refine aw_aload_n hC dX5_readCommand_115 rfl ?_
                    refine aw_iload_n hC dX5_readCommand_116 rfl ?_
                    refine aw_if_eq_f hC dX5_readCommand_117 (tgt := 124) (by decide) (by decide) ?_
                    refine aw_iconst hC dX5_readCommand_120 (v := 1) (by decide) ?_
                    refine aw_goto hC dX5_readCommand_121 (tgt := 125) (by decide) ?_
                    refine aw_iload_n hC dX5_readCommand_125 rfl ?_
                    refine aw_if_eq_f hC dX5_readCommand_126 (tgt := 134) (by decide) (by decide) ?_
                    refine aw_bipush hC dX5_readCommand_129 (v := 20) (by decide) ?_
                    refine aw_goto hC dX5_readCommand_131 (tgt := 137) (by decide) ?_
                    refine aw_bind rfl (fun q76 hq76 => ?_)
                    refine aw_cVb hC dX5_readCommand_137 cv_RX5_93 rfl rm_4_0_0 (am_some (inj := (fun r => (.inr (some (.int (b2i r.1))), r.2))) hq76 (A_X6_readNumber _ (hC.2.2.2.2.2.2.2.2.2.2.2.2.1) _ _ _ (1 : Int32) (20 : Int32) q62.2)) rfl rfl rfl rfl rfl ⟨rfl, rfl⟩ ?_
                    refine aw_if_ne_b hC dX5_readCommand_140 (tgt := 145) (by decide) ?_ ?_
                    · refine aw_aload_n hC dX5_readCommand_145 rfl ?_
                      refine aw_gfN (host := "ParkingCircle") hC dX5_readCommand_146 (st_cmV (cx_st hC) g4) (by decide +kernel) ?_
                      refine aw_if_eq hC dX5_readCommand_149 (tgt := 159) (by decide) ?_ ?_
                      · refine aw_iconst hC dX5_readCommand_159 (v := 0) (by decide) ?_
                        refine aw_istore hC dX5_readCommand_160 (by decide) ?_
                        refine aw_aload_n hC dX5_readCommand_162 rfl ?_
                        refine aw_iload_n hC dX5_readCommand_163 rfl ?_
                        refine aw_if_eq_f hC dX5_readCommand_164 (tgt := 172) (by decide) (by decide) ?_
                        refine aw_bipush hC dX5_readCommand_167 (v := 40) (by decide) ?_
                        refine aw_goto hC dX5_readCommand_169 (tgt := 174) (by decide) ?_
                        refine aw_bind rfl (fun q77 hq77 => ?_)
                        refine aw_cVb hC dX5_readCommand_174 cv_RX5_58 rfl rm_4_0_0 (am_some (inj := (fun r => (.inr (some (.int (b2i r.1))), r.2))) hq77 (A_X6_readMark _ (hC.2.2.2.2.2.2.2.2.2.2.2.2.1) _ _ _ (40 : Int32) q76.2)) rfl rfl rfl rfl rfl ⟨rfl, rfl⟩ ?_
                        refine aw_if_ne_b hC dX5_readCommand_177 (tgt := 182) (by decide) ?_ ?_
                        · refine aw_aload_n hC dX5_readCommand_182 rfl ?_
                          refine aw_aload_n hC dX5_readCommand_183 rfl ?_
                          refine aw_lload hC dX5_readCommand_184 rfl ?_
                          refine aw_iload hC dX5_readCommand_186 rfl ?_
                          refine aw_bind rfl (fun q78 hq78 => ?_)
                          refine aw_cVv hC dX5_readCommand_188 cv_RX5_101 rfl rm_3_0_0 (am_some (inj := (fun r => (.inr (none), r))) hq78 (A_X5_add _ (hC.2.2.2.2.2.2.2.2.2.2.2.2.1) _ _ _ k3 g4 (jX6_word q62.2) (0 : Int32) q77.2)) rfl rfl rfl rfl rfl ⟨rfl, rfl⟩ ?_
                          refine aw_iconst hC dX5_readCommand_191 (v := 1) (by decide) ?_
                          exact aw_zret hC dX5_readCommand_192 rfl (show _ = b2i true from rfl) rfl
                        · refine aw_iconst hC dX5_readCommand_180 (v := 0) (by decide) ?_
                          exact aw_zret hC dX5_readCommand_181 rfl (show _ = b2i false from rfl) rfl
                      · refine aw_aload_n hC dX5_readCommand_152 rfl ?_
                        refine aw_cVi hC dX5_readCommand_153 cv_RX5_97 rfl rm_4_0_0 (A_X6_number _ (hC.2.2.2.2.2.2.2.2.2.2.2.2.1) _ _ _ q76.2) rfl rfl rfl rfl rfl ⟨rfl, rfl⟩ ?_
                        refine aw_goto hC dX5_readCommand_156 (tgt := 160) (by decide) ?_
                        refine aw_istore hC dX5_readCommand_160 (by decide) ?_
                        refine aw_aload_n hC dX5_readCommand_162 rfl ?_
                        refine aw_iload_n hC dX5_readCommand_163 rfl ?_
                        refine aw_if_eq_f hC dX5_readCommand_164 (tgt := 172) (by decide) (by decide) ?_
                        refine aw_bipush hC dX5_readCommand_167 (v := 40) (by decide) ?_
                        refine aw_goto hC dX5_readCommand_169 (tgt := 174) (by decide) ?_
                        refine aw_bind rfl (fun q79 hq79 => ?_)
                        refine aw_cVb hC dX5_readCommand_174 cv_RX5_58 rfl rm_4_0_0 (am_some (inj := (fun r => (.inr (some (.int (b2i r.1))), r.2))) hq79 (A_X6_readMark _ (hC.2.2.2.2.2.2.2.2.2.2.2.2.1) _ _ _ (40 : Int32) q76.2)) rfl rfl rfl rfl rfl ⟨rfl, rfl⟩ ?_
                        refine aw_if_ne_b hC dX5_readCommand_177 (tgt := 182) (by decide) ?_ ?_
                        · refine aw_aload_n hC dX5_readCommand_182 rfl ?_
                          refine aw_aload_n hC dX5_readCommand_183 rfl ?_
                          refine aw_lload hC dX5_readCommand_184 rfl ?_
                          refine aw_iload hC dX5_readCommand_186 rfl ?_
                          refine aw_bind rfl (fun q80 hq80 => ?_)
                          refine aw_cVv hC dX5_readCommand_188 cv_RX5_101 rfl rm_3_0_0 (am_some (inj := (fun r => (.inr (none), r))) hq80 (A_X5_add _ (hC.2.2.2.2.2.2.2.2.2.2.2.2.1) _ _ _ k3 g4 (jX6_word q62.2) (jX6_number q76.2) q79.2)) rfl rfl rfl rfl rfl ⟨rfl, rfl⟩ ?_
                          refine aw_iconst hC dX5_readCommand_191 (v := 1) (by decide) ?_
                          exact aw_zret hC dX5_readCommand_192 rfl (show _ = b2i true from rfl) rfl
                        · refine aw_iconst hC dX5_readCommand_180 (v := 0) (by decide) ?_
                          exact aw_zret hC dX5_readCommand_181 rfl (show _ = b2i false from rfl) rfl
                    · refine aw_iconst hC dX5_readCommand_143 (v := 0) (by decide) ?_
                      exact aw_zret hC dX5_readCommand_144 rfl (show _ = b2i false from rfl) rfl
              · refine aw_iconst hC dX5_readCommand_89 (v := 0) (by decide) ?_
                exact aw_zret hC dX5_readCommand_90 rfl (show _ = b2i false from rfl) rfl
          · refine aw_aload_n hC dX5_readCommand_69 rfl ?_
            refine aw_iconst hC dX5_readCommand_70 (v := 5) (by decide) ?_
            refine aw_bind rfl (fun q81 hq81 => ?_)
            refine aw_cVb hC dX5_readCommand_71 cv_RX5_65 rfl rm_4_0_0 (am_some (inj := (fun r => (.inr (some (.int (b2i r.1))), r.2))) hq81 (A_X6_fail _ (hC.2.2.2.2.2.2.2.2.2.2.2.2.1) _ _ _ (5 : Int32) h)) rfl rfl rfl rfl rfl ⟨rfl, rfl⟩ ?_
            exact aw_zret hC dX5_readCommand_74 rfl (show _ = b2i q81.1 from rfl) rfl
        · refine aw_aload_n hC dX5_readCommand_54 rfl ?_
          refine aw_iconst hC dX5_readCommand_55 (v := 3) (by decide) ?_
          refine aw_bind rfl (fun q82 hq82 => ?_)
          refine aw_cVb hC dX5_readCommand_56 cv_RX5_65 rfl rm_4_0_0 (am_some (inj := (fun r => (.inr (some (.int (b2i r.1))), r.2))) hq82 (A_X6_fail _ (hC.2.2.2.2.2.2.2.2.2.2.2.2.1) _ _ _ (3 : Int32) h)) rfl rfl rfl rfl rfl ⟨rfl, rfl⟩ ?_
          exact aw_zret hC dX5_readCommand_59 rfl (show _ = b2i q82.1 from rfl) rfl
end PRF
