section PRF
variable {p : Program} {l : Launch} {e : Env} {R : Room} {s : State} {m : MethodId} {args : Array Value} {below : List Frame} {meth : Method} {c : Code} {D : va_G} {loc : Rf → Nat} {cy : Nat → ClassId} {A : Nat → Prop}
set_option maxHeartbeats 4000000 in
set_option maxRecDepth 100000 in
theorem L_X9_readText_67 (x1 : Int32) (k95 : HD → Option (Int32 × HD)) (hC : Cx p l e R s m args meth c D loc cy A cX9_readText 3 (some .int) RX9 4 110 0 0) (hk95 : ∀  (h2 : HD), AW p l e R s m args below meth c D loc cy A 3 (QM below D loc cy A args s) (fun (r : Option (Int32 × HD)) => r.map (fun r => (.inr (some (.int r.1)), r.2))) (0, 0) 95 [(0, .ref (loc (7, 0, 0))), (1, .int x1)] [] h2 (k95  h2)) : ∀ (n67 : Nat)  (h : HD), AW p l e R s m args below meth c D loc cy A 3 (QM below D loc cy A args s) (fun (r : Option (Int32 × HD)) => r.map (fun r => (.inr (some (.int r.1)), r.2))) (0, 0) 67 [(0, .ref (loc (7, 0, 0))), (1, .int x1)] [] h (jX9_readText_L67 x1 k95 n67 h) := by
  intro n67
  induction n67 with
  | zero => intro h; exact aw_none rfl
  | succ n67 ih67 =>
    intro h
    rw [jX9_readText_L67]
    refine aw_aload_n hC dX9_readText_67 rfl ?_
    refine aw_cVb hC dX9_readText_68 cv_RX9_167 rfl rm_7_0_0 (A_X9_isGood _ (hC.2.2.2.2.2.2.2.2.2.2.2.2.1) _ _ _ h) rfl rfl rfl rfl rfl ⟨rfl, rfl⟩ ?_
    refine aw_if_eq_b hC dX9_readText_71 (tgt := 95) (by decide) ?_ ?_
    · refine aw_sub [0, 1] ?_
      exact hk95 h
    · refine aw_aload_n hC dX9_readText_74 rfl ?_
      refine aw_gfI hC dX9_readText_75 fg_RX9_154 rfl rm_7_0_0 ?_
      refine aw_if_eq hC dX9_readText_78 (tgt := 95) (by decide) ?_ ?_
      · refine aw_sub [0, 1] ?_
        exact hk95 h
      · refine aw_aload_n hC dX9_readText_81 rfl ?_
        refine aw_iload_n hC dX9_readText_82 rfl ?_
        refine aw_bind rfl (fun q7 hq7 => ?_)
        refine aw_cVv hC dX9_readText_83 cv_RX9_288 rfl rm_7_0_0 (am_some (inj := (fun r => (.inr (none), r))) hq7 (A_X9_carLine _ (hC.2.2.2.2.2.2.2.2.2.2.2.2.1) _ _ _ x1 h)) rfl rfl rfl rfl rfl ⟨rfl, rfl⟩ ?_
        refine aw_aload_n hC dX9_readText_86 rfl ?_
        refine aw_bipush hC dX9_readText_87 (v := 59) (by decide) ?_
        refine aw_bind rfl (fun q8 hq8 => ?_)
        refine aw_cVv hC dX9_readText_89 cv_RX9_283 rfl rm_7_0_0 (am_some (inj := (fun r => (.inr (none), r))) hq8 (A_X9_mustSign _ (hC.2.2.2.2.2.2.2.2.2.2.2.2.1) _ _ _ (59 : Int32) q7)) rfl rfl rfl rfl rfl ⟨rfl, rfl⟩ ?_
        refine aw_goto hC dX9_readText_92 (tgt := 67) (by decide) ?_
        refine aw_sub [0, 1] ?_
        exact ih67 q8
set_option maxHeartbeats 4000000 in
set_option maxRecDepth 100000 in
theorem A_X9_readText (l : Launch) (hl0 : l.stackTraces = false) (D : va_G) (loc : Rf → Nat) (cy : Nat → ClassId)  (h : HD) : AM l D loc cy yX9_readText cX9_readText 3 (some .int) 4 110 [.ref (loc (7, 0, 0))] h ((jX9_readText h).map (fun r => (.inr (some (.int r.1)), r.2))) := by
  refine am_start (y := yX9_readText) (av := [.ref (loc (7, 0, 0))]) (nL := 3) (h := h) (RF := fun (r : Option (Int32 × HD)) => r.map (fun r => (.inr (some (.int r.1)), r.2))) (x := jX9_readText h) hl0 (by decide +kernel) rfl ?_
  intro p e R s m below meth c A hC
  unfold jX9_readText
  refine aw_aload_n hC dX9_readText_0 rfl ?_
  refine aw_bind rfl (fun q1 hq1 => ?_)
  refine aw_cVv hC dX9_readText_1 cv_RX9_271 rfl rm_7_0_0 (am_some (inj := (fun r => (.inr (none), r))) hq1 (A_X9_laysAside _ (hC.2.2.2.2.2.2.2.2.2.2.2.2.1) _ _ _ h)) rfl rfl rfl rfl rfl ⟨rfl, rfl⟩ ?_
  refine aw_aload_n hC dX9_readText_4 rfl ?_
  refine aw_bind rfl (fun q2 hq2 => ?_)
  refine aw_cVv hC dX9_readText_5 cv_RX9_274 rfl rm_7_0_0 (am_some (inj := (fun r => (.inr (none), r))) hq2 (A_X9_beginsText _ (hC.2.2.2.2.2.2.2.2.2.2.2.2.1) _ _ _ q1)) rfl rfl rfl rfl rfl ⟨rfl, rfl⟩ ?_
  refine aw_aload_n hC dX9_readText_8 rfl ?_
  refine aw_bind rfl (fun q3 hq3 => ?_)
  refine aw_cVv hC dX9_readText_9 cv_RX9_109 rfl rm_7_0_0 (am_some (inj := (fun r => (.inr (none), r))) hq3 (A_X9_clears _ (hC.2.2.2.2.2.2.2.2.2.2.2.2.1) _ _ _ q2)) rfl rfl rfl rfl rfl ⟨rfl, rfl⟩ ?_
  refine aw_aload_n hC dX9_readText_12 rfl ?_
  refine aw_ldc2 hC dX9_readText_13 (v := 525899) tw7_197 ?_
  refine aw_bind rfl (fun q4 hq4 => ?_)
  refine aw_cVv hC dX9_readText_16 cv_RX9_279 rfl rm_7_0_0 (am_some (inj := (fun r => (.inr (none), r))) hq4 (A_X9_mustWord _ (hC.2.2.2.2.2.2.2.2.2.2.2.2.1) _ _ _ (525899 : Int64) q3)) rfl rfl rfl rfl rfl ⟨rfl, rfl⟩ ?_
  refine aw_aload_n hC dX9_readText_19 rfl ?_
  refine aw_iconst hC dX9_readText_20 (v := 0) (by decide) ?_
  refine aw_bipush hC dX9_readText_21 (v := 11) (by decide) ?_
  refine aw_bind rfl (fun q5 hq5 => ?_)
  refine aw_cVi hC dX9_readText_23 cv_RX9_268 rfl rm_7_0_0 (am_some (inj := (fun r => (.inr (some (.int r.1)), r.2))) hq5 (A_X9_number _ (hC.2.2.2.2.2.2.2.2.2.2.2.2.1) _ _ _ (0 : Int32) (11 : Int32) q4)) rfl rfl rfl rfl rfl ⟨rfl, rfl⟩ ?_
  refine aw_istore_n hC dX9_readText_26 (by decide) ?_
  refine aw_aload_n hC dX9_readText_27 rfl ?_
  refine aw_bipush hC dX9_readText_28 (v := 59) (by decide) ?_
  refine aw_bind rfl (fun q6 hq6 => ?_)
  refine aw_cVv hC dX9_readText_30 cv_RX9_283 rfl rm_7_0_0 (am_some (inj := (fun r => (.inr (none), r))) hq6 (A_X9_mustSign _ (hC.2.2.2.2.2.2.2.2.2.2.2.2.1) _ _ _ (59 : Int32) q5.2)) rfl rfl rfl rfl rfl ⟨rfl, rfl⟩ ?_
  refine aw_aload_n hC dX9_readText_33 rfl ?_
  refine aw_ldc2 hC dX9_readText_34 (v := 66667) tw7_230 ?_
  refine aw_cVb hC dX9_readText_37 cv_RX9_180 rfl rm_7_0_0 (A_X9_isWord _ (hC.2.2.2.2.2.2.2.2.2.2.2.2.1) _ _ _ (66667 : Int64) q6) rfl rfl rfl rfl rfl ⟨rfl, rfl⟩ ?_
  refine aw_if_eq_b hC dX9_readText_40 (tgt := 67) (by decide) ?_ ?_
  · refine aw_sub [0, 1] ?_
    refine L_X9_readText_67 q5.1 _ hC ?_ FU q6
    · intro h9
      refine aw_aload_n hC dX9_readText_95 rfl ?_
      refine aw_cVb hC dX9_readText_96 cv_RX9_167 rfl rm_7_0_0 (A_X9_isGood _ (hC.2.2.2.2.2.2.2.2.2.2.2.2.1) _ _ _ h9) rfl rfl rfl rfl rfl ⟨rfl, rfl⟩ ?_
      refine aw_if_eq_b hC dX9_readText_99 (tgt := 117) (by decide) ?_ ?_
      · refine aw_aload_n hC dX9_readText_117 rfl ?_
        refine aw_bind rfl (fun q10 hq10 => ?_)
        refine aw_cVb hC dX9_readText_118 cv_RX9_291 rfl rm_7_0_0 (am_some (inj := (fun r => (.inr (some (.int (b2i r.1))), r.2))) hq10 (A_X9_endsText _ (hC.2.2.2.2.2.2.2.2.2.2.2.2.1) _ _ _ h9)) rfl rfl rfl rfl rfl ⟨rfl, rfl⟩ ?_
        refine aw_if_ne_b hC dX9_readText_121 (tgt := 130) (by decide) ?_ ?_
        · refine aw_aload_n hC dX9_readText_130 rfl ?_
          refine aw_iconst hC dX9_readText_131 (v := 0) (by decide) ?_
          refine aw_pfI hC dX9_readText_132 fg_RX9_199 fp_7_23 rfl rm_7_0_0 (fun h11 => ?_)
          refine aw_aload_n hC dX9_readText_135 rfl ?_
          refine aw_gfR hC dX9_readText_136 fg_RX9_20 rfl rfl rm_7_0_0 ?_
          refine aw_iconst hC dX9_readText_139 (v := 0) (by decide) ?_
          refine aw_iald hC dX9_readText_140 rm_7_0_2 rfl rfl (by decide) (k := 0) (by decide) ?_
          exact aw_iret hC dX9_readText_141 rfl rfl
        · refine aw_aload_n hC dX9_readText_124 rfl ?_
          refine aw_bind rfl (fun q12 hq12 => ?_)
          refine aw_cVv hC dX9_readText_125 cv_RX9_294 rfl rm_7_0_0 (am_some (inj := (fun r => (.inr (none), r))) hq12 (A_X9_goesBack _ (hC.2.2.2.2.2.2.2.2.2.2.2.2.1) _ _ _ q10.2)) rfl rfl rfl rfl rfl ⟨rfl, rfl⟩ ?_
          refine aw_iconst hC dX9_readText_128 (v := 0) (by decide) ?_
          exact aw_iret hC dX9_readText_129 rfl rfl
      · refine aw_aload_n hC dX9_readText_102 rfl ?_
        refine aw_gfR hC dX9_readText_103 fg_RX9_20 rfl rfl rm_7_0_0 ?_
        refine aw_iconst hC dX9_readText_106 (v := 0) (by decide) ?_
        refine aw_iald hC dX9_readText_107 rm_7_0_2 rfl rfl (by decide) (k := 0) (by decide) ?_
        refine aw_iload_n hC dX9_readText_108 rfl ?_
        refine aw_icmp_ge hC dX9_readText_109 (tgt := 117) (by decide) ?_ ?_
        · refine aw_aload_n hC dX9_readText_117 rfl ?_
          refine aw_bind rfl (fun q13 hq13 => ?_)
          refine aw_cVb hC dX9_readText_118 cv_RX9_291 rfl rm_7_0_0 (am_some (inj := (fun r => (.inr (some (.int (b2i r.1))), r.2))) hq13 (A_X9_endsText _ (hC.2.2.2.2.2.2.2.2.2.2.2.2.1) _ _ _ h9)) rfl rfl rfl rfl rfl ⟨rfl, rfl⟩ ?_
          refine aw_if_ne_b hC dX9_readText_121 (tgt := 130) (by decide) ?_ ?_
          · refine aw_aload_n hC dX9_readText_130 rfl ?_
            refine aw_iconst hC dX9_readText_131 (v := 0) (by decide) ?_
            refine aw_pfI hC dX9_readText_132 fg_RX9_199 fp_7_23 rfl rm_7_0_0 (fun h14 => ?_)
            refine aw_aload_n hC dX9_readText_135 rfl ?_
            refine aw_gfR hC dX9_readText_136 fg_RX9_20 rfl rfl rm_7_0_0 ?_
            refine aw_iconst hC dX9_readText_139 (v := 0) (by decide) ?_
            refine aw_iald hC dX9_readText_140 rm_7_0_2 rfl rfl (by decide) (k := 0) (by decide) ?_
            exact aw_iret hC dX9_readText_141 rfl rfl
          · refine aw_aload_n hC dX9_readText_124 rfl ?_
            refine aw_bind rfl (fun q15 hq15 => ?_)
            refine aw_cVv hC dX9_readText_125 cv_RX9_294 rfl rm_7_0_0 (am_some (inj := (fun r => (.inr (none), r))) hq15 (A_X9_goesBack _ (hC.2.2.2.2.2.2.2.2.2.2.2.2.1) _ _ _ q13.2)) rfl rfl rfl rfl rfl ⟨rfl, rfl⟩ ?_
            refine aw_iconst hC dX9_readText_128 (v := 0) (by decide) ?_
            exact aw_iret hC dX9_readText_129 rfl rfl
        · refine aw_aload_n hC dX9_readText_112 rfl ?_
          refine aw_iconst hC dX9_readText_113 (v := 1) (by decide) ?_
          refine aw_bind rfl (fun q16 hq16 => ?_)
          refine aw_cVv hC dX9_readText_114 cv_RX9_174 rfl rm_7_0_0 (am_some (inj := (fun r => (.inr (none), r))) hq16 (A_X9_wrong _ (hC.2.2.2.2.2.2.2.2.2.2.2.2.1) _ _ _ (1 : Int32) h9)) rfl rfl rfl rfl rfl ⟨rfl, rfl⟩ ?_
          refine aw_aload_n hC dX9_readText_117 rfl ?_
          refine aw_bind rfl (fun q17 hq17 => ?_)
          refine aw_cVb hC dX9_readText_118 cv_RX9_291 rfl rm_7_0_0 (am_some (inj := (fun r => (.inr (some (.int (b2i r.1))), r.2))) hq17 (A_X9_endsText _ (hC.2.2.2.2.2.2.2.2.2.2.2.2.1) _ _ _ q16)) rfl rfl rfl rfl rfl ⟨rfl, rfl⟩ ?_
          refine aw_if_ne_b hC dX9_readText_121 (tgt := 130) (by decide) ?_ ?_
          · refine aw_aload_n hC dX9_readText_130 rfl ?_
            refine aw_iconst hC dX9_readText_131 (v := 0) (by decide) ?_
            refine aw_pfI hC dX9_readText_132 fg_RX9_199 fp_7_23 rfl rm_7_0_0 (fun h18 => ?_)
            refine aw_aload_n hC dX9_readText_135 rfl ?_
            refine aw_gfR hC dX9_readText_136 fg_RX9_20 rfl rfl rm_7_0_0 ?_
            refine aw_iconst hC dX9_readText_139 (v := 0) (by decide) ?_
            refine aw_iald hC dX9_readText_140 rm_7_0_2 rfl rfl (by decide) (k := 0) (by decide) ?_
            exact aw_iret hC dX9_readText_141 rfl rfl
          · refine aw_aload_n hC dX9_readText_124 rfl ?_
            refine aw_bind rfl (fun q19 hq19 => ?_)
            refine aw_cVv hC dX9_readText_125 cv_RX9_294 rfl rm_7_0_0 (am_some (inj := (fun r => (.inr (none), r))) hq19 (A_X9_goesBack _ (hC.2.2.2.2.2.2.2.2.2.2.2.2.1) _ _ _ q17.2)) rfl rfl rfl rfl rfl ⟨rfl, rfl⟩ ?_
            refine aw_iconst hC dX9_readText_128 (v := 0) (by decide) ?_
            exact aw_iret hC dX9_readText_129 rfl rfl
  · refine aw_aload_n hC dX9_readText_43 rfl ?_
    refine aw_bind rfl (fun q20 hq20 => ?_)
    refine aw_cVv hC dX9_readText_44 cv_RX9_177 rfl rm_7_0_0 (am_some (inj := (fun r => (.inr (none), r))) hq20 (A_X9_goOnRead _ (hC.2.2.2.2.2.2.2.2.2.2.2.2.1) _ _ _ q6)) rfl rfl rfl rfl rfl ⟨rfl, rfl⟩ ?_
    refine aw_aload_n hC dX9_readText_47 rfl ?_
    refine aw_iconst hC dX9_readText_48 (v := 0) (by decide) ?_
    refine aw_iconst hC dX9_readText_49 (v := 5) (by decide) ?_
    refine aw_bind rfl (fun q21 hq21 => ?_)
    refine aw_cVi hC dX9_readText_50 cv_RX9_268 rfl rm_7_0_0 (am_some (inj := (fun r => (.inr (some (.int r.1)), r.2))) hq21 (A_X9_number _ (hC.2.2.2.2.2.2.2.2.2.2.2.2.1) _ _ _ (0 : Int32) (5 : Int32) q20)) rfl rfl rfl rfl rfl ⟨rfl, rfl⟩ ?_
    refine aw_istore_n hC dX9_readText_53 (by decide) ?_
    refine aw_aload_n hC dX9_readText_54 rfl ?_
    refine aw_gfR hC dX9_readText_55 fg_RX9_20 rfl rfl rm_7_0_0 ?_
    refine aw_iconst hC dX9_readText_58 (v := 1) (by decide) ?_
    refine aw_iload_n hC dX9_readText_59 rfl ?_
    refine aw_iast hC dX9_readText_60 rm_7_0_2 rfl rfl (by decide) (k := 1) (by decide) (fun h22 => ?_)
    refine aw_aload_n hC dX9_readText_61 rfl ?_
    refine aw_bipush hC dX9_readText_62 (v := 59) (by decide) ?_
    refine aw_bind rfl (fun q23 hq23 => ?_)
    refine aw_cVv hC dX9_readText_64 cv_RX9_283 rfl rm_7_0_0 (am_some (inj := (fun r => (.inr (none), r))) hq23 (A_X9_mustSign _ (hC.2.2.2.2.2.2.2.2.2.2.2.2.1) _ _ _ (59 : Int32) h22)) rfl rfl rfl rfl rfl ⟨rfl, rfl⟩ ?_
    refine aw_sub [0, 1] ?_
    refine L_X9_readText_67 q5.1 _ hC ?_ FU q23
    · intro h26
      refine aw_aload_n hC dX9_readText_95 rfl ?_
      refine aw_cVb hC dX9_readText_96 cv_RX9_167 rfl rm_7_0_0 (A_X9_isGood _ (hC.2.2.2.2.2.2.2.2.2.2.2.2.1) _ _ _ h26) rfl rfl rfl rfl rfl ⟨rfl, rfl⟩ ?_
      refine aw_if_eq_b hC dX9_readText_99 (tgt := 117) (by decide) ?_ ?_
      · refine aw_aload_n hC dX9_readText_117 rfl ?_
        refine aw_bind rfl (fun q27 hq27 => ?_)
        refine aw_cVb hC dX9_readText_118 cv_RX9_291 rfl rm_7_0_0 (am_some (inj := (fun r => (.inr (some (.int (b2i r.1))), r.2))) hq27 (A_X9_endsText _ (hC.2.2.2.2.2.2.2.2.2.2.2.2.1) _ _ _ h26)) rfl rfl rfl rfl rfl ⟨rfl, rfl⟩ ?_
        refine aw_if_ne_b hC dX9_readText_121 (tgt := 130) (by decide) ?_ ?_
        · refine aw_aload_n hC dX9_readText_130 rfl ?_
          refine aw_iconst hC dX9_readText_131 (v := 0) (by decide) ?_
          refine aw_pfI hC dX9_readText_132 fg_RX9_199 fp_7_23 rfl rm_7_0_0 (fun h28 => ?_)
          refine aw_aload_n hC dX9_readText_135 rfl ?_
          refine aw_gfR hC dX9_readText_136 fg_RX9_20 rfl rfl rm_7_0_0 ?_
          refine aw_iconst hC dX9_readText_139 (v := 0) (by decide) ?_
          refine aw_iald hC dX9_readText_140 rm_7_0_2 rfl rfl (by decide) (k := 0) (by decide) ?_
          exact aw_iret hC dX9_readText_141 rfl rfl
        · refine aw_aload_n hC dX9_readText_124 rfl ?_
          refine aw_bind rfl (fun q29 hq29 => ?_)
          refine aw_cVv hC dX9_readText_125 cv_RX9_294 rfl rm_7_0_0 (am_some (inj := (fun r => (.inr (none), r))) hq29 (A_X9_goesBack _ (hC.2.2.2.2.2.2.2.2.2.2.2.2.1) _ _ _ q27.2)) rfl rfl rfl rfl rfl ⟨rfl, rfl⟩ ?_
          refine aw_iconst hC dX9_readText_128 (v := 0) (by decide) ?_
          exact aw_iret hC dX9_readText_129 rfl rfl
      · refine aw_aload_n hC dX9_readText_102 rfl ?_
        refine aw_gfR hC dX9_readText_103 fg_RX9_20 rfl rfl rm_7_0_0 ?_
        refine aw_iconst hC dX9_readText_106 (v := 0) (by decide) ?_
        refine aw_iald hC dX9_readText_107 rm_7_0_2 rfl rfl (by decide) (k := 0) (by decide) ?_
        refine aw_iload_n hC dX9_readText_108 rfl ?_
        refine aw_icmp_ge hC dX9_readText_109 (tgt := 117) (by decide) ?_ ?_
        · refine aw_aload_n hC dX9_readText_117 rfl ?_
          refine aw_bind rfl (fun q30 hq30 => ?_)
          refine aw_cVb hC dX9_readText_118 cv_RX9_291 rfl rm_7_0_0 (am_some (inj := (fun r => (.inr (some (.int (b2i r.1))), r.2))) hq30 (A_X9_endsText _ (hC.2.2.2.2.2.2.2.2.2.2.2.2.1) _ _ _ h26)) rfl rfl rfl rfl rfl ⟨rfl, rfl⟩ ?_
          refine aw_if_ne_b hC dX9_readText_121 (tgt := 130) (by decide) ?_ ?_
          · refine aw_aload_n hC dX9_readText_130 rfl ?_
            refine aw_iconst hC dX9_readText_131 (v := 0) (by decide) ?_
            refine aw_pfI hC dX9_readText_132 fg_RX9_199 fp_7_23 rfl rm_7_0_0 (fun h31 => ?_)
            refine aw_aload_n hC dX9_readText_135 rfl ?_
            refine aw_gfR hC dX9_readText_136 fg_RX9_20 rfl rfl rm_7_0_0 ?_
            refine aw_iconst hC dX9_readText_139 (v := 0) (by decide) ?_
            refine aw_iald hC dX9_readText_140 rm_7_0_2 rfl rfl (by decide) (k := 0) (by decide) ?_
            exact aw_iret hC dX9_readText_141 rfl rfl
          · refine aw_aload_n hC dX9_readText_124 rfl ?_
            refine aw_bind rfl (fun q32 hq32 => ?_)
            refine aw_cVv hC dX9_readText_125 cv_RX9_294 rfl rm_7_0_0 (am_some (inj := (fun r => (.inr (none), r))) hq32 (A_X9_goesBack _ (hC.2.2.2.2.2.2.2.2.2.2.2.2.1) _ _ _ q30.2)) rfl rfl rfl rfl rfl ⟨rfl, rfl⟩ ?_
            refine aw_iconst hC dX9_readText_128 (v := 0) (by decide) ?_
            exact aw_iret hC dX9_readText_129 rfl rfl
        · refine aw_aload_n hC dX9_readText_112 rfl ?_
          refine aw_iconst hC dX9_readText_113 (v := 1) (by decide) ?_
          refine aw_bind rfl (fun q33 hq33 => ?_)
          refine aw_cVv hC dX9_readText_114 cv_RX9_174 rfl rm_7_0_0 (am_some (inj := (fun r => (.inr (none), r))) hq33 (A_X9_wrong _ (hC.2.2.2.2.2.2.2.2.2.2.2.2.1) _ _ _ (1 : Int32) h26)) rfl rfl rfl rfl rfl ⟨rfl, rfl⟩ ?_
          refine aw_aload_n hC dX9_readText_117 rfl ?_
          refine aw_bind rfl (fun q34 hq34 => ?_)
          refine aw_cVb hC dX9_readText_118 cv_RX9_291 rfl rm_7_0_0 (am_some (inj := (fun r => (.inr (some (.int (b2i r.1))), r.2))) hq34 (A_X9_endsText _ (hC.2.2.2.2.2.2.2.2.2.2.2.2.1) _ _ _ q33)) rfl rfl rfl rfl rfl ⟨rfl, rfl⟩ ?_
          refine aw_if_ne_b hC dX9_readText_121 (tgt := 130) (by decide) ?_ ?_
          · refine aw_aload_n hC dX9_readText_130 rfl ?_
            refine aw_iconst hC dX9_readText_131 (v := 0) (by decide) ?_
            refine aw_pfI hC dX9_readText_132 fg_RX9_199 fp_7_23 rfl rm_7_0_0 (fun h35 => ?_)
            refine aw_aload_n hC dX9_readText_135 rfl ?_
            refine aw_gfR hC dX9_readText_136 fg_RX9_20 rfl rfl rm_7_0_0 ?_
            refine aw_iconst hC dX9_readText_139 (v := 0) (by decide) ?_
            refine aw_iald hC dX9_readText_140 rm_7_0_2 rfl rfl (by decide) (k := 0) (by decide) ?_
            exact aw_iret hC dX9_readText_141 rfl rfl
          · refine aw_aload_n hC dX9_readText_124 rfl ?_
            refine aw_bind rfl (fun q36 hq36 => ?_)
            refine aw_cVv hC dX9_readText_125 cv_RX9_294 rfl rm_7_0_0 (am_some (inj := (fun r => (.inr (none), r))) hq36 (A_X9_goesBack _ (hC.2.2.2.2.2.2.2.2.2.2.2.2.1) _ _ _ q34.2)) rfl rfl rfl rfl rfl ⟨rfl, rfl⟩ ?_
            refine aw_iconst hC dX9_readText_128 (v := 0) (by decide) ?_
            exact aw_iret hC dX9_readText_129 rfl rfl
set_option maxHeartbeats 4000000 in
set_option maxRecDepth 100000 in
theorem A_X9_settingOf (l : Launch) (hl0 : l.stackTraces = false) (D : va_G) (loc : Rf → Nat) (cy : Nat → ClassId) (p1 : Int32) (h : HD) : AM l D loc cy yX9_settingOf cX9_settingOf 2 (some .int) 5 126 [.ref (loc (7, 0, 0)), .int p1] h ((jX9_settingOf p1 h).map (fun r => (.inr (some (.int r.1)), r.2))) := by
  refine am_start (y := yX9_settingOf) (av := [.ref (loc (7, 0, 0)), .int p1]) (nL := 2) (h := h) (RF := fun (r : Option (Int32 × HD)) => r.map (fun r => (.inr (some (.int r.1)), r.2))) (x := jX9_settingOf p1 h) hl0 (by decide +kernel) rfl ?_
  intro p e R s m below meth c A hC
  unfold jX9_settingOf
  refine aw_aload_n hC dX9_settingOf_0 rfl ?_
  refine aw_aload_n hC dX9_settingOf_1 rfl ?_
  refine aw_gfR hC dX9_settingOf_2 fg_RX9_20 rfl rfl rm_7_0_0 ?_
  refine aw_iconst hC dX9_settingOf_5 (v := 0) (by decide) ?_
  refine aw_iald hC dX9_settingOf_6 rm_7_0_2 rfl rfl (by decide) (k := 0) (by decide) ?_
  refine aw_bind rfl (fun q1 hq1 => ?_)
  refine aw_cVv hC dX9_settingOf_7 cv_RX9_230 rfl rm_7_0_0 (am_some (inj := (fun r => (.inr (none), r))) hq1 (A_X9_parks _ (hC.2.2.2.2.2.2.2.2.2.2.2.2.1) _ _ _ (gI h (7, 0, 2) 0) h)) rfl rfl rfl rfl rfl ⟨rfl, rfl⟩ ?_
  refine aw_iload_n hC dX9_settingOf_10 rfl ?_
  refine aw_tabIn hC dX9_settingOf_11 0 (by decide) (by decide) (off := 49) rfl (tgt := 60) (by decide) ?_ (fun n2 => ?_)
  · refine aw_aload_n hC dX9_settingOf_60 rfl ?_
    refine aw_gfR hC dX9_settingOf_61 fg_RX9_20 rfl rfl rm_7_0_0 ?_
    refine aw_iconst hC dX9_settingOf_64 (v := 0) (by decide) ?_
    refine aw_iald hC dX9_settingOf_65 rm_7_0_2 rfl rfl (by decide) (k := 0) (by decide) ?_
    exact aw_iret hC dX9_settingOf_66 rfl rfl
  refine aw_tabIn hC dX9_settingOf_11 1 (by decide) (by decide) (off := 56) rfl (tgt := 67) (by decide) ?_ (fun n4 => ?_)
  · refine aw_aload_n hC dX9_settingOf_67 rfl ?_
    refine aw_bind rfl (fun q3 hq3 => ?_)
    refine aw_cVi hC dX9_settingOf_68 cv_RX9_214 rfl rm_7_0_0 (am_some (inj := (fun r => (.inr (some (.int r)), q1))) hq3 (A_X9_spots _ (hC.2.2.2.2.2.2.2.2.2.2.2.2.1) _ _ _ q1)) rfl rfl rfl rfl rfl ⟨rfl, rfl⟩ ?_
    exact aw_iret hC dX9_settingOf_71 rfl rfl
  refine aw_tabIn hC dX9_settingOf_11 2 (by decide) (by decide) (off := 61) rfl (tgt := 72) (by decide) ?_ (fun n5 => ?_)
  · refine aw_aload_n hC dX9_settingOf_72 rfl ?_
    refine aw_gfR hC dX9_settingOf_73 fg_RX9_20 rfl rfl rm_7_0_0 ?_
    refine aw_iconst hC dX9_settingOf_76 (v := 1) (by decide) ?_
    refine aw_iald hC dX9_settingOf_77 rm_7_0_2 rfl rfl (by decide) (k := 1) (by decide) ?_
    exact aw_iret hC dX9_settingOf_78 rfl rfl
  refine aw_tabIn hC dX9_settingOf_11 3 (by decide) (by decide) (off := 68) rfl (tgt := 79) (by decide) ?_ (fun n7 => ?_)
  · refine aw_aload_n hC dX9_settingOf_79 rfl ?_
    refine aw_bind rfl (fun q6 hq6 => ?_)
    refine aw_cVi hC dX9_settingOf_80 cv_RX9_227 rfl rm_7_0_0 (am_some (inj := (fun r => (.inr (some (.int r)), q1))) hq6 (A_X9_gapSpot _ (hC.2.2.2.2.2.2.2.2.2.2.2.2.1) _ _ _ q1)) rfl rfl rfl rfl rfl ⟨rfl, rfl⟩ ?_
    exact aw_iret hC dX9_settingOf_83 rfl rfl
  refine aw_tabIn hC dX9_settingOf_11 4 (by decide) (by decide) (off := 73) rfl (tgt := 84) (by decide) ?_ (fun n9 => ?_)
  · refine aw_aload_n hC dX9_settingOf_84 rfl ?_
    refine aw_bind rfl (fun q8 hq8 => ?_)
    refine aw_cVi hC dX9_settingOf_85 cv_RX9_297 rfl rm_7_0_0 (am_some (inj := (fun r => (.inr (some (.int r)), q1))) hq8 (A_X9_luckyMany _ (hC.2.2.2.2.2.2.2.2.2.2.2.2.1) _ _ _ q1)) rfl rfl rfl rfl rfl ⟨rfl, rfl⟩ ?_
    exact aw_iret hC dX9_settingOf_88 rfl rfl
  refine aw_tabIn hC dX9_settingOf_11 5 (by decide) (by decide) (off := 78) rfl (tgt := 89) (by decide) ?_ (fun n11 => ?_)
  · refine aw_aload_n hC dX9_settingOf_89 rfl ?_
    refine aw_bind rfl (fun q10 hq10 => ?_)
    refine aw_cVi hC dX9_settingOf_90 cv_RX9_300 rfl rm_7_0_0 (am_some (inj := (fun r => (.inr (some (.int r)), q1))) hq10 (A_X9_area _ (hC.2.2.2.2.2.2.2.2.2.2.2.2.1) _ _ _ q1)) rfl rfl rfl rfl rfl ⟨rfl, rfl⟩ ?_
    exact aw_iret hC dX9_settingOf_93 rfl rfl
  refine aw_tabIn hC dX9_settingOf_11 6 (by decide) (by decide) (off := 83) rfl (tgt := 94) (by decide) ?_ (fun n13 => ?_)
  · refine aw_aload_n hC dX9_settingOf_94 rfl ?_
    refine aw_bind rfl (fun q12 hq12 => ?_)
    refine aw_cVi hC dX9_settingOf_95 cv_RX9_303 rfl rm_7_0_0 (am_some (inj := (fun r => (.inr (some (.int r)), q1))) hq12 (A_X9_way _ (hC.2.2.2.2.2.2.2.2.2.2.2.2.1) _ _ _ q1)) rfl rfl rfl rfl rfl ⟨rfl, rfl⟩ ?_
    exact aw_iret hC dX9_settingOf_98 rfl rfl
  refine aw_tabIn hC dX9_settingOf_11 7 (by decide) (by decide) (off := 88) rfl (tgt := 99) (by decide) ?_ (fun n15 => ?_)
  · refine aw_aload_n hC dX9_settingOf_99 rfl ?_
    refine aw_bind rfl (fun q14 hq14 => ?_)
    refine aw_cVi hC dX9_settingOf_100 cv_RX9_233 rfl rm_7_0_0 (am_some (inj := (fun r => (.inr (some (.int r)), q1))) hq14 (A_X9_turnNow _ (hC.2.2.2.2.2.2.2.2.2.2.2.2.1) _ _ _ q1)) rfl rfl rfl rfl rfl ⟨rfl, rfl⟩ ?_
    exact aw_iret hC dX9_settingOf_103 rfl rfl
  refine aw_tabIn hC dX9_settingOf_11 8 (by decide) (by decide) (off := 93) rfl (tgt := 104) (by decide) ?_ (fun n17 => ?_)
  · refine aw_aload_n hC dX9_settingOf_104 rfl ?_
    refine aw_bind rfl (fun q16 hq16 => ?_)
    refine aw_cVi hC dX9_settingOf_105 cv_RX9_306 rfl rm_7_0_0 (am_some (inj := (fun r => (.inr (some (.int r)), q1))) hq16 (A_X9_breaks _ (hC.2.2.2.2.2.2.2.2.2.2.2.2.1) _ _ _ q1)) rfl rfl rfl rfl rfl ⟨rfl, rfl⟩ ?_
    exact aw_iret hC dX9_settingOf_108 rfl rfl
  refine aw_tabOut hC dX9_settingOf_11 ((tab_out 9 rfl (lt_s (lt_s (lt_s (lt_s (lt_s (lt_s (lt_s (lt_s (lt_s lt_0 n2) n4) n5) n7) n9) n11) n13) n15) n17)).imp id (fun z => by omega)) (tgt := 109) (by decide) ?_
  refine aw_aload_n hC dX9_settingOf_109 rfl ?_
  refine aw_bind rfl (fun q18 hq18 => ?_)
  refine aw_cVi hC dX9_settingOf_110 cv_RX9_309 rfl rm_7_0_0 (am_some (inj := (fun r => (.inr (some (.int r)), q1))) hq18 (A_X9_preferred _ (hC.2.2.2.2.2.2.2.2.2.2.2.2.1) _ _ _ q1)) rfl rfl rfl rfl rfl ⟨rfl, rfl⟩ ?_
  exact aw_iret hC dX9_settingOf_113 rfl rfl
set_option maxHeartbeats 4000000 in
set_option maxRecDepth 100000 in
theorem A_X9_isSetting (l : Launch) (hl0 : l.stackTraces = false) (D : va_G) (loc : Rf → Nat) (cy : Nat → ClassId) (p1 : Int32) (h : HD) : AM l D loc cy yX9_isSetting cX9_isSetting 1 (some .boolean) 1 41 [.int p1] h (some (.inr (some (.int (b2i (jX9_isSetting p1 h)))), h)) := by
  refine am_start (y := yX9_isSetting) (av := [.int p1]) (nL := 1) (h := h) (RF := fun (r : Bool) => some (.inr (some (.int (b2i r))), h)) (x := jX9_isSetting p1 h) hl0 (by decide +kernel) rfl ?_
  intro p e R s m below meth c A hC
  unfold jX9_isSetting
  refine aw_iload_n hC dX9_isSetting_0 rfl ?_
  refine aw_i2l hC dX9_isSetting_1 ?_
  refine aw_lconst hC dX9_isSetting_2 (v := 0) (by decide) ?_
  refine aw_ldc2 hC dX9_isSetting_3 (v := 9) tw8_23 ?_
  refine aw_cSb hC dX9_isSetting_6 cv_RX9_130 (A_X9_isIn _ (hC.2.2.2.2.2.2.2.2.2.2.2.2.1) _ _ _ p1.toInt64 (0 : Int64) (9 : Int64) h) rfl rfl rfl rfl rfl ⟨rfl, rfl⟩ ?_
  exact aw_zret hC dX9_isSetting_9 rfl (show _ = b2i (jX9_isIn p1.toInt64 (0 : Int64) (9 : Int64) h) from rfl) rfl
set_option maxHeartbeats 4000000 in
set_option maxRecDepth 100000 in
theorem A_X9_setting (l : Launch) (hl0 : l.stackTraces = false) (D : va_G) (loc : Rf → Nat) (cy : Nat → ClassId) (p1 : Int32) (h : HD) : AM l D loc cy yX9_setting cX9_setting 2 (some .int) 6 147 [.ref (loc (7, 0, 0)), .int p1] h ((jX9_setting p1 h).map (fun r => (.inr (some (.int r.1)), r.2))) := by
  refine am_start (y := yX9_setting) (av := [.ref (loc (7, 0, 0)), .int p1]) (nL := 2) (h := h) (RF := fun (r : Option (Int32 × HD)) => r.map (fun r => (.inr (some (.int r.1)), r.2))) (x := jX9_setting p1 h) hl0 (by decide +kernel) rfl ?_
  intro p e R s m below meth c A hC
  unfold jX9_setting
  refine aw_aload_n hC dX9_setting_0 rfl ?_
  refine aw_iload_n hC dX9_setting_1 rfl ?_
  refine aw_cSb hC dX9_setting_2 cv_RX9_314 (A_X9_isSetting _ (hC.2.2.2.2.2.2.2.2.2.2.2.2.1) _ _ _ p1 h) rfl rfl rfl rfl rfl ⟨rfl, rfl⟩ ?_
  refine aw_bind rfl (fun q1 hq1 => ?_)
  refine aw_cVb hC dX9_setting_5 cv_RX9_122 rfl rm_7_0_0 (am_some (inj := (fun r => (.inr (some (.int (b2i r.1))), r.2))) hq1 (A_X9_goes _ (hC.2.2.2.2.2.2.2.2.2.2.2.2.1) _ _ _ (jX9_isSetting p1 h) h)) rfl rfl rfl rfl rfl ⟨rfl, rfl⟩ ?_
  refine aw_if_eq_b hC dX9_setting_8 (tgt := 19) (by decide) ?_ ?_
  · refine aw_iconst hC dX9_setting_19 (v := 0) (by decide) ?_
    exact aw_iret hC dX9_setting_20 rfl rfl
  · refine aw_aload_n hC dX9_setting_11 rfl ?_
    refine aw_iload_n hC dX9_setting_12 rfl ?_
    refine aw_bind rfl (fun q2 hq2 => ?_)
    refine aw_cVi hC dX9_setting_13 cv_RX9_317 rfl rm_7_0_0 (am_some (inj := (fun r => (.inr (some (.int r.1)), r.2))) hq2 (A_X9_settingOf _ (hC.2.2.2.2.2.2.2.2.2.2.2.2.1) _ _ _ p1 q1.2)) rfl rfl rfl rfl rfl ⟨rfl, rfl⟩ ?_
    refine aw_goto hC dX9_setting_16 (tgt := 20) (by decide) ?_
    exact aw_iret hC dX9_setting_20 rfl rfl
set_option maxHeartbeats 4000000 in
set_option maxRecDepth 100000 in
theorem L_X9_lettersOf_4 (p1 : Int64) (h : HD) (hC : Cx p l e R s m args meth c D loc cy A cX9_lettersOf 5 (some .int) RX9 0 16 0 0)  : ∀ (n4 : Nat) (x2 : Int32) (x3 : Int64), AW p l e R s m args below meth c D loc cy A 5 (QM below D loc cy A args s) (fun (r : Option Int32) => r.map (fun r => (.inr (some (.int r)), h))) (0, 0) 4 [(2, .int x2), (3, .long x3)] [] h (jX9_lettersOf_L4 p1 h n4 x2 x3) := by
  intro n4
  induction n4 with
  | zero => intro x2 x3; exact aw_none rfl
  | succ n4 ih4 =>
    intro x2 x3
    rw [jX9_lettersOf_L4]
    refine aw_lload_n hC dX9_lettersOf_4 rfl ?_
    refine aw_lconst hC dX9_lettersOf_5 (v := 0) (by decide) ?_
    refine aw_lcmp hC dX9_lettersOf_6 ?_
    refine aw_if_le hC dX9_lettersOf_7 (tgt := 20) (by decide) ?_ ?_
    · refine aw_iload_n hC dX9_lettersOf_20 rfl ?_
      exact aw_iret hC dX9_lettersOf_21 rfl rfl
    · refine aw_iinc hC dX9_lettersOf_10 rfl (v := x2 + 1) (by first | rfl | decide) (by decide) ?_
      refine aw_lload_n hC dX9_lettersOf_13 rfl ?_
      refine aw_iconst hC dX9_lettersOf_14 (v := 5) (by decide) ?_
      refine aw_lshr hC dX9_lettersOf_15 ?_
      refine aw_lstore_n hC dX9_lettersOf_16 (by decide) ?_
      refine aw_goto hC dX9_lettersOf_17 (tgt := 4) (by decide) ?_
      refine aw_sub [2, 3] ?_
      exact ih4 (x2 + 1) (x3 >>> ((5 : Int32).toInt64 &&& 63))
set_option maxHeartbeats 4000000 in
set_option maxRecDepth 100000 in
theorem A_X9_lettersOf (l : Launch) (hl0 : l.stackTraces = false) (D : va_G) (loc : Rf → Nat) (cy : Nat → ClassId) (p1 : Int64) (h : HD) : AM l D loc cy yX9_lettersOf cX9_lettersOf 5 (some .int) 0 16 [.long p1] h ((jX9_lettersOf p1 h).map (fun r => (.inr (some (.int r)), h))) := by
  refine am_start (y := yX9_lettersOf) (av := [.long p1]) (nL := 5) (h := h) (RF := fun (r : Option Int32) => r.map (fun r => (.inr (some (.int r)), h))) (x := jX9_lettersOf p1 h) hl0 (by decide +kernel) rfl ?_
  intro p e R s m below meth c A hC
  unfold jX9_lettersOf
  refine aw_iconst hC dX9_lettersOf_0 (v := 0) (by decide) ?_
  refine aw_istore_n hC dX9_lettersOf_1 (by decide) ?_
  refine aw_lload_n hC dX9_lettersOf_2 rfl ?_
  refine aw_lstore_n hC dX9_lettersOf_3 (by decide) ?_
  refine aw_sub [2, 3] ?_
  exact L_X9_lettersOf_4 p1 h  hC FU (0 : Int32) p1
set_option maxHeartbeats 4000000 in
set_option maxRecDepth 100000 in
theorem A_X9_letterOf (l : Launch) (hl0 : l.stackTraces = false) (D : va_G) (loc : Rf → Nat) (cy : Nat → ClassId) (p1 : Int64) (p2 : Int32) (h : HD) : AM l D loc cy yX9_letterOf cX9_letterOf 3 (some .int) 1 40 [.long p1, .int p2] h ((jX9_letterOf p1 p2 h).map (fun r => (.inr (some (.int r)), h))) := by
  refine am_start (y := yX9_letterOf) (av := [.long p1, .int p2]) (nL := 3) (h := h) (RF := fun (r : Option Int32) => r.map (fun r => (.inr (some (.int r)), h))) (x := jX9_letterOf p1 p2 h) hl0 (by decide +kernel) rfl ?_
  intro p e R s m below meth c A hC
  unfold jX9_letterOf
  refine aw_lload_n hC dX9_letterOf_0 rfl ?_
  refine aw_iconst hC dX9_letterOf_1 (v := 5) (by decide) ?_
  refine aw_lload_n hC dX9_letterOf_2 rfl ?_
  refine aw_bind rfl (fun q1 hq1 => ?_)
  refine aw_cSi hC dX9_letterOf_3 cv_RX9_320 (am_some (inj := (fun r => (.inr (some (.int r)), h))) hq1 (A_X9_lettersOf _ (hC.2.2.2.2.2.2.2.2.2.2.2.2.1) _ _ _ p1 h)) rfl rfl rfl rfl rfl ⟨rfl, rfl⟩ ?_
  refine aw_iconst hC dX9_letterOf_6 (v := 1) (by decide) ?_
  refine aw_isub hC dX9_letterOf_7 ?_
  refine aw_iload_n hC dX9_letterOf_8 rfl ?_
  refine aw_isub hC dX9_letterOf_9 ?_
  refine aw_imul hC dX9_letterOf_10 ?_
  refine aw_lshr hC dX9_letterOf_11 ?_
  refine aw_ldc2 hC dX9_letterOf_12 (v := 31) tw8_105 ?_
  refine aw_land hC dX9_letterOf_15 ?_
  refine aw_l2i hC dX9_letterOf_16 ?_
  exact aw_iret hC dX9_letterOf_17 rfl rfl
set_option maxHeartbeats 4000000 in
set_option maxRecDepth 100000 in
theorem A_X9_letter (l : Launch) (hl0 : l.stackTraces = false) (D : va_G) (loc : Rf → Nat) (cy : Nat → ClassId) (p1 : Int32) (p2 : Int32) (h : HD) : AM l D loc cy yX9_letter cX9_letter 3 (some .int) 2 62 [.ref (loc (7, 0, 0)), .int p1, .int p2] h ((jX9_letter p1 p2 h).map (fun r => (.inr (some (.int r.1)), r.2))) := by
  refine am_start (y := yX9_letter) (av := [.ref (loc (7, 0, 0)), .int p1, .int p2]) (nL := 3) (h := h) (RF := fun (r : Option (Int32 × HD)) => r.map (fun r => (.inr (some (.int r.1)), r.2))) (x := jX9_letter p1 p2 h) hl0 (by decide +kernel) rfl ?_
  intro p e R s m below meth c A hC
  unfold jX9_letter
  refine aw_aload_n hC dX9_letter_0 rfl ?_
  refine aw_aload_n hC dX9_letter_1 rfl ?_
  refine aw_iload_n hC dX9_letter_2 rfl ?_
  refine aw_bind rfl (fun q1 hq1 => ?_)
  refine aw_cVb hC dX9_letter_3 cv_RX9_325 rfl rm_7_0_0 (am_some (inj := (fun r => (.inr (some (.int (b2i r))), h))) hq1 (A_X9_isCar _ (hC.2.2.2.2.2.2.2.2.2.2.2.2.1) _ _ _ p1 h)) rfl rfl rfl rfl rfl ⟨rfl, rfl⟩ ?_
  refine aw_bind rfl (fun q2 hq2 => ?_)
  refine aw_cVb hC dX9_letter_6 cv_RX9_122 rfl rm_7_0_0 (am_some (inj := (fun r => (.inr (some (.int (b2i r.1))), r.2))) hq2 (A_X9_goes _ (hC.2.2.2.2.2.2.2.2.2.2.2.2.1) _ _ _ q1 h)) rfl rfl rfl rfl rfl ⟨rfl, rfl⟩ ?_
  refine aw_if_ne_b hC dX9_letter_9 (tgt := 14) (by decide) ?_ ?_
  · refine aw_iload_n hC dX9_letter_14 rfl ?_
    refine aw_i2l hC dX9_letter_15 ?_
    refine aw_lconst hC dX9_letter_16 (v := 0) (by decide) ?_
    refine aw_aload_n hC dX9_letter_17 rfl ?_
    refine aw_gfR hC dX9_letter_18 fg_RX9_35 rfl rfl rm_7_0_0 ?_
    refine aw_iload_n hC dX9_letter_21 rfl ?_
    refine aw_guard rfl (fun g3 => ?_)
    refine aw_lald hC dX9_letter_22 rm_7_0_7 rfl rfl g3 rfl ?_
    refine aw_bind rfl (fun q4 hq4 => ?_)
    refine aw_cSi hC dX9_letter_23 cv_RX9_320 (am_some (inj := (fun r => (.inr (some (.int r)), q2.2))) hq4 (A_X9_lettersOf _ (hC.2.2.2.2.2.2.2.2.2.2.2.2.1) _ _ _ (gJ q2.2 (7, 0, 7) p1.toNatClampNeg) q2.2)) rfl rfl rfl rfl rfl ⟨rfl, rfl⟩ ?_
    refine aw_iconst hC dX9_letter_26 (v := 1) (by decide) ?_
    refine aw_isub hC dX9_letter_27 ?_
    refine aw_i2l hC dX9_letter_28 ?_
    refine aw_cSb hC dX9_letter_29 cv_RX9_130 (A_X9_isIn _ (hC.2.2.2.2.2.2.2.2.2.2.2.2.1) _ _ _ p2.toInt64 (0 : Int64) ((q4 - (1 : Int32)).toInt64) q2.2) rfl rfl rfl rfl rfl ⟨rfl, rfl⟩ ?_
    refine aw_if_eq_b hC dX9_letter_32 (tgt := 48) (by decide) ?_ ?_
    · refine aw_iconst hC dX9_letter_48 (v := 0) (by decide) ?_
      exact aw_iret hC dX9_letter_49 rfl rfl
    · refine aw_aload_n hC dX9_letter_35 rfl ?_
      refine aw_gfR hC dX9_letter_36 fg_RX9_35 rfl rfl rm_7_0_0 ?_
      refine aw_iload_n hC dX9_letter_39 rfl ?_
      refine aw_guard rfl (fun g5 => ?_)
      refine aw_lald hC dX9_letter_40 rm_7_0_7 rfl rfl g5 rfl ?_
      refine aw_iload_n hC dX9_letter_41 rfl ?_
      refine aw_bind rfl (fun q6 hq6 => ?_)
      refine aw_cSi hC dX9_letter_42 cv_RX9_328 (am_some (inj := (fun r => (.inr (some (.int r)), q2.2))) hq6 (A_X9_letterOf _ (hC.2.2.2.2.2.2.2.2.2.2.2.2.1) _ _ _ (gJ q2.2 (7, 0, 7) p1.toNatClampNeg) p2 q2.2)) rfl rfl rfl rfl rfl ⟨rfl, rfl⟩ ?_
      refine aw_goto hC dX9_letter_45 (tgt := 49) (by decide) ?_
      exact aw_iret hC dX9_letter_49 rfl rfl
  · refine aw_iconst hC dX9_letter_12 (v := 0) (by decide) ?_
    exact aw_iret hC dX9_letter_13 rfl rfl
set_option maxHeartbeats 4000000 in
set_option maxRecDepth 100000 in
theorem A_X9_car (l : Launch) (hl0 : l.stackTraces = false) (D : va_G) (loc : Rf → Nat) (cy : Nat → ClassId) (p1 : Int32) (p2 : Int32) (h : HD) : AM l D loc cy yX9_car cX9_car 3 (some .int) 4 103 [.ref (loc (7, 0, 0)), .int p1, .int p2] h ((jX9_car p1 p2 h).map (fun r => (.inr (some (.int r.1)), r.2))) := by
  refine am_start (y := yX9_car) (av := [.ref (loc (7, 0, 0)), .int p1, .int p2]) (nL := 3) (h := h) (RF := fun (r : Option (Int32 × HD)) => r.map (fun r => (.inr (some (.int r.1)), r.2))) (x := jX9_car p1 p2 h) hl0 (by decide +kernel) rfl ?_
  intro p e R s m below meth c A hC
  unfold jX9_car
  refine aw_aload_n hC dX9_car_0 rfl ?_
  refine aw_aload_n hC dX9_car_1 rfl ?_
  refine aw_iload_n hC dX9_car_2 rfl ?_
  refine aw_bind rfl (fun q1 hq1 => ?_)
  refine aw_cVb hC dX9_car_3 cv_RX9_325 rfl rm_7_0_0 (am_some (inj := (fun r => (.inr (some (.int (b2i r))), h))) hq1 (A_X9_isCar _ (hC.2.2.2.2.2.2.2.2.2.2.2.2.1) _ _ _ p1 h)) rfl rfl rfl rfl rfl ⟨rfl, rfl⟩ ?_
  refine aw_iload_n hC dX9_car_6 rfl ?_
  refine aw_i2l hC dX9_car_7 ?_
  refine aw_lconst hC dX9_car_8 (v := 0) (by decide) ?_
  refine aw_ldc2 hC dX9_car_9 (v := 5) tw8_110 ?_
  refine aw_cSb hC dX9_car_12 cv_RX9_130 (A_X9_isIn _ (hC.2.2.2.2.2.2.2.2.2.2.2.2.1) _ _ _ p2.toInt64 (0 : Int64) (5 : Int64) h) rfl rfl rfl rfl rfl ⟨rfl, rfl⟩ ?_
  refine aw_bind rfl (fun q2 hq2 => ?_)
  refine aw_cVb hC dX9_car_15 cv_RX9_334 rfl rm_7_0_0 (am_some (inj := (fun r => (.inr (some (.int (b2i r.1))), r.2))) hq2 (A_X9_goesBoth _ (hC.2.2.2.2.2.2.2.2.2.2.2.2.1) _ _ _ q1 (jX9_isIn p2.toInt64 (0 : Int64) (5 : Int64) h) h)) rfl rfl rfl rfl rfl ⟨rfl, rfl⟩ ?_
  refine aw_if_ne_b hC dX9_car_18 (tgt := 23) (by decide) ?_ ?_
  · refine aw_aload_n hC dX9_car_23 rfl ?_
    refine aw_aload_n hC dX9_car_24 rfl ?_
    refine aw_gfR hC dX9_car_25 fg_RX9_20 rfl rfl rm_7_0_0 ?_
    refine aw_iconst hC dX9_car_28 (v := 0) (by decide) ?_
    refine aw_iald hC dX9_car_29 rm_7_0_2 rfl rfl (by decide) (k := 0) (by decide) ?_
    refine aw_bind rfl (fun q3 hq3 => ?_)
    refine aw_cVv hC dX9_car_30 cv_RX9_230 rfl rm_7_0_0 (am_some (inj := (fun r => (.inr (none), r))) hq3 (A_X9_parks _ (hC.2.2.2.2.2.2.2.2.2.2.2.2.1) _ _ _ (gI q2.2 (7, 0, 2) 0) q2.2)) rfl rfl rfl rfl rfl ⟨rfl, rfl⟩ ?_
    refine aw_iload_n hC dX9_car_33 rfl ?_
    refine aw_tabIn hC dX9_car_34 0 (by decide) (by decide) (off := 34) rfl (tgt := 68) (by decide) ?_ (fun n5 => ?_)
    · refine aw_aload_n hC dX9_car_68 rfl ?_
      refine aw_iload_n hC dX9_car_69 rfl ?_
      refine aw_bind rfl (fun q4 hq4 => ?_)
      refine aw_cVi hC dX9_car_70 cv_RX9_221 rfl rm_7_0_0 (am_some (inj := (fun r => (.inr (some (.int r)), q3))) hq4 (A_X9_wishOf _ (hC.2.2.2.2.2.2.2.2.2.2.2.2.1) _ _ _ p1 q3)) rfl rfl rfl rfl rfl ⟨rfl, rfl⟩ ?_
      exact aw_iret hC dX9_car_73 rfl rfl
    refine aw_tabIn hC dX9_car_34 1 (by decide) (by decide) (off := 40) rfl (tgt := 74) (by decide) ?_ (fun n7 => ?_)
    · refine aw_aload_n hC dX9_car_74 rfl ?_
      refine aw_gfR hC dX9_car_75 fg_RX9_57 rfl rfl rm_7_0_0 ?_
      refine aw_iload_n hC dX9_car_78 rfl ?_
      refine aw_guard rfl (fun g6 => ?_)
      refine aw_iald hC dX9_car_79 rm_7_0_14 rfl rfl g6 rfl ?_
      exact aw_iret hC dX9_car_80 rfl rfl
    refine aw_tabIn hC dX9_car_34 2 (by decide) (by decide) (off := 47) rfl (tgt := 81) (by decide) ?_ (fun n9 => ?_)
    · refine aw_aload_n hC dX9_car_81 rfl ?_
      refine aw_gfR hC dX9_car_82 fg_RX9_60 rfl rfl rm_7_0_0 ?_
      refine aw_iload_n hC dX9_car_85 rfl ?_
      refine aw_guard rfl (fun g8 => ?_)
      refine aw_iald hC dX9_car_86 rm_7_0_15 rfl rfl g8 rfl ?_
      exact aw_iret hC dX9_car_87 rfl rfl
    refine aw_tabIn hC dX9_car_34 3 (by decide) (by decide) (off := 54) rfl (tgt := 88) (by decide) ?_ (fun n11 => ?_)
    · refine aw_aload_n hC dX9_car_88 rfl ?_
      refine aw_gfR hC dX9_car_89 fg_RX9_60 rfl rfl rm_7_0_0 ?_
      refine aw_iload_n hC dX9_car_92 rfl ?_
      refine aw_guard rfl (fun g10 => ?_)
      refine aw_iald hC dX9_car_93 rm_7_0_15 rfl rfl g10 rfl ?_
      refine aw_if_ne hC dX9_car_94 (tgt := 101) (by decide) ?_ ?_
      · refine aw_iconst hC dX9_car_101 (v := 0) (by decide) ?_
        refine aw_cSi hC dX9_car_102 cv_RX9_115 (A_X9_truth _ (hC.2.2.2.2.2.2.2.2.2.2.2.2.1) _ _ _ false q3) rfl rfl rfl rfl rfl ⟨rfl, rfl⟩ ?_
        exact aw_iret hC dX9_car_105 rfl rfl
      · refine aw_iconst hC dX9_car_97 (v := 1) (by decide) ?_
        refine aw_goto hC dX9_car_98 (tgt := 102) (by decide) ?_
        refine aw_cSi hC dX9_car_102 cv_RX9_115 (A_X9_truth _ (hC.2.2.2.2.2.2.2.2.2.2.2.2.1) _ _ _ true q3) rfl rfl rfl rfl rfl ⟨rfl, rfl⟩ ?_
        exact aw_iret hC dX9_car_105 rfl rfl
    refine aw_tabIn hC dX9_car_34 4 (by decide) (by decide) (off := 72) rfl (tgt := 106) (by decide) ?_ (fun n13 => ?_)
    · refine aw_aload_n hC dX9_car_106 rfl ?_
      refine aw_iload_n hC dX9_car_107 rfl ?_
      refine aw_bind rfl (fun q12 hq12 => ?_)
      refine aw_cVi hC dX9_car_108 cv_RX9_338 rfl rm_7_0_0 (am_some (inj := (fun r => (.inr (some (.int r)), q3))) hq12 (A_X9_runOf _ (hC.2.2.2.2.2.2.2.2.2.2.2.2.1) _ _ _ p1 q3)) rfl rfl rfl rfl rfl ⟨rfl, rfl⟩ ?_
      exact aw_iret hC dX9_car_111 rfl rfl
    refine aw_tabOut hC dX9_car_34 ((tab_out 5 rfl (lt_s (lt_s (lt_s (lt_s (lt_s lt_0 n5) n7) n9) n11) n13)).imp id (fun z => by omega)) (tgt := 112) (by decide) ?_
    refine aw_aload_n hC dX9_car_112 rfl ?_
    refine aw_iload_n hC dX9_car_113 rfl ?_
    refine aw_aload_n hC dX9_car_114 rfl ?_
    refine aw_bind rfl (fun q14 hq14 => ?_)
    refine aw_cVi hC dX9_car_115 cv_RX9_233 rfl rm_7_0_0 (am_some (inj := (fun r => (.inr (some (.int r)), q3))) hq14 (A_X9_turnNow _ (hC.2.2.2.2.2.2.2.2.2.2.2.2.1) _ _ _ q3)) rfl rfl rfl rfl rfl ⟨rfl, rfl⟩ ?_
    refine aw_bind rfl (fun q15 hq15 => ?_)
    refine aw_cVi hC dX9_car_118 cv_RX9_236 rfl rm_7_0_0 (am_some (inj := (fun r => (.inr (some (.int r)), q3))) hq15 (A_X9_turnedWish _ (hC.2.2.2.2.2.2.2.2.2.2.2.2.1) _ _ _ p1 q14 q3)) rfl rfl rfl rfl rfl ⟨rfl, rfl⟩ ?_
    exact aw_iret hC dX9_car_121 rfl rfl
  · refine aw_iconst hC dX9_car_21 (v := 0) (by decide) ?_
    exact aw_iret hC dX9_car_22 rfl rfl
set_option maxHeartbeats 4000000 in
set_option maxRecDepth 100000 in
theorem A_X9_who (l : Launch) (hl0 : l.stackTraces = false) (D : va_G) (loc : Rf → Nat) (cy : Nat → ClassId) (p1 : Int32) (h : HD) : AM l D loc cy yX9_who cX9_who 2 (some .int) 4 103 [.ref (loc (7, 0, 0)), .int p1] h ((jX9_who p1 h).map (fun r => (.inr (some (.int r.1)), r.2))) := by
  refine am_start (y := yX9_who) (av := [.ref (loc (7, 0, 0)), .int p1]) (nL := 2) (h := h) (RF := fun (r : Option (Int32 × HD)) => r.map (fun r => (.inr (some (.int r.1)), r.2))) (x := jX9_who p1 h) hl0 (by decide +kernel) rfl ?_
  intro p e R s m below meth c A hC
  unfold jX9_who
  refine aw_aload_n hC dX9_who_0 rfl ?_
  refine aw_aload_n hC dX9_who_1 rfl ?_
  refine aw_iload_n hC dX9_who_2 rfl ?_
  refine aw_bind rfl (fun q1 hq1 => ?_)
  refine aw_cVb hC dX9_who_3 cv_RX9_341 rfl rm_7_0_0 (am_some (inj := (fun r => (.inr (some (.int (b2i r))), h))) hq1 (A_X9_isSpot _ (hC.2.2.2.2.2.2.2.2.2.2.2.2.1) _ _ _ p1 h)) rfl rfl rfl rfl rfl ⟨rfl, rfl⟩ ?_
  refine aw_bind rfl (fun q2 hq2 => ?_)
  refine aw_cVb hC dX9_who_6 cv_RX9_122 rfl rm_7_0_0 (am_some (inj := (fun r => (.inr (some (.int (b2i r.1))), r.2))) hq2 (A_X9_goes _ (hC.2.2.2.2.2.2.2.2.2.2.2.2.1) _ _ _ q1 h)) rfl rfl rfl rfl rfl ⟨rfl, rfl⟩ ?_
  refine aw_if_ne_b hC dX9_who_9 (tgt := 14) (by decide) ?_ ?_
  · refine aw_aload_n hC dX9_who_14 rfl ?_
    refine aw_aload_n hC dX9_who_15 rfl ?_
    refine aw_gfR hC dX9_who_16 fg_RX9_20 rfl rfl rm_7_0_0 ?_
    refine aw_iconst hC dX9_who_19 (v := 0) (by decide) ?_
    refine aw_iald hC dX9_who_20 rm_7_0_2 rfl rfl (by decide) (k := 0) (by decide) ?_
    refine aw_bind rfl (fun q3 hq3 => ?_)
    refine aw_cVv hC dX9_who_21 cv_RX9_230 rfl rm_7_0_0 (am_some (inj := (fun r => (.inr (none), r))) hq3 (A_X9_parks _ (hC.2.2.2.2.2.2.2.2.2.2.2.2.1) _ _ _ (gI q2.2 (7, 0, 2) 0) q2.2)) rfl rfl rfl rfl rfl ⟨rfl, rfl⟩ ?_
    refine aw_aload_n hC dX9_who_24 rfl ?_
    refine aw_gfR hC dX9_who_25 fg_RX9_54 rfl rfl rm_7_0_0 ?_
    refine aw_iload_n hC dX9_who_28 rfl ?_
    refine aw_guard rfl (fun g4 => ?_)
    refine aw_iald hC dX9_who_29 rm_7_0_13 rfl rfl g4 rfl ?_
    exact aw_iret hC dX9_who_30 rfl rfl
  · refine aw_iconst hC dX9_who_12 (v := 0) (by decide) ?_
    exact aw_iret hC dX9_who_13 rfl rfl
set_option maxHeartbeats 4000000 in
set_option maxRecDepth 100000 in
theorem A_X9_wanted (l : Launch) (hl0 : l.stackTraces = false) (D : va_G) (loc : Rf → Nat) (cy : Nat → ClassId) (p1 : Int32) (h : HD) : AM l D loc cy yX9_wanted cX9_wanted 2 (some .int) 2 62 [.ref (loc (7, 0, 0)), .int p1] h ((jX9_wanted p1 h).map (fun r => (.inr (some (.int r.1)), r.2))) := by
  refine am_start (y := yX9_wanted) (av := [.ref (loc (7, 0, 0)), .int p1]) (nL := 2) (h := h) (RF := fun (r : Option (Int32 × HD)) => r.map (fun r => (.inr (some (.int r.1)), r.2))) (x := jX9_wanted p1 h) hl0 (by decide +kernel) rfl ?_
  intro p e R s m below meth c A hC
  unfold jX9_wanted
  refine aw_aload_n hC dX9_wanted_0 rfl ?_
  refine aw_aload_n hC dX9_wanted_1 rfl ?_
  refine aw_iload_n hC dX9_wanted_2 rfl ?_
  refine aw_bind rfl (fun q1 hq1 => ?_)
  refine aw_cVb hC dX9_wanted_3 cv_RX9_341 rfl rm_7_0_0 (am_some (inj := (fun r => (.inr (some (.int (b2i r))), h))) hq1 (A_X9_isSpot _ (hC.2.2.2.2.2.2.2.2.2.2.2.2.1) _ _ _ p1 h)) rfl rfl rfl rfl rfl ⟨rfl, rfl⟩ ?_
  refine aw_bind rfl (fun q2 hq2 => ?_)
  refine aw_cVb hC dX9_wanted_6 cv_RX9_122 rfl rm_7_0_0 (am_some (inj := (fun r => (.inr (some (.int (b2i r.1))), r.2))) hq2 (A_X9_goes _ (hC.2.2.2.2.2.2.2.2.2.2.2.2.1) _ _ _ q1 h)) rfl rfl rfl rfl rfl ⟨rfl, rfl⟩ ?_
  refine aw_if_eq_b hC dX9_wanted_9 (tgt := 20) (by decide) ?_ ?_
  · refine aw_iconst hC dX9_wanted_20 (v := 0) (by decide) ?_
    exact aw_iret hC dX9_wanted_21 rfl rfl
  · refine aw_aload_n hC dX9_wanted_12 rfl ?_
    refine aw_iload_n hC dX9_wanted_13 rfl ?_
    refine aw_bind rfl (fun q3 hq3 => ?_)
    refine aw_cVi hC dX9_wanted_14 cv_RX9_248 rfl rm_7_0_0 (am_some (inj := (fun r => (.inr (some (.int r)), q2.2))) hq3 (A_X9_wants _ (hC.2.2.2.2.2.2.2.2.2.2.2.2.1) _ _ _ p1 q2.2)) rfl rfl rfl rfl rfl ⟨rfl, rfl⟩ ?_
    refine aw_goto hC dX9_wanted_17 (tgt := 21) (by decide) ?_
    exact aw_iret hC dX9_wanted_21 rfl rfl
set_option maxHeartbeats 4000000 in
set_option maxRecDepth 100000 in
theorem L_X9_rankOf_4 (p1 : Int32) (h : HD) (hC : Cx p l e R s m args meth c D loc cy A cX9_rankOf 4 (some .int) RX9 1 37 0 0)  : ∀ (n4 : Nat) (x2 : Int32) (x3 : Int32), AW p l e R s m args below meth c D loc cy A 4 (QM below D loc cy A args s) (fun (r : Option Int32) => r.map (fun r => (.inr (some (.int r)), h))) (0, 0) 4 [(0, .ref (loc (7, 0, 0))), (1, .int p1), (2, .int x2), (3, .int x3)] [] h (jX9_rankOf_L4 p1 h n4 x2 x3) := by
  intro n4
  induction n4 with
  | zero => intro x2 x3; exact aw_none rfl
  | succ n4 ih4 =>
    intro x2 x3
    rw [jX9_rankOf_L4]
    refine aw_iload_n hC dX9_rankOf_4 rfl ?_
    refine aw_aload_n hC dX9_rankOf_5 rfl ?_
    refine aw_gfR hC dX9_rankOf_6 fg_RX9_20 rfl rfl rm_7_0_0 ?_
    refine aw_iconst hC dX9_rankOf_9 (v := 0) (by decide) ?_
    refine aw_iald hC dX9_rankOf_10 rm_7_0_2 rfl rfl (by decide) (k := 0) (by decide) ?_
    refine aw_icmp_ge hC dX9_rankOf_11 (tgt := 62) (by decide) ?_ ?_
    · refine aw_iload_n hC dX9_rankOf_62 rfl ?_
      exact aw_iret hC dX9_rankOf_63 rfl rfl
    · refine aw_iload_n hC dX9_rankOf_14 rfl ?_
      refine aw_aload_n hC dX9_rankOf_15 rfl ?_
      refine aw_iload_n hC dX9_rankOf_16 rfl ?_
      refine aw_bind rfl (fun q1 hq1 => ?_)
      refine aw_cVi hC dX9_rankOf_17 cv_RX9_221 rfl rm_7_0_0 (am_some (inj := (fun r => (.inr (some (.int r)), h))) hq1 (A_X9_wishOf _ (hC.2.2.2.2.2.2.2.2.2.2.2.2.1) _ _ _ x3 h)) rfl rfl rfl rfl rfl ⟨rfl, rfl⟩ ?_
      refine aw_aload_n hC dX9_rankOf_20 rfl ?_
      refine aw_iload_n hC dX9_rankOf_21 rfl ?_
      refine aw_bind rfl (fun q2 hq2 => ?_)
      refine aw_cVi hC dX9_rankOf_22 cv_RX9_221 rfl rm_7_0_0 (am_some (inj := (fun r => (.inr (some (.int r)), h))) hq2 (A_X9_wishOf _ (hC.2.2.2.2.2.2.2.2.2.2.2.2.1) _ _ _ p1 h)) rfl rfl rfl rfl rfl ⟨rfl, rfl⟩ ?_
      refine aw_icmp_lt hC dX9_rankOf_25 (tgt := 46) (by decide) ?_ ?_
      · refine aw_iconst hC dX9_rankOf_46 (v := 1) (by decide) ?_
        refine aw_goto hC dX9_rankOf_47 (tgt := 51) (by decide) ?_
        refine aw_cSi hC dX9_rankOf_51 cv_RX9_115 (A_X9_truth _ (hC.2.2.2.2.2.2.2.2.2.2.2.2.1) _ _ _ true h) rfl rfl rfl rfl rfl ⟨rfl, rfl⟩ ?_
        refine aw_iadd hC dX9_rankOf_54 ?_
        refine aw_istore_n hC dX9_rankOf_55 (by decide) ?_
        refine aw_iinc hC dX9_rankOf_56 rfl (v := x3 + 1) (by first | rfl | decide) (by decide) ?_
        refine aw_goto hC dX9_rankOf_59 (tgt := 4) (by decide) ?_
        refine aw_sub [0, 1, 2, 3] ?_
        exact ih4 (x2 + (jX9_truth true h)) (x3 + 1)
      · refine aw_aload_n hC dX9_rankOf_28 rfl ?_
        refine aw_iload_n hC dX9_rankOf_29 rfl ?_
        refine aw_bind rfl (fun q3 hq3 => ?_)
        refine aw_cVi hC dX9_rankOf_30 cv_RX9_221 rfl rm_7_0_0 (am_some (inj := (fun r => (.inr (some (.int r)), h))) hq3 (A_X9_wishOf _ (hC.2.2.2.2.2.2.2.2.2.2.2.2.1) _ _ _ x3 h)) rfl rfl rfl rfl rfl ⟨rfl, rfl⟩ ?_
        refine aw_aload_n hC dX9_rankOf_33 rfl ?_
        refine aw_iload_n hC dX9_rankOf_34 rfl ?_
        refine aw_bind rfl (fun q4 hq4 => ?_)
        refine aw_cVi hC dX9_rankOf_35 cv_RX9_221 rfl rm_7_0_0 (am_some (inj := (fun r => (.inr (some (.int r)), h))) hq4 (A_X9_wishOf _ (hC.2.2.2.2.2.2.2.2.2.2.2.2.1) _ _ _ p1 h)) rfl rfl rfl rfl rfl ⟨rfl, rfl⟩ ?_
        refine aw_icmp_ne hC dX9_rankOf_38 (tgt := 50) (by decide) ?_ ?_
        · refine aw_iconst hC dX9_rankOf_50 (v := 0) (by decide) ?_
          refine aw_cSi hC dX9_rankOf_51 cv_RX9_115 (A_X9_truth _ (hC.2.2.2.2.2.2.2.2.2.2.2.2.1) _ _ _ false h) rfl rfl rfl rfl rfl ⟨rfl, rfl⟩ ?_
          refine aw_iadd hC dX9_rankOf_54 ?_
          refine aw_istore_n hC dX9_rankOf_55 (by decide) ?_
          refine aw_iinc hC dX9_rankOf_56 rfl (v := x3 + 1) (by first | rfl | decide) (by decide) ?_
          refine aw_goto hC dX9_rankOf_59 (tgt := 4) (by decide) ?_
          refine aw_sub [0, 1, 2, 3] ?_
          exact ih4 (x2 + (jX9_truth false h)) (x3 + 1)
        · refine aw_iload_n hC dX9_rankOf_41 rfl ?_
          refine aw_iload_n hC dX9_rankOf_42 rfl ?_
          refine aw_icmp_ge hC dX9_rankOf_43 (tgt := 50) (by decide) ?_ ?_
          · refine aw_iconst hC dX9_rankOf_50 (v := 0) (by decide) ?_
            refine aw_cSi hC dX9_rankOf_51 cv_RX9_115 (A_X9_truth _ (hC.2.2.2.2.2.2.2.2.2.2.2.2.1) _ _ _ false h) rfl rfl rfl rfl rfl ⟨rfl, rfl⟩ ?_
            refine aw_iadd hC dX9_rankOf_54 ?_
            refine aw_istore_n hC dX9_rankOf_55 (by decide) ?_
            refine aw_iinc hC dX9_rankOf_56 rfl (v := x3 + 1) (by first | rfl | decide) (by decide) ?_
            refine aw_goto hC dX9_rankOf_59 (tgt := 4) (by decide) ?_
            refine aw_sub [0, 1, 2, 3] ?_
            exact ih4 (x2 + (jX9_truth false h)) (x3 + 1)
          · refine aw_iconst hC dX9_rankOf_46 (v := 1) (by decide) ?_
            refine aw_goto hC dX9_rankOf_47 (tgt := 51) (by decide) ?_
            refine aw_cSi hC dX9_rankOf_51 cv_RX9_115 (A_X9_truth _ (hC.2.2.2.2.2.2.2.2.2.2.2.2.1) _ _ _ true h) rfl rfl rfl rfl rfl ⟨rfl, rfl⟩ ?_
            refine aw_iadd hC dX9_rankOf_54 ?_
            refine aw_istore_n hC dX9_rankOf_55 (by decide) ?_
            refine aw_iinc hC dX9_rankOf_56 rfl (v := x3 + 1) (by first | rfl | decide) (by decide) ?_
            refine aw_goto hC dX9_rankOf_59 (tgt := 4) (by decide) ?_
            refine aw_sub [0, 1, 2, 3] ?_
            exact ih4 (x2 + (jX9_truth true h)) (x3 + 1)
set_option maxHeartbeats 4000000 in
set_option maxRecDepth 100000 in
theorem A_X9_rankOf (l : Launch) (hl0 : l.stackTraces = false) (D : va_G) (loc : Rf → Nat) (cy : Nat → ClassId) (p1 : Int32) (h : HD) : AM l D loc cy yX9_rankOf cX9_rankOf 4 (some .int) 1 37 [.ref (loc (7, 0, 0)), .int p1] h ((jX9_rankOf p1 h).map (fun r => (.inr (some (.int r)), h))) := by
  refine am_start (y := yX9_rankOf) (av := [.ref (loc (7, 0, 0)), .int p1]) (nL := 4) (h := h) (RF := fun (r : Option Int32) => r.map (fun r => (.inr (some (.int r)), h))) (x := jX9_rankOf p1 h) hl0 (by decide +kernel) rfl ?_
  intro p e R s m below meth c A hC
  unfold jX9_rankOf
  refine aw_iconst hC dX9_rankOf_0 (v := 0) (by decide) ?_
  refine aw_istore_n hC dX9_rankOf_1 (by decide) ?_
  refine aw_iconst hC dX9_rankOf_2 (v := 0) (by decide) ?_
  refine aw_istore_n hC dX9_rankOf_3 (by decide) ?_
  refine aw_sub [0, 1, 2, 3] ?_
  exact L_X9_rankOf_4 p1 h  hC FU (0 : Int32) (0 : Int32)
set_option maxHeartbeats 4000000 in
set_option maxRecDepth 100000 in
theorem L_X9_ranked_7 (p1 : Int32) (h : HD) (hC : Cx p l e R s m args meth c D loc cy A cX9_ranked 3 (some .int) RX9 2 60 0 0)  : ∀ (n7 : Nat) (x2 : Int32), AW p l e R s m args below meth c D loc cy A 3 (QM below D loc cy A args s) (fun (r : Option (Int32 × HD)) => r.map (fun r => (.inr (some (.int r.1)), r.2))) (0, 0) 7 [(0, .ref (loc (7, 0, 0))), (1, .int p1), (2, .int x2)] [] h (jX9_ranked_L7 p1 h n7 x2) := by
  intro n7
  induction n7 with
  | zero => intro x2; exact aw_none rfl
  | succ n7 ih7 =>
    intro x2
    rw [jX9_ranked_L7]
    refine aw_iload_n hC dX9_ranked_7 rfl ?_
    refine aw_aload_n hC dX9_ranked_8 rfl ?_
    refine aw_gfR hC dX9_ranked_9 fg_RX9_20 rfl rfl rm_7_0_0 ?_
    refine aw_iconst hC dX9_ranked_12 (v := 0) (by decide) ?_
    refine aw_iald hC dX9_ranked_13 rm_7_0_2 rfl rfl (by decide) (k := 0) (by decide) ?_
    refine aw_icmp_ge hC dX9_ranked_14 (tgt := 34) (by decide) ?_ ?_
    · refine aw_iconst hC dX9_ranked_34 (v := -1) (by decide) ?_
      exact aw_iret hC dX9_ranked_35 rfl rfl
    · refine aw_aload_n hC dX9_ranked_17 rfl ?_
      refine aw_iload_n hC dX9_ranked_18 rfl ?_
      refine aw_bind rfl (fun q2 hq2 => ?_)
      refine aw_cVi hC dX9_ranked_19 cv_RX9_344 rfl rm_7_0_0 (am_some (inj := (fun r => (.inr (some (.int r)), h))) hq2 (A_X9_rankOf _ (hC.2.2.2.2.2.2.2.2.2.2.2.2.1) _ _ _ x2 h)) rfl rfl rfl rfl rfl ⟨rfl, rfl⟩ ?_
      refine aw_iload_n hC dX9_ranked_22 rfl ?_
      refine aw_icmp_ne hC dX9_ranked_23 (tgt := 28) (by decide) ?_ ?_
      · refine aw_iinc hC dX9_ranked_28 rfl (v := x2 + 1) (by first | rfl | decide) (by decide) ?_
        refine aw_goto hC dX9_ranked_31 (tgt := 7) (by decide) ?_
        refine aw_sub [0, 1, 2] ?_
        exact ih7 (x2 + 1)
      · refine aw_iload_n hC dX9_ranked_26 rfl ?_
        exact aw_iret hC dX9_ranked_27 rfl rfl
set_option maxHeartbeats 4000000 in
set_option maxRecDepth 100000 in
theorem A_X9_ranked (l : Launch) (hl0 : l.stackTraces = false) (D : va_G) (loc : Rf → Nat) (cy : Nat → ClassId) (p1 : Int32) (h : HD) : AM l D loc cy yX9_ranked cX9_ranked 3 (some .int) 2 60 [.ref (loc (7, 0, 0)), .int p1] h ((jX9_ranked p1 h).map (fun r => (.inr (some (.int r.1)), r.2))) := by
  refine am_start (y := yX9_ranked) (av := [.ref (loc (7, 0, 0)), .int p1]) (nL := 3) (h := h) (RF := fun (r : Option (Int32 × HD)) => r.map (fun r => (.inr (some (.int r.1)), r.2))) (x := jX9_ranked p1 h) hl0 (by decide +kernel) rfl ?_
  intro p e R s m below meth c A hC
  unfold jX9_ranked
  refine aw_aload_n hC dX9_ranked_0 rfl ?_
  refine aw_iconst hC dX9_ranked_1 (v := 0) (by decide) ?_
  refine aw_pfI hC dX9_ranked_2 fg_RX9_112 fp_7_0 rfl rm_7_0_0 (fun h1 => ?_)
  refine aw_iconst hC dX9_ranked_5 (v := 0) (by decide) ?_
  refine aw_istore_n hC dX9_ranked_6 (by decide) ?_
  refine aw_sub [0, 1, 2] ?_
  exact L_X9_ranked_7 p1 h1  hC FU (0 : Int32)
set_option maxHeartbeats 4000000 in
set_option maxRecDepth 100000 in
theorem A_X9_spotByLine (l : Launch) (hl0 : l.stackTraces = false) (D : va_G) (loc : Rf → Nat) (cy : Nat → ClassId) (p1 : Int32) (h : HD) : AM l D loc cy yX9_spotByLine cX9_spotByLine 2 (some .int) 5 126 [.ref (loc (7, 0, 0)), .int p1] h ((jX9_spotByLine p1 h).map (fun r => (.inr (some (.int r.1)), r.2))) := by
  refine am_start (y := yX9_spotByLine) (av := [.ref (loc (7, 0, 0)), .int p1]) (nL := 2) (h := h) (RF := fun (r : Option (Int32 × HD)) => r.map (fun r => (.inr (some (.int r.1)), r.2))) (x := jX9_spotByLine p1 h) hl0 (by decide +kernel) rfl ?_
  intro p e R s m below meth c A hC
  unfold jX9_spotByLine
  refine aw_aload_n hC dX9_spotByLine_0 rfl ?_
  refine aw_aload_n hC dX9_spotByLine_1 rfl ?_
  refine aw_iload_n hC dX9_spotByLine_2 rfl ?_
  refine aw_bind rfl (fun q1 hq1 => ?_)
  refine aw_cVb hC dX9_spotByLine_3 cv_RX9_325 rfl rm_7_0_0 (am_some (inj := (fun r => (.inr (some (.int (b2i r))), h))) hq1 (A_X9_isCar _ (hC.2.2.2.2.2.2.2.2.2.2.2.2.1) _ _ _ p1 h)) rfl rfl rfl rfl rfl ⟨rfl, rfl⟩ ?_
  refine aw_bind rfl (fun q2 hq2 => ?_)
  refine aw_cVb hC dX9_spotByLine_6 cv_RX9_122 rfl rm_7_0_0 (am_some (inj := (fun r => (.inr (some (.int (b2i r.1))), r.2))) hq2 (A_X9_goes _ (hC.2.2.2.2.2.2.2.2.2.2.2.2.1) _ _ _ q1 h)) rfl rfl rfl rfl rfl ⟨rfl, rfl⟩ ?_
  refine aw_if_ne_b hC dX9_spotByLine_9 (tgt := 14) (by decide) ?_ ?_
  · refine aw_aload_n hC dX9_spotByLine_14 rfl ?_
    refine aw_bind rfl (fun q3 hq3 => ?_)
    refine aw_cVv hC dX9_spotByLine_15 cv_RX9_347 rfl rm_7_0_0 (am_some (inj := (fun r => (.inr (none), r))) hq3 (A_X9_parksByLine _ (hC.2.2.2.2.2.2.2.2.2.2.2.2.1) _ _ _ q2.2)) rfl rfl rfl rfl rfl ⟨rfl, rfl⟩ ?_
    refine aw_aload_n hC dX9_spotByLine_18 rfl ?_
    refine aw_gfR hC dX9_spotByLine_19 fg_RX9_66 rfl rfl rm_7_0_0 ?_
    refine aw_iload_n hC dX9_spotByLine_22 rfl ?_
    refine aw_guard rfl (fun g4 => ?_)
    refine aw_iald hC dX9_spotByLine_23 rm_7_0_17 rfl rfl g4 rfl ?_
    exact aw_iret hC dX9_spotByLine_24 rfl rfl
  · refine aw_iconst hC dX9_spotByLine_12 (v := 0) (by decide) ?_
    exact aw_iret hC dX9_spotByLine_13 rfl rfl
set_option maxHeartbeats 4000000 in
set_option maxRecDepth 100000 in
theorem L_X9_areaByLine_25 (x1 : Int32) (h : HD) (hC : Cx p l e R s m args meth c D loc cy A cX9_areaByLine 4 (some .int) RX9 3 80 0 0)  : ∀ (n25 : Nat) (x2 : Int32) (x3 : Int32), AW p l e R s m args below meth c D loc cy A 4 (QM below D loc cy A args s) (fun (r : Option Int32) => r.map (fun r => (.inr (some (.int r)), h))) (0, 0) 25 [(0, .ref (loc (7, 0, 0))), (1, .int x1), (2, .int x2), (3, .int x3)] [] h (jX9_areaByLine_L25 x1 h n25 x2 x3) := by
  intro n25
  induction n25 with
  | zero => intro x2 x3; exact aw_none rfl
  | succ n25 ih25 =>
    intro x2 x3
    rw [jX9_areaByLine_L25]
    refine aw_iload_n hC dX9_areaByLine_25 rfl ?_
    refine aw_aload_n hC dX9_areaByLine_26 rfl ?_
    refine aw_gfR hC dX9_areaByLine_27 fg_RX9_20 rfl rfl rm_7_0_0 ?_
    refine aw_iconst hC dX9_areaByLine_30 (v := 0) (by decide) ?_
    refine aw_iald hC dX9_areaByLine_31 rm_7_0_2 rfl rfl (by decide) (k := 0) (by decide) ?_
    refine aw_icmp_ge hC dX9_areaByLine_32 (tgt := 50) (by decide) ?_ ?_
    · refine aw_iload_n hC dX9_areaByLine_50 rfl ?_
      exact aw_iret hC dX9_areaByLine_51 rfl rfl
    · refine aw_iload_n hC dX9_areaByLine_35 rfl ?_
      refine aw_aload_n hC dX9_areaByLine_36 rfl ?_
      refine aw_iload_n hC dX9_areaByLine_37 rfl ?_
      refine aw_iload_n hC dX9_areaByLine_38 rfl ?_
      refine aw_bind rfl (fun q2 hq2 => ?_)
      refine aw_cVi hC dX9_areaByLine_39 cv_RX9_236 rfl rm_7_0_0 (am_some (inj := (fun r => (.inr (some (.int r)), h))) hq2 (A_X9_turnedWish _ (hC.2.2.2.2.2.2.2.2.2.2.2.2.1) _ _ _ x3 x1 h)) rfl rfl rfl rfl rfl ⟨rfl, rfl⟩ ?_
      refine aw_isub hC dX9_areaByLine_42 ?_
      refine aw_istore_n hC dX9_areaByLine_43 (by decide) ?_
      refine aw_iinc hC dX9_areaByLine_44 rfl (v := x3 + 1) (by first | rfl | decide) (by decide) ?_
      refine aw_goto hC dX9_areaByLine_47 (tgt := 25) (by decide) ?_
      refine aw_sub [0, 1, 2, 3] ?_
      exact ih25 (x2 - q2) (x3 + 1)
set_option maxHeartbeats 4000000 in
set_option maxRecDepth 100000 in
theorem A_X9_areaByLine (l : Launch) (hl0 : l.stackTraces = false) (D : va_G) (loc : Rf → Nat) (cy : Nat → ClassId)  (h : HD) : AM l D loc cy yX9_areaByLine cX9_areaByLine 4 (some .int) 3 80 [.ref (loc (7, 0, 0))] h ((jX9_areaByLine h).map (fun r => (.inr (some (.int r)), h))) := by
  refine am_start (y := yX9_areaByLine) (av := [.ref (loc (7, 0, 0))]) (nL := 4) (h := h) (RF := fun (r : Option Int32) => r.map (fun r => (.inr (some (.int r)), h))) (x := jX9_areaByLine h) hl0 (by decide +kernel) rfl ?_
  intro p e R s m below meth c A hC
  unfold jX9_areaByLine
  refine aw_aload_n hC dX9_areaByLine_0 rfl ?_
  refine aw_bind rfl (fun q1 hq1 => ?_)
  refine aw_cVi hC dX9_areaByLine_1 cv_RX9_233 rfl rm_7_0_0 (am_some (inj := (fun r => (.inr (some (.int r)), h))) hq1 (A_X9_turnNow _ (hC.2.2.2.2.2.2.2.2.2.2.2.2.1) _ _ _ h)) rfl rfl rfl rfl rfl ⟨rfl, rfl⟩ ?_
  refine aw_istore_n hC dX9_areaByLine_4 (by decide) ?_
  refine aw_aload_n hC dX9_areaByLine_5 rfl ?_
  refine aw_gfR hC dX9_areaByLine_6 fg_RX9_20 rfl rfl rm_7_0_0 ?_
  refine aw_iconst hC dX9_areaByLine_9 (v := 0) (by decide) ?_
  refine aw_iald hC dX9_areaByLine_10 rm_7_0_2 rfl rfl (by decide) (k := 0) (by decide) ?_
  refine aw_aload_n hC dX9_areaByLine_11 rfl ?_
  refine aw_gfR hC dX9_areaByLine_12 fg_RX9_20 rfl rfl rm_7_0_0 ?_
  refine aw_iconst hC dX9_areaByLine_15 (v := 0) (by decide) ?_
  refine aw_iald hC dX9_areaByLine_16 rm_7_0_2 rfl rfl (by decide) (k := 0) (by decide) ?_
  refine aw_iconst hC dX9_areaByLine_17 (v := 1) (by decide) ?_
  refine aw_isub hC dX9_areaByLine_18 ?_
  refine aw_imul hC dX9_areaByLine_19 ?_
  refine aw_iconst hC dX9_areaByLine_20 (v := 2) (by decide) ?_
  refine aw_idiv hC dX9_areaByLine_21 (by decide) ?_
  refine aw_istore_n hC dX9_areaByLine_22 (by decide) ?_
  refine aw_iconst hC dX9_areaByLine_23 (v := 0) (by decide) ?_
  refine aw_istore_n hC dX9_areaByLine_24 (by decide) ?_
  refine aw_sub [0, 1, 2, 3] ?_
  exact L_X9_areaByLine_25 q1 h  hC FU (((gI h (7, 0, 2) 0) * ((gI h (7, 0, 2) 0) - (1 : Int32))) / (2 : Int32)) (0 : Int32)
set_option maxHeartbeats 4000000 in
set_option maxRecDepth 100000 in
theorem L_X9_gap_31 (h : HD) (hC : Cx p l e R s m args meth c D loc cy A cX9_gap 3 (some .int) RX9 5 126 0 0)  : ∀ (n31 : Nat) (x1 : Int32) (x2 : Int32), AW p l e R s m args below meth c D loc cy A 3 (QM below D loc cy A args s) (fun (r : Option (Int32 × HD)) => r.map (fun r => (.inr (some (.int r.1)), r.2))) (0, 0) 31 [(0, .ref (loc (7, 0, 0))), (1, .int x1), (2, .int x2)] [] h (jX9_gap_L31 h n31 x1 x2) := by
  intro n31
  induction n31 with
  | zero => intro x1 x2; exact aw_none rfl
  | succ n31 ih31 =>
    intro x1 x2
    rw [jX9_gap_L31]
    refine aw_iload_n hC dX9_gap_31 rfl ?_
    refine aw_aload_n hC dX9_gap_32 rfl ?_
    refine aw_gfR hC dX9_gap_33 fg_RX9_20 rfl rfl rm_7_0_0 ?_
    refine aw_iconst hC dX9_gap_36 (v := 0) (by decide) ?_
    refine aw_iald hC dX9_gap_37 rm_7_0_2 rfl rfl (by decide) (k := 0) (by decide) ?_
    refine aw_icmp_ge hC dX9_gap_38 (tgt := 73) (by decide) ?_ ?_
    · refine aw_iload_n hC dX9_gap_73 rfl ?_
      exact aw_iret hC dX9_gap_74 rfl rfl
    · refine aw_iload_n hC dX9_gap_41 rfl ?_
      refine aw_aload_n hC dX9_gap_42 rfl ?_
      refine aw_gfR hC dX9_gap_43 fg_RX9_57 rfl rfl rm_7_0_0 ?_
      refine aw_iload_n hC dX9_gap_46 rfl ?_
      refine aw_guard rfl (fun g5 => ?_)
      refine aw_iald hC dX9_gap_47 rm_7_0_14 rfl rfl g5 rfl ?_
      refine aw_aload_n hC dX9_gap_48 rfl ?_
      refine aw_gfR hC dX9_gap_49 fg_RX9_66 rfl rfl rm_7_0_0 ?_
      refine aw_iload_n hC dX9_gap_52 rfl ?_
      refine aw_guard rfl (fun g6 => ?_)
      refine aw_iald hC dX9_gap_53 rm_7_0_17 rfl rfl g6 rfl ?_
      refine aw_icmp_eq hC dX9_gap_54 (tgt := 61) (by decide) ?_ ?_
      · refine aw_iconst hC dX9_gap_61 (v := 0) (by decide) ?_
        refine aw_cSi hC dX9_gap_62 cv_RX9_115 (A_X9_truth _ (hC.2.2.2.2.2.2.2.2.2.2.2.2.1) _ _ _ false h) rfl rfl rfl rfl rfl ⟨rfl, rfl⟩ ?_
        refine aw_iadd hC dX9_gap_65 ?_
        refine aw_istore_n hC dX9_gap_66 (by decide) ?_
        refine aw_iinc hC dX9_gap_67 rfl (v := x2 + 1) (by first | rfl | decide) (by decide) ?_
        refine aw_goto hC dX9_gap_70 (tgt := 31) (by decide) ?_
        refine aw_sub [0, 1, 2] ?_
        exact ih31 (x1 + (jX9_truth false h)) (x2 + 1)
      · refine aw_iconst hC dX9_gap_57 (v := 1) (by decide) ?_
        refine aw_goto hC dX9_gap_58 (tgt := 62) (by decide) ?_
        refine aw_cSi hC dX9_gap_62 cv_RX9_115 (A_X9_truth _ (hC.2.2.2.2.2.2.2.2.2.2.2.2.1) _ _ _ true h) rfl rfl rfl rfl rfl ⟨rfl, rfl⟩ ?_
        refine aw_iadd hC dX9_gap_65 ?_
        refine aw_istore_n hC dX9_gap_66 (by decide) ?_
        refine aw_iinc hC dX9_gap_67 rfl (v := x2 + 1) (by first | rfl | decide) (by decide) ?_
        refine aw_goto hC dX9_gap_70 (tgt := 31) (by decide) ?_
        refine aw_sub [0, 1, 2] ?_
        exact ih31 (x1 + (jX9_truth true h)) (x2 + 1)
set_option maxHeartbeats 4000000 in
set_option maxRecDepth 100000 in
theorem A_X9_gap (l : Launch) (hl0 : l.stackTraces = false) (D : va_G) (loc : Rf → Nat) (cy : Nat → ClassId)  (h : HD) : AM l D loc cy yX9_gap cX9_gap 3 (some .int) 5 126 [.ref (loc (7, 0, 0))] h ((jX9_gap h).map (fun r => (.inr (some (.int r.1)), r.2))) := by
  refine am_start (y := yX9_gap) (av := [.ref (loc (7, 0, 0))]) (nL := 3) (h := h) (RF := fun (r : Option (Int32 × HD)) => r.map (fun r => (.inr (some (.int r.1)), r.2))) (x := jX9_gap h) hl0 (by decide +kernel) rfl ?_
  intro p e R s m below meth c A hC
  unfold jX9_gap
  refine aw_aload_n hC dX9_gap_0 rfl ?_
  refine aw_iconst hC dX9_gap_1 (v := 0) (by decide) ?_
  refine aw_pfI hC dX9_gap_2 fg_RX9_112 fp_7_0 rfl rm_7_0_0 (fun h1 => ?_)
  refine aw_aload_n hC dX9_gap_5 rfl ?_
  refine aw_bind rfl (fun q2 hq2 => ?_)
  refine aw_cVv hC dX9_gap_6 cv_RX9_347 rfl rm_7_0_0 (am_some (inj := (fun r => (.inr (none), r))) hq2 (A_X9_parksByLine _ (hC.2.2.2.2.2.2.2.2.2.2.2.2.1) _ _ _ h1)) rfl rfl rfl rfl rfl ⟨rfl, rfl⟩ ?_
  refine aw_aload_n hC dX9_gap_9 rfl ?_
  refine aw_bind rfl (fun q3 hq3 => ?_)
  refine aw_cVi hC dX9_gap_10 cv_RX9_300 rfl rm_7_0_0 (am_some (inj := (fun r => (.inr (some (.int r)), q2))) hq3 (A_X9_area _ (hC.2.2.2.2.2.2.2.2.2.2.2.2.1) _ _ _ q2)) rfl rfl rfl rfl rfl ⟨rfl, rfl⟩ ?_
  refine aw_aload_n hC dX9_gap_13 rfl ?_
  refine aw_bind rfl (fun q4 hq4 => ?_)
  refine aw_cVi hC dX9_gap_14 cv_RX9_350 rfl rm_7_0_0 (am_some (inj := (fun r => (.inr (some (.int r)), q2))) hq4 (A_X9_areaByLine _ (hC.2.2.2.2.2.2.2.2.2.2.2.2.1) _ _ _ q2)) rfl rfl rfl rfl rfl ⟨rfl, rfl⟩ ?_
  refine aw_icmp_eq hC dX9_gap_17 (tgt := 24) (by decide) ?_ ?_
  · refine aw_iconst hC dX9_gap_24 (v := 0) (by decide) ?_
    refine aw_cSi hC dX9_gap_25 cv_RX9_115 (A_X9_truth _ (hC.2.2.2.2.2.2.2.2.2.2.2.2.1) _ _ _ false q2) rfl rfl rfl rfl rfl ⟨rfl, rfl⟩ ?_
    refine aw_istore_n hC dX9_gap_28 (by decide) ?_
    refine aw_iconst hC dX9_gap_29 (v := 0) (by decide) ?_
    refine aw_istore_n hC dX9_gap_30 (by decide) ?_
    refine aw_sub [0, 1, 2] ?_
    exact L_X9_gap_31 q2  hC FU (jX9_truth false q2) (0 : Int32)
  · refine aw_iconst hC dX9_gap_20 (v := 1) (by decide) ?_
    refine aw_goto hC dX9_gap_21 (tgt := 25) (by decide) ?_
    refine aw_cSi hC dX9_gap_25 cv_RX9_115 (A_X9_truth _ (hC.2.2.2.2.2.2.2.2.2.2.2.2.1) _ _ _ true q2) rfl rfl rfl rfl rfl ⟨rfl, rfl⟩ ?_
    refine aw_istore_n hC dX9_gap_28 (by decide) ?_
    refine aw_iconst hC dX9_gap_29 (v := 0) (by decide) ?_
    refine aw_istore_n hC dX9_gap_30 (by decide) ?_
    refine aw_sub [0, 1, 2] ?_
    exact L_X9_gap_31 q2  hC FU (jX9_truth true q2) (0 : Int32)
set_option maxHeartbeats 4000000 in
set_option maxRecDepth 100000 in
theorem A_X9_isParking (l : Launch) (hl0 : l.stackTraces = false) (D : va_G) (loc : Rf → Nat) (cy : Nat → ClassId)  (h : HD) : AM l D loc cy yX9_isParking cX9_isParking 1 (some .boolean) 4 103 [.ref (loc (7, 0, 0))] h ((jX9_isParking h).map (fun r => (.inr (some (.int (b2i r.1))), r.2))) := by
  refine am_start (y := yX9_isParking) (av := [.ref (loc (7, 0, 0))]) (nL := 1) (h := h) (RF := fun (r : Option (Bool × HD)) => r.map (fun r => (.inr (some (.int (b2i r.1))), r.2))) (x := jX9_isParking h) hl0 (by decide +kernel) rfl ?_
  intro p e R s m below meth c A hC
  unfold jX9_isParking
  refine aw_aload_n hC dX9_isParking_0 rfl ?_
  refine aw_iconst hC dX9_isParking_1 (v := 0) (by decide) ?_
  refine aw_pfI hC dX9_isParking_2 fg_RX9_112 fp_7_0 rfl rm_7_0_0 (fun h1 => ?_)
  refine aw_aload_n hC dX9_isParking_5 rfl ?_
  refine aw_aload_n hC dX9_isParking_6 rfl ?_
  refine aw_gfR hC dX9_isParking_7 fg_RX9_20 rfl rfl rm_7_0_0 ?_
  refine aw_iconst hC dX9_isParking_10 (v := 0) (by decide) ?_
  refine aw_iald hC dX9_isParking_11 rm_7_0_2 rfl rfl (by decide) (k := 0) (by decide) ?_
  refine aw_bind rfl (fun q2 hq2 => ?_)
  refine aw_cVv hC dX9_isParking_12 cv_RX9_230 rfl rm_7_0_0 (am_some (inj := (fun r => (.inr (none), r))) hq2 (A_X9_parks _ (hC.2.2.2.2.2.2.2.2.2.2.2.2.1) _ _ _ (gI h1 (7, 0, 2) 0) h1)) rfl rfl rfl rfl rfl ⟨rfl, rfl⟩ ?_
  refine aw_aload_n hC dX9_isParking_15 rfl ?_
  refine aw_bind rfl (fun q3 hq3 => ?_)
  refine aw_cVi hC dX9_isParking_16 cv_RX9_227 rfl rm_7_0_0 (am_some (inj := (fun r => (.inr (some (.int r)), q2))) hq3 (A_X9_gapSpot _ (hC.2.2.2.2.2.2.2.2.2.2.2.2.1) _ _ _ q2)) rfl rfl rfl rfl rfl ⟨rfl, rfl⟩ ?_
  refine aw_aload_n hC dX9_isParking_19 rfl ?_
  refine aw_gfR hC dX9_isParking_20 fg_RX9_20 rfl rfl rm_7_0_0 ?_
  refine aw_iconst hC dX9_isParking_23 (v := 0) (by decide) ?_
  refine aw_iald hC dX9_isParking_24 rm_7_0_2 rfl rfl (by decide) (k := 0) (by decide) ?_
  refine aw_icmp_ne hC dX9_isParking_25 (tgt := 32) (by decide) ?_ ?_
  · refine aw_iconst hC dX9_isParking_32 (v := 0) (by decide) ?_
    exact aw_zret hC dX9_isParking_33 rfl (show _ = b2i false from rfl) rfl
  · refine aw_iconst hC dX9_isParking_28 (v := 1) (by decide) ?_
    refine aw_goto hC dX9_isParking_29 (tgt := 33) (by decide) ?_
    exact aw_zret hC dX9_isParking_33 rfl (show _ = b2i true from rfl) rfl
set_option maxHeartbeats 4000000 in
set_option maxRecDepth 100000 in
theorem L_X9_breakAt_19 (p1 : Int32) (h : HD) (hC : Cx p l e R s m args meth c D loc cy A cX9_breakAt 4 (some .int) RX9 4 104 0 0)  : ∀ (n19 : Nat) (x2 : Int32) (x3 : Int32), AW p l e R s m args below meth c D loc cy A 4 (QM below D loc cy A args s) (fun (r : Option (Int32 × HD)) => r.map (fun r => (.inr (some (.int r.1)), r.2))) (0, 0) 19 [(0, .ref (loc (7, 0, 0))), (2, .int x2), (3, .int x3)] [] h (jX9_breakAt_L19 p1 h n19 x2 x3) := by
  intro n19
  induction n19 with
  | zero => intro x2 x3; exact aw_none rfl
  | succ n19 ih19 =>
    intro x2 x3
    rw [jX9_breakAt_L19]
    refine aw_iload_n hC dX9_breakAt_19 rfl ?_
    refine aw_aload_n hC dX9_breakAt_20 rfl ?_
    refine aw_gfR hC dX9_breakAt_21 fg_RX9_20 rfl rfl rm_7_0_0 ?_
    refine aw_iconst hC dX9_breakAt_24 (v := 0) (by decide) ?_
    refine aw_iald hC dX9_breakAt_25 rm_7_0_2 rfl rfl (by decide) (k := 0) (by decide) ?_
    refine aw_icmp_gt hC dX9_breakAt_26 (tgt := 55) (by decide) ?_ ?_
    · refine aw_iconst hC dX9_breakAt_55 (v := -1) (by decide) ?_
      exact aw_iret hC dX9_breakAt_56 rfl rfl
    · refine aw_aload_n hC dX9_breakAt_29 rfl ?_
      refine aw_iload_n hC dX9_breakAt_30 rfl ?_
      refine aw_bind rfl (fun q3 hq3 => ?_)
      refine aw_cVb hC dX9_breakAt_31 cv_RX9_245 rfl rm_7_0_0 (am_some (inj := (fun r => (.inr (some (.int (b2i r))), h))) hq3 (A_X9_isBreak _ (hC.2.2.2.2.2.2.2.2.2.2.2.2.1) _ _ _ x3 h)) rfl rfl rfl rfl rfl ⟨rfl, rfl⟩ ?_
      refine aw_if_ne_b hC dX9_breakAt_34 (tgt := 40) (by decide) ?_ ?_
      · refine aw_iload_n hC dX9_breakAt_40 rfl ?_
        refine aw_if_ne hC dX9_breakAt_41 (tgt := 46) (by decide) ?_ ?_
        · refine aw_iinc hC dX9_breakAt_46 rfl (v := x2 + (-1)) (by first | rfl | decide) (by decide) ?_
          refine aw_iinc hC dX9_breakAt_49 rfl (v := x3 + 1) (by first | rfl | decide) (by decide) ?_
          refine aw_goto hC dX9_breakAt_52 (tgt := 19) (by decide) ?_
          refine aw_sub [0, 2, 3] ?_
          exact ih19 (x2 + (-1)) (x3 + 1)
        · refine aw_iload_n hC dX9_breakAt_44 rfl ?_
          exact aw_iret hC dX9_breakAt_45 rfl rfl
      · refine aw_goto hC dX9_breakAt_37 (tgt := 49) (by decide) ?_
        refine aw_iinc hC dX9_breakAt_49 rfl (v := x3 + 1) (by first | rfl | decide) (by decide) ?_
        refine aw_goto hC dX9_breakAt_52 (tgt := 19) (by decide) ?_
        refine aw_sub [0, 2, 3] ?_
        exact ih19 x2 (x3 + 1)
set_option maxHeartbeats 4000000 in
set_option maxRecDepth 100000 in
theorem A_X9_breakAt (l : Launch) (hl0 : l.stackTraces = false) (D : va_G) (loc : Rf → Nat) (cy : Nat → ClassId) (p1 : Int32) (h : HD) : AM l D loc cy yX9_breakAt cX9_breakAt 4 (some .int) 4 104 [.ref (loc (7, 0, 0)), .int p1] h ((jX9_breakAt p1 h).map (fun r => (.inr (some (.int r.1)), r.2))) := by
  refine am_start (y := yX9_breakAt) (av := [.ref (loc (7, 0, 0)), .int p1]) (nL := 4) (h := h) (RF := fun (r : Option (Int32 × HD)) => r.map (fun r => (.inr (some (.int r.1)), r.2))) (x := jX9_breakAt p1 h) hl0 (by decide +kernel) rfl ?_
  intro p e R s m below meth c A hC
  unfold jX9_breakAt
  refine aw_aload_n hC dX9_breakAt_0 rfl ?_
  refine aw_iconst hC dX9_breakAt_1 (v := 0) (by decide) ?_
  refine aw_pfI hC dX9_breakAt_2 fg_RX9_112 fp_7_0 rfl rm_7_0_0 (fun h1 => ?_)
  refine aw_aload_n hC dX9_breakAt_5 rfl ?_
  refine aw_aload_n hC dX9_breakAt_6 rfl ?_
  refine aw_gfR hC dX9_breakAt_7 fg_RX9_20 rfl rfl rm_7_0_0 ?_
  refine aw_iconst hC dX9_breakAt_10 (v := 0) (by decide) ?_
  refine aw_iald hC dX9_breakAt_11 rm_7_0_2 rfl rfl (by decide) (k := 0) (by decide) ?_
  refine aw_bind rfl (fun q2 hq2 => ?_)
  refine aw_cVv hC dX9_breakAt_12 cv_RX9_230 rfl rm_7_0_0 (am_some (inj := (fun r => (.inr (none), r))) hq2 (A_X9_parks _ (hC.2.2.2.2.2.2.2.2.2.2.2.2.1) _ _ _ (gI h1 (7, 0, 2) 0) h1)) rfl rfl rfl rfl rfl ⟨rfl, rfl⟩ ?_
  refine aw_iload_n hC dX9_breakAt_15 rfl ?_
  refine aw_istore_n hC dX9_breakAt_16 (by decide) ?_
  refine aw_iconst hC dX9_breakAt_17 (v := 1) (by decide) ?_
  refine aw_istore_n hC dX9_breakAt_18 (by decide) ?_
  refine aw_sub [0, 2, 3] ?_
  exact L_X9_breakAt_19 p1 q2  hC FU p1 (1 : Int32)
set_option maxHeartbeats 4000000 in
set_option maxRecDepth 100000 in
theorem A_X9_areCars (l : Launch) (hl0 : l.stackTraces = false) (D : va_G) (loc : Rf → Nat) (cy : Nat → ClassId) (p1 : Int32) (h : HD) : AM l D loc cy yX9_areCars cX9_areCars 2 (some .boolean) 1 41 [.ref (loc (7, 0, 0)), .int p1] h ((jX9_areCars p1 h).map (fun r => (.inr (some (.int (b2i r))), h))) := by
  refine am_start (y := yX9_areCars) (av := [.ref (loc (7, 0, 0)), .int p1]) (nL := 2) (h := h) (RF := fun (r : Option Bool) => r.map (fun r => (.inr (some (.int (b2i r))), h))) (x := jX9_areCars p1 h) hl0 (by decide +kernel) rfl ?_
  intro p e R s m below meth c A hC
  unfold jX9_areCars
  refine aw_iload_n hC dX9_areCars_0 rfl ?_
  refine aw_i2l hC dX9_areCars_1 ?_
  refine aw_lconst hC dX9_areCars_2 (v := 0) (by decide) ?_
  refine aw_aload_n hC dX9_areCars_3 rfl ?_
  refine aw_gfR hC dX9_areCars_4 fg_RX9_20 rfl rfl rm_7_0_0 ?_
  refine aw_iconst hC dX9_areCars_7 (v := 0) (by decide) ?_
  refine aw_iald hC dX9_areCars_8 rm_7_0_2 rfl rfl (by decide) (k := 0) (by decide) ?_
  refine aw_i2l hC dX9_areCars_9 ?_
  refine aw_cSb hC dX9_areCars_10 cv_RX9_130 (A_X9_isIn _ (hC.2.2.2.2.2.2.2.2.2.2.2.2.1) _ _ _ p1.toInt64 (0 : Int64) ((gI h (7, 0, 2) 0).toInt64) h) rfl rfl rfl rfl rfl ⟨rfl, rfl⟩ ?_
  exact aw_zret hC dX9_areCars_13 rfl (show _ = b2i (jX9_isIn p1.toInt64 (0 : Int64) ((gI h (7, 0, 2) 0).toInt64) h) from rfl) rfl
set_option maxHeartbeats 4000000 in
set_option maxRecDepth 100000 in
theorem A_X9_whoAfter (l : Launch) (hl0 : l.stackTraces = false) (D : va_G) (loc : Rf → Nat) (cy : Nat → ClassId) (p1 : Int32) (p2 : Int32) (h : HD) : AM l D loc cy yX9_whoAfter cX9_whoAfter 3 (some .int) 4 103 [.ref (loc (7, 0, 0)), .int p1, .int p2] h ((jX9_whoAfter p1 p2 h).map (fun r => (.inr (some (.int r.1)), r.2))) := by
  refine am_start (y := yX9_whoAfter) (av := [.ref (loc (7, 0, 0)), .int p1, .int p2]) (nL := 3) (h := h) (RF := fun (r : Option (Int32 × HD)) => r.map (fun r => (.inr (some (.int r.1)), r.2))) (x := jX9_whoAfter p1 p2 h) hl0 (by decide +kernel) rfl ?_
  intro p e R s m below meth c A hC
  unfold jX9_whoAfter
  refine aw_aload_n hC dX9_whoAfter_0 rfl ?_
  refine aw_aload_n hC dX9_whoAfter_1 rfl ?_
  refine aw_iload_n hC dX9_whoAfter_2 rfl ?_
  refine aw_bind rfl (fun q1 hq1 => ?_)
  refine aw_cVb hC dX9_whoAfter_3 cv_RX9_341 rfl rm_7_0_0 (am_some (inj := (fun r => (.inr (some (.int (b2i r))), h))) hq1 (A_X9_isSpot _ (hC.2.2.2.2.2.2.2.2.2.2.2.2.1) _ _ _ p2 h)) rfl rfl rfl rfl rfl ⟨rfl, rfl⟩ ?_
  refine aw_aload_n hC dX9_whoAfter_6 rfl ?_
  refine aw_iload_n hC dX9_whoAfter_7 rfl ?_
  refine aw_bind rfl (fun q2 hq2 => ?_)
  refine aw_cVb hC dX9_whoAfter_8 cv_RX9_353 rfl rm_7_0_0 (am_some (inj := (fun r => (.inr (some (.int (b2i r))), h))) hq2 (A_X9_areCars _ (hC.2.2.2.2.2.2.2.2.2.2.2.2.1) _ _ _ p1 h)) rfl rfl rfl rfl rfl ⟨rfl, rfl⟩ ?_
  refine aw_bind rfl (fun q3 hq3 => ?_)
  refine aw_cVb hC dX9_whoAfter_11 cv_RX9_334 rfl rm_7_0_0 (am_some (inj := (fun r => (.inr (some (.int (b2i r.1))), r.2))) hq3 (A_X9_goesBoth _ (hC.2.2.2.2.2.2.2.2.2.2.2.2.1) _ _ _ q1 q2 h)) rfl rfl rfl rfl rfl ⟨rfl, rfl⟩ ?_
  refine aw_if_ne_b hC dX9_whoAfter_14 (tgt := 19) (by decide) ?_ ?_
  · refine aw_aload_n hC dX9_whoAfter_19 rfl ?_
    refine aw_iload_n hC dX9_whoAfter_20 rfl ?_
    refine aw_bind rfl (fun q4 hq4 => ?_)
    refine aw_cVv hC dX9_whoAfter_21 cv_RX9_230 rfl rm_7_0_0 (am_some (inj := (fun r => (.inr (none), r))) hq4 (A_X9_parks _ (hC.2.2.2.2.2.2.2.2.2.2.2.2.1) _ _ _ p1 q3.2)) rfl rfl rfl rfl rfl ⟨rfl, rfl⟩ ?_
    refine aw_aload_n hC dX9_whoAfter_24 rfl ?_
    refine aw_gfR hC dX9_whoAfter_25 fg_RX9_54 rfl rfl rm_7_0_0 ?_
    refine aw_iload_n hC dX9_whoAfter_28 rfl ?_
    refine aw_guard rfl (fun g5 => ?_)
    refine aw_iald hC dX9_whoAfter_29 rm_7_0_13 rfl rfl g5 rfl ?_
    exact aw_iret hC dX9_whoAfter_30 rfl rfl
  · refine aw_iconst hC dX9_whoAfter_17 (v := 0) (by decide) ?_
    exact aw_iret hC dX9_whoAfter_18 rfl rfl
set_option maxHeartbeats 4000000 in
set_option maxRecDepth 100000 in
theorem L_X9_rowFrom_2 (p1 : Int32) (h : HD) (hC : Cx p l e R s m args meth c D loc cy A cX9_rowFrom 3 (some .int) RX9 2 58 0 0)  : ∀ (n2 : Nat) (x2 : Int32), AW p l e R s m args below meth c D loc cy A 3 (QM below D loc cy A args s) (fun (r : Option Int32) => r.map (fun r => (.inr (some (.int r)), h))) (0, 0) 2 [(0, .ref (loc (7, 0, 0))), (1, .int p1), (2, .int x2)] [] h (jX9_rowFrom_L2 p1 h n2 x2) := by
  intro n2
  induction n2 with
  | zero => intro x2; exact aw_none rfl
  | succ n2 ih2 =>
    intro x2
    rw [jX9_rowFrom_L2]
    refine aw_iload_n hC dX9_rowFrom_2 rfl ?_
    refine aw_aload_n hC dX9_rowFrom_3 rfl ?_
    refine aw_bind rfl (fun q1 hq1 => ?_)
    refine aw_cVi hC dX9_rowFrom_4 cv_RX9_214 rfl rm_7_0_0 (am_some (inj := (fun r => (.inr (some (.int r)), h))) hq1 (A_X9_spots _ (hC.2.2.2.2.2.2.2.2.2.2.2.2.1) _ _ _ h)) rfl rfl rfl rfl rfl ⟨rfl, rfl⟩ ?_
    refine aw_icmp_ge hC dX9_rowFrom_7 (tgt := 32) (by decide) ?_ ?_
    · refine aw_iload_n hC dX9_rowFrom_32 rfl ?_
      exact aw_iret hC dX9_rowFrom_33 rfl rfl
    · refine aw_aload_n hC dX9_rowFrom_10 rfl ?_
      refine aw_gfR hC dX9_rowFrom_11 fg_RX9_54 rfl rfl rm_7_0_0 ?_
      refine aw_aload_n hC dX9_rowFrom_14 rfl ?_
      refine aw_iload_n hC dX9_rowFrom_15 rfl ?_
      refine aw_iload_n hC dX9_rowFrom_16 rfl ?_
      refine aw_iadd hC dX9_rowFrom_17 ?_
      refine aw_bind rfl (fun q2 hq2 => ?_)
      refine aw_cVi hC dX9_rowFrom_18 cv_RX9_218 rfl rm_7_0_0 (am_some (inj := (fun r => (.inr (some (.int r)), h))) hq2 (A_X9_round _ (hC.2.2.2.2.2.2.2.2.2.2.2.2.1) _ _ _ (p1 + x2) h)) rfl rfl rfl rfl rfl ⟨rfl, rfl⟩ ?_
      refine aw_guard rfl (fun g3 => ?_)
      refine aw_iald hC dX9_rowFrom_21 rm_7_0_13 rfl rfl g3 rfl ?_
      refine aw_iconst hC dX9_rowFrom_22 (v := -1) (by decide) ?_
      refine aw_icmp_eq hC dX9_rowFrom_23 (tgt := 32) (by decide) ?_ ?_
      · refine aw_iload_n hC dX9_rowFrom_32 rfl ?_
        exact aw_iret hC dX9_rowFrom_33 rfl rfl
      · refine aw_iinc hC dX9_rowFrom_26 rfl (v := x2 + 1) (by first | rfl | decide) (by decide) ?_
        refine aw_goto hC dX9_rowFrom_29 (tgt := 2) (by decide) ?_
        refine aw_sub [0, 1, 2] ?_
        exact ih2 (x2 + 1)
set_option maxHeartbeats 4000000 in
set_option maxRecDepth 100000 in
theorem A_X9_rowFrom (l : Launch) (hl0 : l.stackTraces = false) (D : va_G) (loc : Rf → Nat) (cy : Nat → ClassId) (p1 : Int32) (h : HD) : AM l D loc cy yX9_rowFrom cX9_rowFrom 3 (some .int) 2 58 [.ref (loc (7, 0, 0)), .int p1] h ((jX9_rowFrom p1 h).map (fun r => (.inr (some (.int r)), h))) := by
  refine am_start (y := yX9_rowFrom) (av := [.ref (loc (7, 0, 0)), .int p1]) (nL := 3) (h := h) (RF := fun (r : Option Int32) => r.map (fun r => (.inr (some (.int r)), h))) (x := jX9_rowFrom p1 h) hl0 (by decide +kernel) rfl ?_
  intro p e R s m below meth c A hC
  unfold jX9_rowFrom
  refine aw_iconst hC dX9_rowFrom_0 (v := 0) (by decide) ?_
  refine aw_istore_n hC dX9_rowFrom_1 (by decide) ?_
  refine aw_sub [0, 1, 2] ?_
  exact L_X9_rowFrom_2 p1 h  hC FU (0 : Int32)
set_option maxHeartbeats 4000000 in
set_option maxRecDepth 100000 in
theorem L_X9_longestAfter_23 (p1 : Int32) (h : HD) (hC : Cx p l e R s m args meth c D loc cy A cX9_longestAfter 5 (some .int) RX9 4 103 0 0)  : ∀ (n23 : Nat) (x2 : Int32) (x3 : Int32), AW p l e R s m args below meth c D loc cy A 5 (QM below D loc cy A args s) (fun (r : Option (Int32 × HD)) => r.map (fun r => (.inr (some (.int r.1)), r.2))) (0, 0) 23 [(0, .ref (loc (7, 0, 0))), (2, .int x2), (3, .int x3)] [] h (jX9_longestAfter_L23 p1 h n23 x2 x3) := by
  intro n23
  induction n23 with
  | zero => intro x2 x3; exact aw_none rfl
  | succ n23 ih23 =>
    intro x2 x3
    rw [jX9_longestAfter_L23]
    refine aw_iload_n hC dX9_longestAfter_23 rfl ?_
    refine aw_aload_n hC dX9_longestAfter_24 rfl ?_
    refine aw_bind rfl (fun q4 hq4 => ?_)
    refine aw_cVi hC dX9_longestAfter_25 cv_RX9_214 rfl rm_7_0_0 (am_some (inj := (fun r => (.inr (some (.int r)), h))) hq4 (A_X9_spots _ (hC.2.2.2.2.2.2.2.2.2.2.2.2.1) _ _ _ h)) rfl rfl rfl rfl rfl ⟨rfl, rfl⟩ ?_
    refine aw_icmp_ge hC dX9_longestAfter_28 (tgt := 53) (by decide) ?_ ?_
    · refine aw_iload_n hC dX9_longestAfter_53 rfl ?_
      exact aw_iret hC dX9_longestAfter_54 rfl rfl
    · refine aw_aload_n hC dX9_longestAfter_31 rfl ?_
      refine aw_iload_n hC dX9_longestAfter_32 rfl ?_
      refine aw_bind rfl (fun q5 hq5 => ?_)
      refine aw_cVi hC dX9_longestAfter_33 cv_RX9_356 rfl rm_7_0_0 (am_some (inj := (fun r => (.inr (some (.int r)), h))) hq5 (A_X9_rowFrom _ (hC.2.2.2.2.2.2.2.2.2.2.2.2.1) _ _ _ x3 h)) rfl rfl rfl rfl rfl ⟨rfl, rfl⟩ ?_
      refine aw_istore hC dX9_longestAfter_36 (by decide) ?_
      refine aw_iload hC dX9_longestAfter_38 rfl ?_
      refine aw_iload_n hC dX9_longestAfter_40 rfl ?_
      refine aw_icmp_le hC dX9_longestAfter_41 (tgt := 47) (by decide) ?_ ?_
      · refine aw_iinc hC dX9_longestAfter_47 rfl (v := x3 + 1) (by first | rfl | decide) (by decide) ?_
        refine aw_goto hC dX9_longestAfter_50 (tgt := 23) (by decide) ?_
        refine aw_sub [0, 2, 3] ?_
        exact ih23 x2 (x3 + 1)
      · refine aw_iload hC dX9_longestAfter_44 rfl ?_
        refine aw_istore_n hC dX9_longestAfter_46 (by decide) ?_
        refine aw_iinc hC dX9_longestAfter_47 rfl (v := x3 + 1) (by first | rfl | decide) (by decide) ?_
        refine aw_goto hC dX9_longestAfter_50 (tgt := 23) (by decide) ?_
        refine aw_sub [0, 2, 3] ?_
        exact ih23 q5 (x3 + 1)
set_option maxHeartbeats 4000000 in
set_option maxRecDepth 100000 in
theorem A_X9_longestAfter (l : Launch) (hl0 : l.stackTraces = false) (D : va_G) (loc : Rf → Nat) (cy : Nat → ClassId) (p1 : Int32) (h : HD) : AM l D loc cy yX9_longestAfter cX9_longestAfter 5 (some .int) 4 103 [.ref (loc (7, 0, 0)), .int p1] h ((jX9_longestAfter p1 h).map (fun r => (.inr (some (.int r.1)), r.2))) := by
  refine am_start (y := yX9_longestAfter) (av := [.ref (loc (7, 0, 0)), .int p1]) (nL := 5) (h := h) (RF := fun (r : Option (Int32 × HD)) => r.map (fun r => (.inr (some (.int r.1)), r.2))) (x := jX9_longestAfter p1 h) hl0 (by decide +kernel) rfl ?_
  intro p e R s m below meth c A hC
  unfold jX9_longestAfter
  refine aw_aload_n hC dX9_longestAfter_0 rfl ?_
  refine aw_aload_n hC dX9_longestAfter_1 rfl ?_
  refine aw_iload_n hC dX9_longestAfter_2 rfl ?_
  refine aw_bind rfl (fun q1 hq1 => ?_)
  refine aw_cVb hC dX9_longestAfter_3 cv_RX9_353 rfl rm_7_0_0 (am_some (inj := (fun r => (.inr (some (.int (b2i r))), h))) hq1 (A_X9_areCars _ (hC.2.2.2.2.2.2.2.2.2.2.2.2.1) _ _ _ p1 h)) rfl rfl rfl rfl rfl ⟨rfl, rfl⟩ ?_
  refine aw_bind rfl (fun q2 hq2 => ?_)
  refine aw_cVb hC dX9_longestAfter_6 cv_RX9_122 rfl rm_7_0_0 (am_some (inj := (fun r => (.inr (some (.int (b2i r.1))), r.2))) hq2 (A_X9_goes _ (hC.2.2.2.2.2.2.2.2.2.2.2.2.1) _ _ _ q1 h)) rfl rfl rfl rfl rfl ⟨rfl, rfl⟩ ?_
  refine aw_if_ne_b hC dX9_longestAfter_9 (tgt := 14) (by decide) ?_ ?_
  · refine aw_aload_n hC dX9_longestAfter_14 rfl ?_
    refine aw_iload_n hC dX9_longestAfter_15 rfl ?_
    refine aw_bind rfl (fun q3 hq3 => ?_)
    refine aw_cVv hC dX9_longestAfter_16 cv_RX9_230 rfl rm_7_0_0 (am_some (inj := (fun r => (.inr (none), r))) hq3 (A_X9_parks _ (hC.2.2.2.2.2.2.2.2.2.2.2.2.1) _ _ _ p1 q2.2)) rfl rfl rfl rfl rfl ⟨rfl, rfl⟩ ?_
    refine aw_iconst hC dX9_longestAfter_19 (v := 0) (by decide) ?_
    refine aw_istore_n hC dX9_longestAfter_20 (by decide) ?_
    refine aw_iconst hC dX9_longestAfter_21 (v := 0) (by decide) ?_
    refine aw_istore_n hC dX9_longestAfter_22 (by decide) ?_
    refine aw_sub [0, 2, 3] ?_
    exact L_X9_longestAfter_23 p1 q3  hC FU (0 : Int32) (0 : Int32)
  · refine aw_iconst hC dX9_longestAfter_12 (v := 0) (by decide) ?_
    exact aw_iret hC dX9_longestAfter_13 rfl rfl
set_option maxHeartbeats 4000000 in
set_option maxRecDepth 100000 in
theorem A_X9_inWay (l : Launch) (hl0 : l.stackTraces = false) (D : va_G) (loc : Rf → Nat) (cy : Nat → ClassId) (p1 : Int32) (h : HD) : AM l D loc cy yX9_inWay cX9_inWay 2 (some .int) 4 103 [.ref (loc (7, 0, 0)), .int p1] h ((jX9_inWay p1 h).map (fun r => (.inr (some (.int r.1)), r.2))) := by
  refine am_start (y := yX9_inWay) (av := [.ref (loc (7, 0, 0)), .int p1]) (nL := 2) (h := h) (RF := fun (r : Option (Int32 × HD)) => r.map (fun r => (.inr (some (.int r.1)), r.2))) (x := jX9_inWay p1 h) hl0 (by decide +kernel) rfl ?_
  intro p e R s m below meth c A hC
  unfold jX9_inWay
  refine aw_aload_n hC dX9_inWay_0 rfl ?_
  refine aw_aload_n hC dX9_inWay_1 rfl ?_
  refine aw_iload_n hC dX9_inWay_2 rfl ?_
  refine aw_bind rfl (fun q1 hq1 => ?_)
  refine aw_cVb hC dX9_inWay_3 cv_RX9_353 rfl rm_7_0_0 (am_some (inj := (fun r => (.inr (some (.int (b2i r))), h))) hq1 (A_X9_areCars _ (hC.2.2.2.2.2.2.2.2.2.2.2.2.1) _ _ _ p1 h)) rfl rfl rfl rfl rfl ⟨rfl, rfl⟩ ?_
  refine aw_bind rfl (fun q2 hq2 => ?_)
  refine aw_cVb hC dX9_inWay_6 cv_RX9_122 rfl rm_7_0_0 (am_some (inj := (fun r => (.inr (some (.int (b2i r.1))), r.2))) hq2 (A_X9_goes _ (hC.2.2.2.2.2.2.2.2.2.2.2.2.1) _ _ _ q1 h)) rfl rfl rfl rfl rfl ⟨rfl, rfl⟩ ?_
  refine aw_if_ne_b hC dX9_inWay_9 (tgt := 14) (by decide) ?_ ?_
  · refine aw_iload_n hC dX9_inWay_14 rfl ?_
    refine aw_aload_n hC dX9_inWay_15 rfl ?_
    refine aw_gfR hC dX9_inWay_16 fg_RX9_20 rfl rfl rm_7_0_0 ?_
    refine aw_iconst hC dX9_inWay_19 (v := 0) (by decide) ?_
    refine aw_iald hC dX9_inWay_20 rm_7_0_2 rfl rfl (by decide) (k := 0) (by decide) ?_
    refine aw_icmp_ne hC dX9_inWay_21 (tgt := 26) (by decide) ?_ ?_
    · refine aw_aload_n hC dX9_inWay_26 rfl ?_
      refine aw_iload_n hC dX9_inWay_27 rfl ?_
      refine aw_bind rfl (fun q3 hq3 => ?_)
      refine aw_cVv hC dX9_inWay_28 cv_RX9_230 rfl rm_7_0_0 (am_some (inj := (fun r => (.inr (none), r))) hq3 (A_X9_parks _ (hC.2.2.2.2.2.2.2.2.2.2.2.2.1) _ _ _ p1 q2.2)) rfl rfl rfl rfl rfl ⟨rfl, rfl⟩ ?_
      refine aw_aload_n hC dX9_inWay_31 rfl ?_
      refine aw_gfR hC dX9_inWay_32 fg_RX9_54 rfl rfl rm_7_0_0 ?_
      refine aw_aload_n hC dX9_inWay_35 rfl ?_
      refine aw_iload_n hC dX9_inWay_36 rfl ?_
      refine aw_bind rfl (fun q4 hq4 => ?_)
      refine aw_cVi hC dX9_inWay_37 cv_RX9_221 rfl rm_7_0_0 (am_some (inj := (fun r => (.inr (some (.int r)), q3))) hq4 (A_X9_wishOf _ (hC.2.2.2.2.2.2.2.2.2.2.2.2.1) _ _ _ p1 q3)) rfl rfl rfl rfl rfl ⟨rfl, rfl⟩ ?_
      refine aw_guard rfl (fun g5 => ?_)
      refine aw_iald hC dX9_inWay_40 rm_7_0_13 rfl rfl g5 rfl ?_
      exact aw_iret hC dX9_inWay_41 rfl rfl
    · refine aw_iconst hC dX9_inWay_24 (v := -1) (by decide) ?_
      exact aw_iret hC dX9_inWay_25 rfl rfl
  · refine aw_iconst hC dX9_inWay_12 (v := 0) (by decide) ?_
    exact aw_iret hC dX9_inWay_13 rfl rfl
set_option maxHeartbeats 4000000 in
set_option maxRecDepth 100000 in
theorem L_X9_fibre_19 (h : HD) (hC : Cx p l e R s m args meth c D loc cy A cX9_fibre 4 (some .long) RX9 4 103 0 0)  : ∀ (n19 : Nat) (x1 : Int64) (x3 : Int32), AW p l e R s m args below meth c D loc cy A 4 (QM below D loc cy A args s) (fun (r : Option (Int64 × HD)) => r.map (fun r => (.inr (some (.long r.1)), r.2))) (0, 0) 19 [(0, .ref (loc (7, 0, 0))), (1, .long x1), (3, .int x3)] [] h (jX9_fibre_L19 h n19 x1 x3) := by
  intro n19
  induction n19 with
  | zero => intro x1 x3; exact aw_none rfl
  | succ n19 ih19 =>
    intro x1 x3
    rw [jX9_fibre_L19]
    refine aw_iload_n hC dX9_fibre_19 rfl ?_
    refine aw_aload_n hC dX9_fibre_20 rfl ?_
    refine aw_gfR hC dX9_fibre_21 fg_RX9_20 rfl rfl rm_7_0_0 ?_
    refine aw_iconst hC dX9_fibre_24 (v := 0) (by decide) ?_
    refine aw_iald hC dX9_fibre_25 rm_7_0_2 rfl rfl (by decide) (k := 0) (by decide) ?_
    refine aw_icmp_ge hC dX9_fibre_26 (tgt := 44) (by decide) ?_ ?_
    · refine aw_lload_n hC dX9_fibre_44 rfl ?_
      exact aw_lret hC dX9_fibre_45 rfl rfl
    · refine aw_lload_n hC dX9_fibre_29 rfl ?_
      refine aw_aload_n hC dX9_fibre_30 rfl ?_
      refine aw_iload_n hC dX9_fibre_31 rfl ?_
      refine aw_bind rfl (fun q3 hq3 => ?_)
      refine aw_cVi hC dX9_fibre_32 cv_RX9_338 rfl rm_7_0_0 (am_some (inj := (fun r => (.inr (some (.int r)), h))) hq3 (A_X9_runOf _ (hC.2.2.2.2.2.2.2.2.2.2.2.2.1) _ _ _ x3 h)) rfl rfl rfl rfl rfl ⟨rfl, rfl⟩ ?_
      refine aw_i2l hC dX9_fibre_35 ?_
      refine aw_lmul hC dX9_fibre_36 ?_
      refine aw_lstore_n hC dX9_fibre_37 (by decide) ?_
      refine aw_iinc hC dX9_fibre_38 rfl (v := x3 + 1) (by first | rfl | decide) (by decide) ?_
      refine aw_goto hC dX9_fibre_41 (tgt := 19) (by decide) ?_
      refine aw_sub [0, 1, 3] ?_
      exact ih19 (x1 * q3.toInt64) (x3 + 1)
set_option maxHeartbeats 4000000 in
set_option maxRecDepth 100000 in
theorem A_X9_fibre (l : Launch) (hl0 : l.stackTraces = false) (D : va_G) (loc : Rf → Nat) (cy : Nat → ClassId)  (h : HD) : AM l D loc cy yX9_fibre cX9_fibre 4 (some .long) 4 103 [.ref (loc (7, 0, 0))] h ((jX9_fibre h).map (fun r => (.inr (some (.long r.1)), r.2))) := by
  refine am_start (y := yX9_fibre) (av := [.ref (loc (7, 0, 0))]) (nL := 4) (h := h) (RF := fun (r : Option (Int64 × HD)) => r.map (fun r => (.inr (some (.long r.1)), r.2))) (x := jX9_fibre h) hl0 (by decide +kernel) rfl ?_
  intro p e R s m below meth c A hC
  unfold jX9_fibre
  refine aw_aload_n hC dX9_fibre_0 rfl ?_
  refine aw_iconst hC dX9_fibre_1 (v := 0) (by decide) ?_
  refine aw_pfI hC dX9_fibre_2 fg_RX9_112 fp_7_0 rfl rm_7_0_0 (fun h1 => ?_)
  refine aw_aload_n hC dX9_fibre_5 rfl ?_
  refine aw_aload_n hC dX9_fibre_6 rfl ?_
  refine aw_gfR hC dX9_fibre_7 fg_RX9_20 rfl rfl rm_7_0_0 ?_
  refine aw_iconst hC dX9_fibre_10 (v := 0) (by decide) ?_
  refine aw_iald hC dX9_fibre_11 rm_7_0_2 rfl rfl (by decide) (k := 0) (by decide) ?_
  refine aw_bind rfl (fun q2 hq2 => ?_)
  refine aw_cVv hC dX9_fibre_12 cv_RX9_230 rfl rm_7_0_0 (am_some (inj := (fun r => (.inr (none), r))) hq2 (A_X9_parks _ (hC.2.2.2.2.2.2.2.2.2.2.2.2.1) _ _ _ (gI h1 (7, 0, 2) 0) h1)) rfl rfl rfl rfl rfl ⟨rfl, rfl⟩ ?_
  refine aw_lconst hC dX9_fibre_15 (v := 1) (by decide) ?_
  refine aw_lstore_n hC dX9_fibre_16 (by decide) ?_
  refine aw_iconst hC dX9_fibre_17 (v := 0) (by decide) ?_
  refine aw_istore_n hC dX9_fibre_18 (by decide) ?_
  refine aw_sub [0, 1, 3] ?_
  exact L_X9_fibre_19 q2  hC FU (1 : Int64) (0 : Int32)
set_option maxHeartbeats 4000000 in
set_option maxRecDepth 100000 in
theorem L_X9_factorial_4 (p1 : Int32) (h : HD) (hC : Cx p l e R s m args meth c D loc cy A cX9_factorial 4 (some .long) RX9 0 16 0 0)  : ∀ (n4 : Nat) (x1 : Int64) (x3 : Int32), AW p l e R s m args below meth c D loc cy A 4 (QM below D loc cy A args s) (fun (r : Option Int64) => r.map (fun r => (.inr (some (.long r)), h))) (0, 0) 4 [(0, .int p1), (1, .long x1), (3, .int x3)] [] h (jX9_factorial_L4 p1 h n4 x1 x3) := by
  intro n4
  induction n4 with
  | zero => intro x1 x3; exact aw_none rfl
  | succ n4 ih4 =>
    intro x1 x3
    rw [jX9_factorial_L4]
    refine aw_iload_n hC dX9_factorial_4 rfl ?_
    refine aw_iload_n hC dX9_factorial_5 rfl ?_
    refine aw_icmp_gt hC dX9_factorial_6 (tgt := 20) (by decide) ?_ ?_
    · refine aw_lload_n hC dX9_factorial_20 rfl ?_
      exact aw_lret hC dX9_factorial_21 rfl rfl
    · refine aw_lload_n hC dX9_factorial_9 rfl ?_
      refine aw_iload_n hC dX9_factorial_10 rfl ?_
      refine aw_i2l hC dX9_factorial_11 ?_
      refine aw_lmul hC dX9_factorial_12 ?_
      refine aw_lstore_n hC dX9_factorial_13 (by decide) ?_
      refine aw_iinc hC dX9_factorial_14 rfl (v := x3 + 1) (by first | rfl | decide) (by decide) ?_
      refine aw_goto hC dX9_factorial_17 (tgt := 4) (by decide) ?_
      refine aw_sub [0, 1, 3] ?_
      exact ih4 (x1 * x3.toInt64) (x3 + 1)
set_option maxHeartbeats 4000000 in
set_option maxRecDepth 100000 in
theorem A_X9_factorial (l : Launch) (hl0 : l.stackTraces = false) (D : va_G) (loc : Rf → Nat) (cy : Nat → ClassId) (p1 : Int32) (h : HD) : AM l D loc cy yX9_factorial cX9_factorial 4 (some .long) 0 16 [.int p1] h ((jX9_factorial p1 h).map (fun r => (.inr (some (.long r)), h))) := by
  refine am_start (y := yX9_factorial) (av := [.int p1]) (nL := 4) (h := h) (RF := fun (r : Option Int64) => r.map (fun r => (.inr (some (.long r)), h))) (x := jX9_factorial p1 h) hl0 (by decide +kernel) rfl ?_
  intro p e R s m below meth c A hC
  unfold jX9_factorial
  refine aw_lconst hC dX9_factorial_0 (v := 1) (by decide) ?_
  refine aw_lstore_n hC dX9_factorial_1 (by decide) ?_
  refine aw_iconst hC dX9_factorial_2 (v := 2) (by decide) ?_
  refine aw_istore_n hC dX9_factorial_3 (by decide) ?_
  refine aw_sub [0, 1, 3] ?_
  exact L_X9_factorial_4 p1 h  hC FU (1 : Int64) (2 : Int32)
set_option maxHeartbeats 4000000 in
set_option maxRecDepth 100000 in
theorem L_X9_arrangements_17 (h : HD) (hC : Cx p l e R s m args meth c D loc cy A cX9_arrangements 4 (some .long) RX9 2 60 0 0)  : ∀ (n17 : Nat) (x1 : Int64) (x3 : Int32), AW p l e R s m args below meth c D loc cy A 4 (QM below D loc cy A args s) (fun (r : Option (Int64 × HD)) => r.map (fun r => (.inr (some (.long r.1)), r.2))) (0, 0) 17 [(0, .ref (loc (7, 0, 0))), (1, .long x1), (3, .int x3)] [] h (jX9_arrangements_L17 h n17 x1 x3) := by
  intro n17
  induction n17 with
  | zero => intro x1 x3; exact aw_none rfl
  | succ n17 ih17 =>
    intro x1 x3
    rw [jX9_arrangements_L17]
    refine aw_iload_n hC dX9_arrangements_17 rfl ?_
    refine aw_aload_n hC dX9_arrangements_18 rfl ?_
    refine aw_bind rfl (fun q3 hq3 => ?_)
    refine aw_cVi hC dX9_arrangements_19 cv_RX9_214 rfl rm_7_0_0 (am_some (inj := (fun r => (.inr (some (.int r)), h))) hq3 (A_X9_spots _ (hC.2.2.2.2.2.2.2.2.2.2.2.2.1) _ _ _ h)) rfl rfl rfl rfl rfl ⟨rfl, rfl⟩ ?_
    refine aw_icmp_ge hC dX9_arrangements_22 (tgt := 42) (by decide) ?_ ?_
    · refine aw_lload_n hC dX9_arrangements_42 rfl ?_
      exact aw_lret hC dX9_arrangements_43 rfl rfl
    · refine aw_lload_n hC dX9_arrangements_25 rfl ?_
      refine aw_aload_n hC dX9_arrangements_26 rfl ?_
      refine aw_iload_n hC dX9_arrangements_27 rfl ?_
      refine aw_bind rfl (fun q4 hq4 => ?_)
      refine aw_cVi hC dX9_arrangements_28 cv_RX9_248 rfl rm_7_0_0 (am_some (inj := (fun r => (.inr (some (.int r)), h))) hq4 (A_X9_wants _ (hC.2.2.2.2.2.2.2.2.2.2.2.2.1) _ _ _ x3 h)) rfl rfl rfl rfl rfl ⟨rfl, rfl⟩ ?_
      refine aw_bind rfl (fun q5 hq5 => ?_)
      refine aw_cSj hC dX9_arrangements_31 cv_RX9_359 (am_some (inj := (fun r => (.inr (some (.long r)), h))) hq5 (A_X9_factorial _ (hC.2.2.2.2.2.2.2.2.2.2.2.2.1) _ _ _ q4 h)) rfl rfl rfl rfl rfl ⟨rfl, rfl⟩ ?_
      refine aw_guardN rfl (fun g6 => ?_)
      refine aw_ldiv hC dX9_arrangements_34 g6 ?_
      refine aw_lstore_n hC dX9_arrangements_35 (by decide) ?_
      refine aw_iinc hC dX9_arrangements_36 rfl (v := x3 + 1) (by first | rfl | decide) (by decide) ?_
      refine aw_goto hC dX9_arrangements_39 (tgt := 17) (by decide) ?_
      refine aw_sub [0, 1, 3] ?_
      exact ih17 (x1 / q5) (x3 + 1)
set_option maxHeartbeats 4000000 in
set_option maxRecDepth 100000 in
theorem A_X9_arrangements (l : Launch) (hl0 : l.stackTraces = false) (D : va_G) (loc : Rf → Nat) (cy : Nat → ClassId)  (h : HD) : AM l D loc cy yX9_arrangements cX9_arrangements 4 (some .long) 2 60 [.ref (loc (7, 0, 0))] h ((jX9_arrangements h).map (fun r => (.inr (some (.long r.1)), r.2))) := by
  refine am_start (y := yX9_arrangements) (av := [.ref (loc (7, 0, 0))]) (nL := 4) (h := h) (RF := fun (r : Option (Int64 × HD)) => r.map (fun r => (.inr (some (.long r.1)), r.2))) (x := jX9_arrangements h) hl0 (by decide +kernel) rfl ?_
  intro p e R s m below meth c A hC
  unfold jX9_arrangements
  refine aw_aload_n hC dX9_arrangements_0 rfl ?_
  refine aw_iconst hC dX9_arrangements_1 (v := 0) (by decide) ?_
  refine aw_pfI hC dX9_arrangements_2 fg_RX9_112 fp_7_0 rfl rm_7_0_0 (fun h1 => ?_)
  refine aw_aload_n hC dX9_arrangements_5 rfl ?_
  refine aw_gfR hC dX9_arrangements_6 fg_RX9_20 rfl rfl rm_7_0_0 ?_
  refine aw_iconst hC dX9_arrangements_9 (v := 0) (by decide) ?_
  refine aw_iald hC dX9_arrangements_10 rm_7_0_2 rfl rfl (by decide) (k := 0) (by decide) ?_
  refine aw_bind rfl (fun q2 hq2 => ?_)
  refine aw_cSj hC dX9_arrangements_11 cv_RX9_359 (am_some (inj := (fun r => (.inr (some (.long r)), h1))) hq2 (A_X9_factorial _ (hC.2.2.2.2.2.2.2.2.2.2.2.2.1) _ _ _ (gI h1 (7, 0, 2) 0) h1)) rfl rfl rfl rfl rfl ⟨rfl, rfl⟩ ?_
  refine aw_lstore_n hC dX9_arrangements_14 (by decide) ?_
  refine aw_iconst hC dX9_arrangements_15 (v := 0) (by decide) ?_
  refine aw_istore_n hC dX9_arrangements_16 (by decide) ?_
  refine aw_sub [0, 1, 3] ?_
  exact L_X9_arrangements_17 h1  hC FU q2 (0 : Int32)
set_option maxHeartbeats 4000000 in
set_option maxRecDepth 100000 in
theorem L_X9_all_9 (h : HD) (hC : Cx p l e R s m args meth c D loc cy A cX9_all 4 (some .long) RX9 1 36 0 0)  : ∀ (n9 : Nat) (x1 : Int64) (x3 : Int32), AW p l e R s m args below meth c D loc cy A 4 (QM below D loc cy A args s) (fun (r : Option (Int64 × HD)) => r.map (fun r => (.inr (some (.long r.1)), r.2))) (0, 0) 9 [(0, .ref (loc (7, 0, 0))), (1, .long x1), (3, .int x3)] [] h (jX9_all_L9 h n9 x1 x3) := by
  intro n9
  induction n9 with
  | zero => intro x1 x3; exact aw_none rfl
  | succ n9 ih9 =>
    intro x1 x3
    rw [jX9_all_L9]
    refine aw_iload_n hC dX9_all_9 rfl ?_
    refine aw_aload_n hC dX9_all_10 rfl ?_
    refine aw_gfR hC dX9_all_11 fg_RX9_20 rfl rfl rm_7_0_0 ?_
    refine aw_iconst hC dX9_all_14 (v := 0) (by decide) ?_
    refine aw_iald hC dX9_all_15 rm_7_0_2 rfl rfl (by decide) (k := 0) (by decide) ?_
    refine aw_icmp_ge hC dX9_all_16 (tgt := 33) (by decide) ?_ ?_
    · refine aw_lload_n hC dX9_all_33 rfl ?_
      exact aw_lret hC dX9_all_34 rfl rfl
    · refine aw_lload_n hC dX9_all_19 rfl ?_
      refine aw_aload_n hC dX9_all_20 rfl ?_
      refine aw_bind rfl (fun q2 hq2 => ?_)
      refine aw_cVi hC dX9_all_21 cv_RX9_214 rfl rm_7_0_0 (am_some (inj := (fun r => (.inr (some (.int r)), h))) hq2 (A_X9_spots _ (hC.2.2.2.2.2.2.2.2.2.2.2.2.1) _ _ _ h)) rfl rfl rfl rfl rfl ⟨rfl, rfl⟩ ?_
      refine aw_i2l hC dX9_all_24 ?_
      refine aw_lmul hC dX9_all_25 ?_
      refine aw_lstore_n hC dX9_all_26 (by decide) ?_
      refine aw_iinc hC dX9_all_27 rfl (v := x3 + 1) (by first | rfl | decide) (by decide) ?_
      refine aw_goto hC dX9_all_30 (tgt := 9) (by decide) ?_
      refine aw_sub [0, 1, 3] ?_
      exact ih9 (x1 * q2.toInt64) (x3 + 1)
set_option maxHeartbeats 4000000 in
set_option maxRecDepth 100000 in
theorem A_X9_all (l : Launch) (hl0 : l.stackTraces = false) (D : va_G) (loc : Rf → Nat) (cy : Nat → ClassId)  (h : HD) : AM l D loc cy yX9_all cX9_all 4 (some .long) 1 36 [.ref (loc (7, 0, 0))] h ((jX9_all h).map (fun r => (.inr (some (.long r.1)), r.2))) := by
  refine am_start (y := yX9_all) (av := [.ref (loc (7, 0, 0))]) (nL := 4) (h := h) (RF := fun (r : Option (Int64 × HD)) => r.map (fun r => (.inr (some (.long r.1)), r.2))) (x := jX9_all h) hl0 (by decide +kernel) rfl ?_
  intro p e R s m below meth c A hC
  unfold jX9_all
  refine aw_aload_n hC dX9_all_0 rfl ?_
  refine aw_iconst hC dX9_all_1 (v := 0) (by decide) ?_
  refine aw_pfI hC dX9_all_2 fg_RX9_112 fp_7_0 rfl rm_7_0_0 (fun h1 => ?_)
  refine aw_lconst hC dX9_all_5 (v := 1) (by decide) ?_
  refine aw_lstore_n hC dX9_all_6 (by decide) ?_
  refine aw_iconst hC dX9_all_7 (v := 1) (by decide) ?_
  refine aw_istore_n hC dX9_all_8 (by decide) ?_
  refine aw_sub [0, 1, 3] ?_
  exact L_X9_all_9 h1  hC FU (1 : Int64) (1 : Int32)
set_option maxHeartbeats 4000000 in
set_option maxRecDepth 100000 in
theorem L_X9_inversions_39 (x1 : Int32) (x3 : Int32) (h : HD) (k95 : Int32 → Option (Int32 × HD)) (hC : Cx p l e R s m args meth c D loc cy A cX9_inversions 5 (some .int) RX9 4 103 0 0) (hk95 : ∀ (x2 : Int32), AW p l e R s m args below meth c D loc cy A 5 (QM below D loc cy A args s) (fun (r : Option (Int32 × HD)) => r.map (fun r => (.inr (some (.int r.1)), r.2))) (0, 0) 95 [(0, .ref (loc (7, 0, 0))), (1, .int x1), (2, .int x2), (3, .int x3)] [] h (k95 x2)) : ∀ (n39 : Nat) (x2 : Int32) (x4 : Int32), AW p l e R s m args below meth c D loc cy A 5 (QM below D loc cy A args s) (fun (r : Option (Int32 × HD)) => r.map (fun r => (.inr (some (.int r.1)), r.2))) (0, 0) 39 [(0, .ref (loc (7, 0, 0))), (1, .int x1), (2, .int x2), (3, .int x3), (4, .int x4)] [] h (jX9_inversions_L39 x1 x3 h k95 n39 x2 x4) := by
  intro n39
  induction n39 with
  | zero => intro x2 x4; exact aw_none rfl
  | succ n39 ih39 =>
    intro x2 x4
    rw [jX9_inversions_L39]
    refine aw_iload hC dX9_inversions_39 rfl ?_
    refine aw_aload_n hC dX9_inversions_41 rfl ?_
    refine aw_gfR hC dX9_inversions_42 fg_RX9_20 rfl rfl rm_7_0_0 ?_
    refine aw_iconst hC dX9_inversions_45 (v := 0) (by decide) ?_
    refine aw_iald hC dX9_inversions_46 rm_7_0_2 rfl rfl (by decide) (k := 0) (by decide) ?_
    refine aw_icmp_ge hC dX9_inversions_47 (tgt := 95) (by decide) ?_ ?_
    · refine aw_sub [0, 1, 2, 3] ?_
      exact hk95 x2
    · refine aw_iload_n hC dX9_inversions_50 rfl ?_
      refine aw_aload_n hC dX9_inversions_51 rfl ?_
      refine aw_aload_n hC dX9_inversions_52 rfl ?_
      refine aw_gfR hC dX9_inversions_53 fg_RX9_57 rfl rfl rm_7_0_0 ?_
      refine aw_iload_n hC dX9_inversions_56 rfl ?_
      refine aw_guard rfl (fun g4 => ?_)
      refine aw_iald hC dX9_inversions_57 rm_7_0_14 rfl rfl g4 rfl ?_
      refine aw_iload_n hC dX9_inversions_58 rfl ?_
      refine aw_iadd hC dX9_inversions_59 ?_
      refine aw_bind rfl (fun q5 hq5 => ?_)
      refine aw_cVi hC dX9_inversions_60 cv_RX9_218 rfl rm_7_0_0 (am_some (inj := (fun r => (.inr (some (.int r)), h))) hq5 (A_X9_round _ (hC.2.2.2.2.2.2.2.2.2.2.2.2.1) _ _ _ ((gI h (7, 0, 14) x3.toNatClampNeg) + x1) h)) rfl rfl rfl rfl rfl ⟨rfl, rfl⟩ ?_
      refine aw_aload_n hC dX9_inversions_63 rfl ?_
      refine aw_aload_n hC dX9_inversions_64 rfl ?_
      refine aw_gfR hC dX9_inversions_65 fg_RX9_57 rfl rfl rm_7_0_0 ?_
      refine aw_iload hC dX9_inversions_68 rfl ?_
      refine aw_guard rfl (fun g6 => ?_)
      refine aw_iald hC dX9_inversions_70 rm_7_0_14 rfl rfl g6 rfl ?_
      refine aw_iload_n hC dX9_inversions_71 rfl ?_
      refine aw_iadd hC dX9_inversions_72 ?_
      refine aw_bind rfl (fun q7 hq7 => ?_)
      refine aw_cVi hC dX9_inversions_73 cv_RX9_218 rfl rm_7_0_0 (am_some (inj := (fun r => (.inr (some (.int r)), h))) hq7 (A_X9_round _ (hC.2.2.2.2.2.2.2.2.2.2.2.2.1) _ _ _ ((gI h (7, 0, 14) x4.toNatClampNeg) + x1) h)) rfl rfl rfl rfl rfl ⟨rfl, rfl⟩ ?_
      refine aw_icmp_le hC dX9_inversions_76 (tgt := 83) (by decide) ?_ ?_
      · refine aw_iconst hC dX9_inversions_83 (v := 0) (by decide) ?_
        refine aw_cSi hC dX9_inversions_84 cv_RX9_115 (A_X9_truth _ (hC.2.2.2.2.2.2.2.2.2.2.2.2.1) _ _ _ false h) rfl rfl rfl rfl rfl ⟨rfl, rfl⟩ ?_
        refine aw_iadd hC dX9_inversions_87 ?_
        refine aw_istore_n hC dX9_inversions_88 (by decide) ?_
        refine aw_iinc hC dX9_inversions_89 rfl (v := x4 + 1) (by first | rfl | decide) (by decide) ?_
        refine aw_goto hC dX9_inversions_92 (tgt := 39) (by decide) ?_
        refine aw_sub [0, 1, 2, 3, 4] ?_
        exact ih39 (x2 + (jX9_truth false h)) (x4 + 1)
      · refine aw_iconst hC dX9_inversions_79 (v := 1) (by decide) ?_
        refine aw_goto hC dX9_inversions_80 (tgt := 84) (by decide) ?_
        refine aw_cSi hC dX9_inversions_84 cv_RX9_115 (A_X9_truth _ (hC.2.2.2.2.2.2.2.2.2.2.2.2.1) _ _ _ true h) rfl rfl rfl rfl rfl ⟨rfl, rfl⟩ ?_
        refine aw_iadd hC dX9_inversions_87 ?_
        refine aw_istore_n hC dX9_inversions_88 (by decide) ?_
        refine aw_iinc hC dX9_inversions_89 rfl (v := x4 + 1) (by first | rfl | decide) (by decide) ?_
        refine aw_goto hC dX9_inversions_92 (tgt := 39) (by decide) ?_
        refine aw_sub [0, 1, 2, 3, 4] ?_
        exact ih39 (x2 + (jX9_truth true h)) (x4 + 1)
set_option maxHeartbeats 4000000 in
set_option maxRecDepth 100000 in
theorem L_X9_inversions_24 (x1 : Int32) (h : HD) (hC : Cx p l e R s m args meth c D loc cy A cX9_inversions 5 (some .int) RX9 4 103 0 0)  : ∀ (n24 : Nat) (x2 : Int32) (x3 : Int32), AW p l e R s m args below meth c D loc cy A 5 (QM below D loc cy A args s) (fun (r : Option (Int32 × HD)) => r.map (fun r => (.inr (some (.int r.1)), r.2))) (0, 0) 24 [(0, .ref (loc (7, 0, 0))), (1, .int x1), (2, .int x2), (3, .int x3)] [] h (jX9_inversions_L24 x1 h n24 x2 x3) := by
  intro n24
  induction n24 with
  | zero => intro x2 x3; exact aw_none rfl
  | succ n24 ih24 =>
    intro x2 x3
    rw [jX9_inversions_L24]
    refine aw_iload_n hC dX9_inversions_24 rfl ?_
    refine aw_aload_n hC dX9_inversions_25 rfl ?_
    refine aw_gfR hC dX9_inversions_26 fg_RX9_20 rfl rfl rm_7_0_0 ?_
    refine aw_iconst hC dX9_inversions_29 (v := 0) (by decide) ?_
    refine aw_iald hC dX9_inversions_30 rm_7_0_2 rfl rfl (by decide) (k := 0) (by decide) ?_
    refine aw_icmp_ge hC dX9_inversions_31 (tgt := 101) (by decide) ?_ ?_
    · refine aw_iload_n hC dX9_inversions_101 rfl ?_
      exact aw_iret hC dX9_inversions_102 rfl rfl
    · refine aw_iload_n hC dX9_inversions_34 rfl ?_
      refine aw_iconst hC dX9_inversions_35 (v := 1) (by decide) ?_
      refine aw_iadd hC dX9_inversions_36 ?_
      refine aw_istore hC dX9_inversions_37 (by decide) ?_
      refine aw_sub [0, 1, 2, 3, 4] ?_
      refine L_X9_inversions_39 x1 x3 h _ hC ?_ FU x2 (x3 + (1 : Int32))
      · intro y39_2
        refine aw_iinc hC dX9_inversions_95 rfl (v := x3 + 1) (by first | rfl | decide) (by decide) ?_
        refine aw_goto hC dX9_inversions_98 (tgt := 24) (by decide) ?_
        refine aw_sub [0, 1, 2, 3] ?_
        exact ih24 y39_2 (x3 + 1)
set_option maxHeartbeats 4000000 in
set_option maxRecDepth 100000 in
theorem A_X9_inversions (l : Launch) (hl0 : l.stackTraces = false) (D : va_G) (loc : Rf → Nat) (cy : Nat → ClassId)  (h : HD) : AM l D loc cy yX9_inversions cX9_inversions 5 (some .int) 4 103 [.ref (loc (7, 0, 0))] h ((jX9_inversions h).map (fun r => (.inr (some (.int r.1)), r.2))) := by
  refine am_start (y := yX9_inversions) (av := [.ref (loc (7, 0, 0))]) (nL := 5) (h := h) (RF := fun (r : Option (Int32 × HD)) => r.map (fun r => (.inr (some (.int r.1)), r.2))) (x := jX9_inversions h) hl0 (by decide +kernel) rfl ?_
  intro p e R s m below meth c A hC
  unfold jX9_inversions
  refine aw_aload_n hC dX9_inversions_0 rfl ?_
  refine aw_iconst hC dX9_inversions_1 (v := 0) (by decide) ?_
  refine aw_pfI hC dX9_inversions_2 fg_RX9_112 fp_7_0 rfl rm_7_0_0 (fun h1 => ?_)
  refine aw_aload_n hC dX9_inversions_5 rfl ?_
  refine aw_aload_n hC dX9_inversions_6 rfl ?_
  refine aw_gfR hC dX9_inversions_7 fg_RX9_20 rfl rfl rm_7_0_0 ?_
  refine aw_iconst hC dX9_inversions_10 (v := 0) (by decide) ?_
  refine aw_iald hC dX9_inversions_11 rm_7_0_2 rfl rfl (by decide) (k := 0) (by decide) ?_
  refine aw_bind rfl (fun q2 hq2 => ?_)
  refine aw_cVv hC dX9_inversions_12 cv_RX9_230 rfl rm_7_0_0 (am_some (inj := (fun r => (.inr (none), r))) hq2 (A_X9_parks _ (hC.2.2.2.2.2.2.2.2.2.2.2.2.1) _ _ _ (gI h1 (7, 0, 2) 0) h1)) rfl rfl rfl rfl rfl ⟨rfl, rfl⟩ ?_
  refine aw_aload_n hC dX9_inversions_15 rfl ?_
  refine aw_bind rfl (fun q3 hq3 => ?_)
  refine aw_cVi hC dX9_inversions_16 cv_RX9_233 rfl rm_7_0_0 (am_some (inj := (fun r => (.inr (some (.int r)), q2))) hq3 (A_X9_turnNow _ (hC.2.2.2.2.2.2.2.2.2.2.2.2.1) _ _ _ q2)) rfl rfl rfl rfl rfl ⟨rfl, rfl⟩ ?_
  refine aw_istore_n hC dX9_inversions_19 (by decide) ?_
  refine aw_iconst hC dX9_inversions_20 (v := 0) (by decide) ?_
  refine aw_istore_n hC dX9_inversions_21 (by decide) ?_
  refine aw_iconst hC dX9_inversions_22 (v := 0) (by decide) ?_
  refine aw_istore_n hC dX9_inversions_23 (by decide) ?_
  refine aw_sub [0, 1, 2, 3] ?_
  exact L_X9_inversions_24 q3 q2  hC FU (0 : Int32) (0 : Int32)
set_option maxHeartbeats 4000000 in
set_option maxRecDepth 100000 in
theorem L_X9_descents_9 (h : HD) (hC : Cx p l e R s m args meth c D loc cy A cX9_descents 3 (some .int) RX9 1 37 0 0)  : ∀ (n9 : Nat) (x1 : Int32) (x2 : Int32), AW p l e R s m args below meth c D loc cy A 3 (QM below D loc cy A args s) (fun (r : Option (Int32 × HD)) => r.map (fun r => (.inr (some (.int r.1)), r.2))) (0, 0) 9 [(0, .ref (loc (7, 0, 0))), (1, .int x1), (2, .int x2)] [] h (jX9_descents_L9 h n9 x1 x2) := by
  intro n9
  induction n9 with
  | zero => intro x1 x2; exact aw_none rfl
  | succ n9 ih9 =>
    intro x1 x2
    rw [jX9_descents_L9]
    refine aw_iload_n hC dX9_descents_9 rfl ?_
    refine aw_aload_n hC dX9_descents_10 rfl ?_
    refine aw_gfR hC dX9_descents_11 fg_RX9_20 rfl rfl rm_7_0_0 ?_
    refine aw_iconst hC dX9_descents_14 (v := 0) (by decide) ?_
    refine aw_iald hC dX9_descents_15 rm_7_0_2 rfl rfl (by decide) (k := 0) (by decide) ?_
    refine aw_icmp_ge hC dX9_descents_16 (tgt := 51) (by decide) ?_ ?_
    · refine aw_iload_n hC dX9_descents_51 rfl ?_
      exact aw_iret hC dX9_descents_52 rfl rfl
    · refine aw_iload_n hC dX9_descents_19 rfl ?_
      refine aw_aload_n hC dX9_descents_20 rfl ?_
      refine aw_iload_n hC dX9_descents_21 rfl ?_
      refine aw_bind rfl (fun q2 hq2 => ?_)
      refine aw_cVi hC dX9_descents_22 cv_RX9_221 rfl rm_7_0_0 (am_some (inj := (fun r => (.inr (some (.int r)), h))) hq2 (A_X9_wishOf _ (hC.2.2.2.2.2.2.2.2.2.2.2.2.1) _ _ _ x2 h)) rfl rfl rfl rfl rfl ⟨rfl, rfl⟩ ?_
      refine aw_aload_n hC dX9_descents_25 rfl ?_
      refine aw_iload_n hC dX9_descents_26 rfl ?_
      refine aw_iconst hC dX9_descents_27 (v := 1) (by decide) ?_
      refine aw_isub hC dX9_descents_28 ?_
      refine aw_bind rfl (fun q3 hq3 => ?_)
      refine aw_cVi hC dX9_descents_29 cv_RX9_221 rfl rm_7_0_0 (am_some (inj := (fun r => (.inr (some (.int r)), h))) hq3 (A_X9_wishOf _ (hC.2.2.2.2.2.2.2.2.2.2.2.2.1) _ _ _ (x2 - (1 : Int32)) h)) rfl rfl rfl rfl rfl ⟨rfl, rfl⟩ ?_
      refine aw_icmp_ge hC dX9_descents_32 (tgt := 39) (by decide) ?_ ?_
      · refine aw_iconst hC dX9_descents_39 (v := 0) (by decide) ?_
        refine aw_cSi hC dX9_descents_40 cv_RX9_115 (A_X9_truth _ (hC.2.2.2.2.2.2.2.2.2.2.2.2.1) _ _ _ false h) rfl rfl rfl rfl rfl ⟨rfl, rfl⟩ ?_
        refine aw_iadd hC dX9_descents_43 ?_
        refine aw_istore_n hC dX9_descents_44 (by decide) ?_
        refine aw_iinc hC dX9_descents_45 rfl (v := x2 + 1) (by first | rfl | decide) (by decide) ?_
        refine aw_goto hC dX9_descents_48 (tgt := 9) (by decide) ?_
        refine aw_sub [0, 1, 2] ?_
        exact ih9 (x1 + (jX9_truth false h)) (x2 + 1)
      · refine aw_iconst hC dX9_descents_35 (v := 1) (by decide) ?_
        refine aw_goto hC dX9_descents_36 (tgt := 40) (by decide) ?_
        refine aw_cSi hC dX9_descents_40 cv_RX9_115 (A_X9_truth _ (hC.2.2.2.2.2.2.2.2.2.2.2.2.1) _ _ _ true h) rfl rfl rfl rfl rfl ⟨rfl, rfl⟩ ?_
        refine aw_iadd hC dX9_descents_43 ?_
        refine aw_istore_n hC dX9_descents_44 (by decide) ?_
        refine aw_iinc hC dX9_descents_45 rfl (v := x2 + 1) (by first | rfl | decide) (by decide) ?_
        refine aw_goto hC dX9_descents_48 (tgt := 9) (by decide) ?_
        refine aw_sub [0, 1, 2] ?_
        exact ih9 (x1 + (jX9_truth true h)) (x2 + 1)
set_option maxHeartbeats 4000000 in
set_option maxRecDepth 100000 in
theorem A_X9_descents (l : Launch) (hl0 : l.stackTraces = false) (D : va_G) (loc : Rf → Nat) (cy : Nat → ClassId)  (h : HD) : AM l D loc cy yX9_descents cX9_descents 3 (some .int) 1 37 [.ref (loc (7, 0, 0))] h ((jX9_descents h).map (fun r => (.inr (some (.int r.1)), r.2))) := by
  refine am_start (y := yX9_descents) (av := [.ref (loc (7, 0, 0))]) (nL := 3) (h := h) (RF := fun (r : Option (Int32 × HD)) => r.map (fun r => (.inr (some (.int r.1)), r.2))) (x := jX9_descents h) hl0 (by decide +kernel) rfl ?_
  intro p e R s m below meth c A hC
  unfold jX9_descents
  refine aw_aload_n hC dX9_descents_0 rfl ?_
  refine aw_iconst hC dX9_descents_1 (v := 0) (by decide) ?_
  refine aw_pfI hC dX9_descents_2 fg_RX9_112 fp_7_0 rfl rm_7_0_0 (fun h1 => ?_)
  refine aw_iconst hC dX9_descents_5 (v := 0) (by decide) ?_
  refine aw_istore_n hC dX9_descents_6 (by decide) ?_
  refine aw_iconst hC dX9_descents_7 (v := 1) (by decide) ?_
  refine aw_istore_n hC dX9_descents_8 (by decide) ?_
  refine aw_sub [0, 1, 2] ?_
  exact L_X9_descents_9 h1  hC FU (0 : Int32) (1 : Int32)
set_option maxHeartbeats 4000000 in
set_option maxRecDepth 100000 in
theorem A_X9_codes (l : Launch) (hl0 : l.stackTraces = false) (D : va_G) (loc : Rf → Nat) (cy : Nat → ClassId)  (h : HD) : AM l D loc cy yX9_codes cX9_codes 1 (some .int) 0 16 [.ref (loc (7, 0, 0))] h ((jX9_codes h).map (fun r => (.inr (some (.int r)), h))) := by
  refine am_start (y := yX9_codes) (av := [.ref (loc (7, 0, 0))]) (nL := 1) (h := h) (RF := fun (r : Option Int32) => r.map (fun r => (.inr (some (.int r)), h))) (x := jX9_codes h) hl0 (by decide +kernel) rfl ?_
  intro p e R s m below meth c A hC
  unfold jX9_codes
  refine aw_aload_n hC dX9_codes_0 rfl ?_
  refine aw_gfR hC dX9_codes_1 fg_RX9_20 rfl rfl rm_7_0_0 ?_
  refine aw_iconst hC dX9_codes_4 (v := 0) (by decide) ?_
  refine aw_iald hC dX9_codes_5 rm_7_0_2 rfl rfl (by decide) (k := 0) (by decide) ?_
  refine aw_iconst hC dX9_codes_6 (v := 1) (by decide) ?_
  refine aw_icmp_le hC dX9_codes_7 (tgt := 21) (by decide) ?_ ?_
  · refine aw_iconst hC dX9_codes_21 (v := 0) (by decide) ?_
    exact aw_iret hC dX9_codes_22 rfl rfl
  · refine aw_aload_n hC dX9_codes_10 rfl ?_
    refine aw_gfR hC dX9_codes_11 fg_RX9_20 rfl rfl rm_7_0_0 ?_
    refine aw_iconst hC dX9_codes_14 (v := 0) (by decide) ?_
    refine aw_iald hC dX9_codes_15 rm_7_0_2 rfl rfl (by decide) (k := 0) (by decide) ?_
    refine aw_iconst hC dX9_codes_16 (v := 1) (by decide) ?_
    refine aw_isub hC dX9_codes_17 ?_
    refine aw_goto hC dX9_codes_18 (tgt := 22) (by decide) ?_
    exact aw_iret hC dX9_codes_22 rfl rfl
set_option maxHeartbeats 4000000 in
set_option maxRecDepth 100000 in
theorem A_X9_codeAt (l : Launch) (hl0 : l.stackTraces = false) (D : va_G) (loc : Rf → Nat) (cy : Nat → ClassId) (p1 : Int32) (h : HD) : AM l D loc cy yX9_codeAt cX9_codeAt 2 (some .int) 2 58 [.ref (loc (7, 0, 0)), .int p1] h ((jX9_codeAt p1 h).map (fun r => (.inr (some (.int r)), h))) := by
  refine am_start (y := yX9_codeAt) (av := [.ref (loc (7, 0, 0)), .int p1]) (nL := 2) (h := h) (RF := fun (r : Option Int32) => r.map (fun r => (.inr (some (.int r)), h))) (x := jX9_codeAt p1 h) hl0 (by decide +kernel) rfl ?_
  intro p e R s m below meth c A hC
  unfold jX9_codeAt
  refine aw_aload_n hC dX9_codeAt_0 rfl ?_
  refine aw_aload_n hC dX9_codeAt_1 rfl ?_
  refine aw_iload_n hC dX9_codeAt_2 rfl ?_
  refine aw_iconst hC dX9_codeAt_3 (v := 1) (by decide) ?_
  refine aw_iadd hC dX9_codeAt_4 ?_
  refine aw_bind rfl (fun q1 hq1 => ?_)
  refine aw_cVi hC dX9_codeAt_5 cv_RX9_221 rfl rm_7_0_0 (am_some (inj := (fun r => (.inr (some (.int r)), h))) hq1 (A_X9_wishOf _ (hC.2.2.2.2.2.2.2.2.2.2.2.2.1) _ _ _ (p1 + (1 : Int32)) h)) rfl rfl rfl rfl rfl ⟨rfl, rfl⟩ ?_
  refine aw_aload_n hC dX9_codeAt_8 rfl ?_
  refine aw_iload_n hC dX9_codeAt_9 rfl ?_
  refine aw_bind rfl (fun q2 hq2 => ?_)
  refine aw_cVi hC dX9_codeAt_10 cv_RX9_221 rfl rm_7_0_0 (am_some (inj := (fun r => (.inr (some (.int r)), h))) hq2 (A_X9_wishOf _ (hC.2.2.2.2.2.2.2.2.2.2.2.2.1) _ _ _ p1 h)) rfl rfl rfl rfl rfl ⟨rfl, rfl⟩ ?_
  refine aw_isub hC dX9_codeAt_13 ?_
  refine aw_bind rfl (fun q3 hq3 => ?_)
  refine aw_cVi hC dX9_codeAt_14 cv_RX9_218 rfl rm_7_0_0 (am_some (inj := (fun r => (.inr (some (.int r)), h))) hq3 (A_X9_round _ (hC.2.2.2.2.2.2.2.2.2.2.2.2.1) _ _ _ (q1 - q2) h)) rfl rfl rfl rfl rfl ⟨rfl, rfl⟩ ?_
  exact aw_iret hC dX9_codeAt_17 rfl rfl
set_option maxHeartbeats 4000000 in
set_option maxRecDepth 100000 in
theorem A_X9_joins (l : Launch) (hl0 : l.stackTraces = false) (D : va_G) (loc : Rf → Nat) (cy : Nat → ClassId) (p1 : Int32) (p2 : Int32) (h : HD) : AM l D loc cy yX9_joins cX9_joins 3 (none) 1 37 [.ref (loc (7, 0, 0)), .int p1, .int p2] h ((jX9_joins p1 p2 h).map (fun r => (.inr (none), r))) := by
  refine am_start (y := yX9_joins) (av := [.ref (loc (7, 0, 0)), .int p1, .int p2]) (nL := 3) (h := h) (RF := fun (r : Option HD) => r.map (fun r => (.inr (none), r))) (x := jX9_joins p1 p2 h) hl0 (by decide +kernel) rfl ?_
  intro p e R s m below meth c A hC
  unfold jX9_joins
  refine aw_aload_n hC dX9_joins_0 rfl ?_
  refine aw_gfR hC dX9_joins_1 fg_RX9_72 rfl rfl rm_7_0_0 ?_
  refine aw_aload_n hC dX9_joins_4 rfl ?_
  refine aw_gfI hC dX9_joins_5 fg_RX9_363 rfl rm_7_0_0 ?_
  refine aw_iload_n hC dX9_joins_8 rfl ?_
  refine aw_iload_n hC dX9_joins_9 rfl ?_
  refine aw_cSi hC dX9_joins_10 cv_RX9_366 (A_X9_lesser _ (hC.2.2.2.2.2.2.2.2.2.2.2.2.1) _ _ _ p1 p2 h) rfl rfl rfl rfl rfl ⟨rfl, rfl⟩ ?_
  refine aw_guard rfl (fun g2 => ?_)
  refine aw_iast hC dX9_joins_13 rm_7_0_19 rfl rfl g2 rfl (fun h1 => ?_)
  refine aw_aload_n hC dX9_joins_14 rfl ?_
  refine aw_gfR hC dX9_joins_15 fg_RX9_75 rfl rfl rm_7_0_0 ?_
  refine aw_aload_n hC dX9_joins_18 rfl ?_
  refine aw_gfI hC dX9_joins_19 fg_RX9_363 rfl rm_7_0_0 ?_
  refine aw_iload_n hC dX9_joins_22 rfl ?_
  refine aw_iload_n hC dX9_joins_23 rfl ?_
  refine aw_iadd hC dX9_joins_24 ?_
  refine aw_iload_n hC dX9_joins_25 rfl ?_
  refine aw_iload_n hC dX9_joins_26 rfl ?_
  refine aw_cSi hC dX9_joins_27 cv_RX9_366 (A_X9_lesser _ (hC.2.2.2.2.2.2.2.2.2.2.2.2.1) _ _ _ p1 p2 h1) rfl rfl rfl rfl rfl ⟨rfl, rfl⟩ ?_
  refine aw_isub hC dX9_joins_30 ?_
  refine aw_guard rfl (fun g4 => ?_)
  refine aw_iast hC dX9_joins_31 rm_7_0_20 rfl rfl g4 rfl (fun h3 => ?_)
  refine aw_aload_n hC dX9_joins_32 rfl ?_
  refine aw_dup hC dX9_joins_33 rfl ?_
  refine aw_gfI hC dX9_joins_34 fg_RX9_363 rfl rm_7_0_0 ?_
  refine aw_iconst hC dX9_joins_37 (v := 1) (by decide) ?_
  refine aw_iadd hC dX9_joins_38 ?_
  refine aw_pfI hC dX9_joins_39 fg_RX9_363 fp_7_38 rfl rm_7_0_0 (fun h5 => ?_)
  exact aw_vret hC dX9_joins_42 rfl rfl
end PRF
