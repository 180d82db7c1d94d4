section PRF
variable {p : Program} {l : Launch} {e : Env} {R : Room} {s : State} {m : MethodId} {args : Array Value} {below : List Frame} {meth : Method} {c : Code} {D : va_G} {loc : Rf → Nat} {cy : Nat → ClassId} {A : Nat → Prop}
set_option maxHeartbeats 4000000 in
set_option maxRecDepth 100000 in
theorem L_X8_doCommands_l3_6 (p1 : Int32) (p2 : Int32) (p3 : Int32) (hC : Cx p l e R s m args meth c D loc cy A cX8_doCommands 6 (some .boolean) RX8 9 260 0 0)  : ∀ (n6 : Nat) (x4 : Int32) (x5 : Int32) (h : HD), AW p l e R s m args below meth c D loc cy A 6 (QM below D loc cy A args s) (fun (r : Option (Bool × HD)) => r.map (fun r => (.inr (some (.int (b2i r.1))), r.2))) (0, 0) 6 [(0, .ref (loc (6, 0, 0))), (2, .int p2), (3, .int p3), (4, .int x4), (5, .int x5)] [] h (jX8_doCommands_l3_L6 p1 p2 p3 n6 x4 x5 h) := by
  intro n6
  induction n6 with
  | zero => intro x4 x5 h; exact aw_none rfl
  | succ n6 ih6 =>
    intro x4 x5 h
    rw [jX8_doCommands_l3_L6]
    refine aw_iload hC dX8_doCommands_6 rfl ?_
    refine aw_bipush hC dX8_doCommands_8 (v := 30) (by decide) ?_
    refine aw_icmp_ge hC dX8_doCommands_10 (tgt := 93) (by decide) ?_ ?_
    · refine aw_iconst hC dX8_doCommands_93 (v := 1) (by decide) ?_
      exact aw_zret hC dX8_doCommands_94 rfl (show _ = b2i true from rfl) rfl
    · refine aw_iload hC dX8_doCommands_13 rfl ?_
      refine aw_iload_n hC dX8_doCommands_15 rfl ?_
      refine aw_icmp_ge hC dX8_doCommands_16 (tgt := 93) (by decide) ?_ ?_
      · refine aw_iconst hC dX8_doCommands_93 (v := 1) (by decide) ?_
        exact aw_zret hC dX8_doCommands_94 rfl (show _ = b2i true from rfl) rfl
      · refine aw_aload_n hC dX8_doCommands_19 rfl ?_
        refine aw_gfR hC dX8_doCommands_20 fg_RX8_35 rfl rfl rm_6_0_0 ?_
        refine aw_iload hC dX8_doCommands_23 rfl ?_
        refine aw_bind rfl (fun q1 hq1 => ?_)
        refine aw_cVo hC dX8_doCommands_25 cv_RX8_480 rfl rm_3_0_0 (am_some (inj := (fun r => (.inr (some (cmv loc r)), h))) hq1 (A_X5_commandAt _ (hC.2.2.2.2.2.2.2.2.2.2.2.2.1) _ _ _ x4 h)) rfl rfl rfl rfl rfl ⟨rfl, rfl⟩ ?_
        refine aw_oc ?_ (fun k2 => aw_guardP rfl (fun g3 => ?_))
        · refine aw_gsO hC dX8_doCommands_28 tw5_49 (st_rep (cx_st hC)) ?_
          refine aw_acmpneN hC dX8_doCommands_31 (tgt := 46) (by decide) ?_
          refine aw_aload_n hC dX8_doCommands_46 rfl ?_
          refine aw_gfI hC dX8_doCommands_47 fg_RX8_88 rfl rm_6_0_0 ?_
          refine aw_bipush hC dX8_doCommands_50 (v := 40) (by decide) ?_
          refine aw_icmp_ge hC dX8_doCommands_52 (tgt := 64) (by decide) ?_ ?_
          · refine aw_iconst hC dX8_doCommands_64 (v := 0) (by decide) ?_
            exact aw_zret hC dX8_doCommands_65 rfl (show _ = b2i false from rfl) rfl
          · refine aw_aload_n hC dX8_doCommands_55 rfl ?_
            refine aw_iload hC dX8_doCommands_56 rfl ?_
            refine aw_bind rfl (fun q4 hq4 => ?_)
            refine aw_cVb hC dX8_doCommands_58 cv_RX8_493 rfl rm_6_0_0 (am_some (inj := (fun r => (.inr (some (.int (b2i r.1))), r.2))) hq4 (A_X8_doCommand _ (hC.2.2.2.2.2.2.2.2.2.2.2.2.1) _ _ _ x4 h)) rfl rfl rfl rfl rfl ⟨rfl, rfl⟩ ?_
            refine aw_if_ne_b hC dX8_doCommands_61 (tgt := 66) (by decide) ?_ ?_
            · refine aw_aload_n hC dX8_doCommands_66 rfl ?_
              refine aw_dup hC dX8_doCommands_67 rfl ?_
              refine aw_gfI hC dX8_doCommands_68 fg_RX8_88 rfl rm_6_0_0 ?_
              refine aw_iconst hC dX8_doCommands_71 (v := 1) (by decide) ?_
              refine aw_iadd hC dX8_doCommands_72 ?_
              refine aw_pfI hC dX8_doCommands_73 fg_RX8_88 fp_6_15 rfl rm_6_0_0 (fun h5 => ?_)
              refine aw_aload_n hC dX8_doCommands_76 rfl ?_
              refine aw_gfR hC dX8_doCommands_77 fg_RX8_35 rfl rfl rm_6_0_0 ?_
              refine aw_iload hC dX8_doCommands_80 rfl ?_
              refine aw_bind rfl (fun q6 hq6 => ?_)
              refine aw_cVi hC dX8_doCommands_82 cv_RX8_496 rfl rm_3_0_0 (am_some (inj := (fun r => (.inr (some (.int r)), h5))) hq6 (A_X5_behind _ (hC.2.2.2.2.2.2.2.2.2.2.2.2.1) _ _ _ x4 h5)) rfl rfl rfl rfl rfl ⟨rfl, rfl⟩ ?_
              refine aw_istore hC dX8_doCommands_85 (by decide) ?_
              refine aw_iinc hC dX8_doCommands_87 rfl (v := x5 + 1) (by first | rfl | decide) (by decide) ?_
              refine aw_goto hC dX8_doCommands_90 (tgt := 6) (by decide) ?_
              refine aw_sub [0, 2, 3, 4, 5] ?_
              exact ih6 q6 (x5 + 1) h5
            · refine aw_iconst hC dX8_doCommands_64 (v := 0) (by decide) ?_
              exact aw_zret hC dX8_doCommands_65 rfl (show _ = b2i false from rfl) rfl
        · refine aw_gsO hC dX8_doCommands_28 tw5_49 (st_rep (cx_st hC)) ?_
          refine aw_acmpne hC dX8_doCommands_31 (tgt := 46) (by decide) g3 (by decide) ?_ ?_
          · refine aw_aload_n hC dX8_doCommands_46 rfl ?_
            refine aw_gfI hC dX8_doCommands_47 fg_RX8_88 rfl rm_6_0_0 ?_
            refine aw_bipush hC dX8_doCommands_50 (v := 40) (by decide) ?_
            refine aw_icmp_ge hC dX8_doCommands_52 (tgt := 64) (by decide) ?_ ?_
            · refine aw_iconst hC dX8_doCommands_64 (v := 0) (by decide) ?_
              exact aw_zret hC dX8_doCommands_65 rfl (show _ = b2i false from rfl) rfl
            · refine aw_aload_n hC dX8_doCommands_55 rfl ?_
              refine aw_iload hC dX8_doCommands_56 rfl ?_
              refine aw_bind rfl (fun q7 hq7 => ?_)
              refine aw_cVb hC dX8_doCommands_58 cv_RX8_493 rfl rm_6_0_0 (am_some (inj := (fun r => (.inr (some (.int (b2i r.1))), r.2))) hq7 (A_X8_doCommand _ (hC.2.2.2.2.2.2.2.2.2.2.2.2.1) _ _ _ x4 h)) rfl rfl rfl rfl rfl ⟨rfl, rfl⟩ ?_
              refine aw_if_ne_b hC dX8_doCommands_61 (tgt := 66) (by decide) ?_ ?_
              · refine aw_aload_n hC dX8_doCommands_66 rfl ?_
                refine aw_dup hC dX8_doCommands_67 rfl ?_
                refine aw_gfI hC dX8_doCommands_68 fg_RX8_88 rfl rm_6_0_0 ?_
                refine aw_iconst hC dX8_doCommands_71 (v := 1) (by decide) ?_
                refine aw_iadd hC dX8_doCommands_72 ?_
                refine aw_pfI hC dX8_doCommands_73 fg_RX8_88 fp_6_15 rfl rm_6_0_0 (fun h8 => ?_)
                refine aw_aload_n hC dX8_doCommands_76 rfl ?_
                refine aw_gfR hC dX8_doCommands_77 fg_RX8_35 rfl rfl rm_6_0_0 ?_
                refine aw_iload hC dX8_doCommands_80 rfl ?_
                refine aw_bind rfl (fun q9 hq9 => ?_)
                refine aw_cVi hC dX8_doCommands_82 cv_RX8_496 rfl rm_3_0_0 (am_some (inj := (fun r => (.inr (some (.int r)), h8))) hq9 (A_X5_behind _ (hC.2.2.2.2.2.2.2.2.2.2.2.2.1) _ _ _ x4 h8)) rfl rfl rfl rfl rfl ⟨rfl, rfl⟩ ?_
                refine aw_istore hC dX8_doCommands_85 (by decide) ?_
                refine aw_iinc hC dX8_doCommands_87 rfl (v := x5 + 1) (by first | rfl | decide) (by decide) ?_
                refine aw_goto hC dX8_doCommands_90 (tgt := 6) (by decide) ?_
                refine aw_sub [0, 2, 3, 4, 5] ?_
                exact ih6 q9 (x5 + 1) h8
              · refine aw_iconst hC dX8_doCommands_64 (v := 0) (by decide) ?_
                exact aw_zret hC dX8_doCommands_65 rfl (show _ = b2i false from rfl) rfl
          · refine aw_aload_n hC dX8_doCommands_34 rfl ?_
            refine aw_iload hC dX8_doCommands_35 rfl ?_
            refine aw_iload_n hC dX8_doCommands_37 rfl ?_
            refine aw_bind rfl (fun q10 hq10 => ?_)
            refine aw_cVb hC dX8_doCommands_38 cv_RX8_490 rfl rm_6_0_0 (am_some (inj := (fun r => (.inr (some (.int (b2i r.1))), r.2))) hq10 (A_X8_doRepeat_l3 _ (hC.2.2.2.2.2.2.2.2.2.2.2.2.1) _ _ _ x4 p3 h)) rfl rfl rfl rfl rfl ⟨rfl, rfl⟩ ?_
            refine aw_if_ne_b hC dX8_doCommands_41 (tgt := 76) (by decide) ?_ ?_
            · refine aw_aload_n hC dX8_doCommands_76 rfl ?_
              refine aw_gfR hC dX8_doCommands_77 fg_RX8_35 rfl rfl rm_6_0_0 ?_
              refine aw_iload hC dX8_doCommands_80 rfl ?_
              refine aw_bind rfl (fun q11 hq11 => ?_)
              refine aw_cVi hC dX8_doCommands_82 cv_RX8_496 rfl rm_3_0_0 (am_some (inj := (fun r => (.inr (some (.int r)), q10.2))) hq11 (A_X5_behind _ (hC.2.2.2.2.2.2.2.2.2.2.2.2.1) _ _ _ x4 q10.2)) rfl rfl rfl rfl rfl ⟨rfl, rfl⟩ ?_
              refine aw_istore hC dX8_doCommands_85 (by decide) ?_
              refine aw_iinc hC dX8_doCommands_87 rfl (v := x5 + 1) (by first | rfl | decide) (by decide) ?_
              refine aw_goto hC dX8_doCommands_90 (tgt := 6) (by decide) ?_
              refine aw_sub [0, 2, 3, 4, 5] ?_
              exact ih6 q11 (x5 + 1) q10.2
            · refine aw_iconst hC dX8_doCommands_44 (v := 0) (by decide) ?_
              exact aw_zret hC dX8_doCommands_45 rfl (show _ = b2i false from rfl) rfl
set_option maxHeartbeats 4000000 in
set_option maxRecDepth 100000 in
theorem A_X8_doCommands_l3 (l : Launch) (hl0 : l.stackTraces = false) (D : va_G) (loc : Rf → Nat) (cy : Nat → ClassId) (p1 : Int32) (p2 : Int32) (p3 : Int32) (h : HD) : AM l D loc cy yX8_doCommands cX8_doCommands 6 (some .boolean) 9 260 [.ref (loc (6, 0, 0)), .int p1, .int p2, .int p3] h ((jX8_doCommands_l3 p1 p2 p3 h).map (fun r => (.inr (some (.int (b2i r.1))), r.2))) := by
  refine am_start (y := yX8_doCommands) (av := [.ref (loc (6, 0, 0)), .int p1, .int p2, .int p3]) (nL := 6) (h := h) (RF := fun (r : Option (Bool × HD)) => r.map (fun r => (.inr (some (.int (b2i r.1))), r.2))) (x := jX8_doCommands_l3 p1 p2 p3 h) hl0 (by decide +kernel) rfl ?_
  intro p e R s m below meth c A hC
  unfold jX8_doCommands_l3
  refine aw_iload_n hC dX8_doCommands_0 rfl ?_
  refine aw_istore hC dX8_doCommands_1 (by decide) ?_
  refine aw_iconst hC dX8_doCommands_3 (v := 0) (by decide) ?_
  refine aw_istore hC dX8_doCommands_4 (by decide) ?_
  refine aw_sub [0, 2, 3, 4, 5] ?_
  exact L_X8_doCommands_l3_6 p1 p2 p3  hC FU p1 (0 : Int32) h
set_option maxHeartbeats 4000000 in
set_option maxRecDepth 100000 in
theorem A_X8_runScript (l : Launch) (hl0 : l.stackTraces = false) (D : va_G) (loc : Rf → Nat) (cy : Nat → ClassId)  (h : HD) : AX l D loc cy yX8_runScript (Cond.code yX8_runScript cX8_runScript 2 (some .int) :: LW) 10 285 1 6 [.ref (loc (6, 0, 0))] h ((jX8_runScript h).map (fun r => (xi (fun v => some (.int v)) r.1, r.2))) := by
  refine ax_start (y := yX8_runScript) (av := [.ref (loc (6, 0, 0))]) (nL := 2) (h := h) (RF := fun (r : Option ((Nat ⊕ Int32) × HD)) => r.map (fun r => (xi (fun v => some (.int v)) r.1, r.2))) (x := jX8_runScript h) hl0 (by decide +kernel) rfl ?_
  intro p e R s m below meth c A hxt hC
  unfold jX8_runScript
  refine aw_aload_n hC dX8_runScript_0 rfl ?_
  refine aw_gfR hC dX8_runScript_1 fg_RX8_12 rfl rfl rm_6_0_0 ?_
  refine aw_bind rfl (fun q1 hq1 => ?_)
  refine aw_cVv hC dX8_runScript_4 cv_RX8_122 rfl rm_4_0_0 (am_some (inj := (fun r => (.inr (none), r))) hq1 (A_X6_begin _ (hC.2.2.2.2.2.2.2.2.2.2.2.2.1) _ _ _ h)) rfl rfl rfl rfl rfl ⟨rfl, rfl⟩ ?_
  refine aw_aload_n hC dX8_runScript_7 rfl ?_
  refine aw_gfR hC dX8_runScript_8 fg_RX8_35 rfl rfl rm_6_0_0 ?_
  refine aw_aload_n hC dX8_runScript_11 rfl ?_
  refine aw_gfR hC dX8_runScript_12 fg_RX8_12 rfl rfl rm_6_0_0 ?_
  refine aw_bind rfl (fun q2 hq2 => ?_)
  refine aw_cVb hC dX8_runScript_15 cv_RX8_141 rfl rm_3_0_0 (am_some (inj := (fun r => (.inr (some (.int (b2i r.1))), r.2))) hq2 (A_X5_read _ (hC.2.2.2.2.2.2.2.2.2.2.2.2.1) _ _ _ q1)) rfl rfl rfl rfl rfl ⟨rfl, rfl⟩ ?_
  refine aw_istore_n hC dX8_runScript_18 (by decide) ?_
  refine aw_aload_n hC dX8_runScript_19 rfl ?_
  refine aw_bind rfl (fun q3 hq3 => ?_)
  refine aw_cVv hC dX8_runScript_20 cv_RX8_129 rfl rm_6_0_0 (am_some (inj := (fun r => (.inr (none), r))) hq3 (A_X8_endReading _ (hC.2.2.2.2.2.2.2.2.2.2.2.2.1) _ _ _ q2.2)) rfl rfl rfl rfl rfl ⟨rfl, rfl⟩ ?_
  refine aw_iload_n hC dX8_runScript_23 rfl ?_
  refine aw_if_ne_b hC dX8_runScript_24 (tgt := 37) (by decide) ?_ ?_
  · refine aw_aload_n hC dX8_runScript_37 rfl ?_
    refine aw_bind rfl (fun q4 hq4 => ?_)
    refine aw_cVv hC dX8_runScript_38 cv_RX8_147 rfl rm_6_0_0 (am_some (inj := (fun r => (.inr (none), r))) hq4 (A_X8_note _ (hC.2.2.2.2.2.2.2.2.2.2.2.2.1) _ _ _ q3)) rfl rfl rfl rfl rfl ⟨rfl, rfl⟩ ?_
    refine aw_aload_n hC dX8_runScript_41 rfl ?_
    refine aw_iconst hC dX8_runScript_42 (v := 0) (by decide) ?_
    refine aw_pfI hC dX8_runScript_43 fg_RX8_88 fp_6_15 rfl rm_6_0_0 (fun h5 => ?_)
    refine aw_aload_n hC dX8_runScript_46 rfl ?_
    refine aw_iconst hC dX8_runScript_47 (v := 0) (by decide) ?_
    refine aw_aload_n hC dX8_runScript_48 rfl ?_
    refine aw_gfR hC dX8_runScript_49 fg_RX8_35 rfl rfl rm_6_0_0 ?_
    refine aw_cVi hC dX8_runScript_52 cv_RX8_150 rfl rm_3_0_0 (A_X5_count _ (hC.2.2.2.2.2.2.2.2.2.2.2.2.1) _ _ _ h5) rfl rfl rfl rfl rfl ⟨rfl, rfl⟩ ?_
    refine aw_iconst hC dX8_runScript_55 (v := 0) (by decide) ?_
    refine aw_bind rfl (fun q6 hq6 => ?_)
    refine aw_cVb hC dX8_runScript_56 cv_RX8_151 rfl rm_6_0_0 (am_some (inj := (fun r => (.inr (some (.int (b2i r.1))), r.2))) hq6 (A_X8_doCommands_l3 _ (hC.2.2.2.2.2.2.2.2.2.2.2.2.1) _ _ _ (0 : Int32) (jX5_count h5) (0 : Int32) h5)) rfl rfl rfl rfl rfl ⟨rfl, rfl⟩ ?_
    refine aw_pop hC dX8_runScript_59 rfl ?_
    refine aw_aload_n hC dX8_runScript_60 rfl ?_
    refine aw_bind rfl (fun q7 hq7 => ?_)
    refine aw_cVv hC dX8_runScript_61 cv_RX8_155 rfl rm_6_0_0 (am_some (inj := (fun r => (.inr (none), r))) hq7 (A_X8_keepNoted _ (hC.2.2.2.2.2.2.2.2.2.2.2.2.1) _ _ _ q6.2)) rfl rfl rfl rfl rfl ⟨rfl, rfl⟩ ?_
    refine aw_aload_n hC dX8_runScript_64 rfl ?_
    refine aw_gfI hC dX8_runScript_65 fg_RX8_88 rfl rm_6_0_0 ?_
    exact aw_ireX hC dX8_runScript_68 rfl rfl rfl rfl
  · exact aw_throw1 (text := "the text is no script") (sid := 145) hC hxt dX8_runScript_27 dX8_runScript_30 dX8_runScript_31 dX8_runScript_33 dX8_runScript_36 tw4_35 tw1_13 (by decide +kernel) rfl rfl rfl rfl rfl rfl rfl
end PRF
