section PRF
variable {p : Program} {l : Launch} {e : Env} {R : Room} {s : State} {m : MethodId} {args : Array Value} {below : List Frame} {meth : Method} {c : Code} {D : va_G} {loc : Rf → Nat} {cy : Nat → ClassId} {A : Nat → Prop}
set_option maxHeartbeats 4000000 in
set_option maxRecDepth 100000 in
theorem A_X9_command (l : Launch) (hl0 : l.stackTraces = false) (D : va_G) (loc : Rf → Nat) (cy : Nat → ClassId)  (h : HD) : AM l D loc cy yX9_command cX9_command 3 (none) 4 108 [.ref (loc (7, 0, 0))] h ((jX9_command h).map (fun r => (.inr (none), r))) := by
  refine am_start (y := yX9_command) (av := [.ref (loc (7, 0, 0))]) (nL := 3) (h := h) (RF := fun (r : Option HD) => r.map (fun r => (.inr (none), r))) (x := jX9_command h) hl0 (by decide +kernel) rfl ?_
  intro p e R s m below meth c A hC
  unfold jX9_command
  refine aw_aload_n hC dX9_command_0 rfl ?_
  refine aw_cVi hC dX9_command_1 cv_RX9_502 rfl rm_7_0_0 (A_X9_commandHere _ (hC.2.2.2.2.2.2.2.2.2.2.2.2.1) _ _ _ h) rfl rfl rfl rfl rfl ⟨rfl, rfl⟩ ?_
  refine aw_istore_n hC dX9_command_4 (by decide) ?_
  refine aw_iload_n hC dX9_command_5 rfl ?_
  refine aw_iconst hC dX9_command_6 (v := -1) (by decide) ?_
  refine aw_icmp_ne hC dX9_command_7 (tgt := 15) (by decide) ?_ ?_
  · refine aw_iload_n hC dX9_command_15 rfl ?_
    refine aw_bipush hC dX9_command_16 (v := 8) (by decide) ?_
    refine aw_icmp_ne hC dX9_command_18 (tgt := 34) (by decide) ?_ ?_
    · refine aw_aload_n hC dX9_command_34 rfl ?_
      refine aw_gfI hC dX9_command_35 fg_RX9_508 rfl rm_7_0_0 ?_
      refine aw_bipush hC dX9_command_38 (v := 30) (by decide) ?_
      refine aw_icmp_ne hC dX9_command_40 (tgt := 48) (by decide) ?_ ?_
      · refine aw_aload_n hC dX9_command_48 rfl ?_
        refine aw_cVb hC dX9_command_49 cv_RX9_167 rfl rm_7_0_0 (A_X9_isGood _ (hC.2.2.2.2.2.2.2.2.2.2.2.2.1) _ _ _ h) rfl rfl rfl rfl rfl ⟨rfl, rfl⟩ ?_
        refine aw_if_ne_b hC dX9_command_52 (tgt := 56) (by decide) ?_ ?_
        · refine aw_aload_n hC dX9_command_56 rfl ?_
          refine aw_dup hC dX9_command_57 rfl ?_
          refine aw_gfI hC dX9_command_58 fg_RX9_508 rfl rm_7_0_0 ?_
          refine aw_iconst hC dX9_command_61 (v := 1) (by decide) ?_
          refine aw_iadd hC dX9_command_62 ?_
          refine aw_pfI hC dX9_command_63 fg_RX9_508 fp_7_46 rfl rm_7_0_0 (fun h1 => ?_)
          refine aw_aload_n hC dX9_command_66 rfl ?_
          refine aw_bind rfl (fun q2 hq2 => ?_)
          refine aw_cVv hC dX9_command_67 cv_RX9_177 rfl rm_7_0_0 (am_some (inj := (fun r => (.inr (none), r))) hq2 (A_X9_goOnRead _ (hC.2.2.2.2.2.2.2.2.2.2.2.2.1) _ _ _ h1)) rfl rfl rfl rfl rfl ⟨rfl, rfl⟩ ?_
          refine aw_aload_n hC dX9_command_70 rfl ?_
          refine aw_gfI hC dX9_command_71 fg_RX9_511 rfl rm_7_0_0 ?_
          refine aw_istore_n hC dX9_command_74 (by decide) ?_
          refine aw_aload_n hC dX9_command_75 rfl ?_
          refine aw_gfR hC dX9_command_76 fg_RX9_91 rfl rfl rm_7_0_0 ?_
          refine aw_iload_n hC dX9_command_79 rfl ?_
          refine aw_iload_n hC dX9_command_80 rfl ?_
          refine aw_guard rfl (fun g4 => ?_)
          refine aw_iast hC dX9_command_81 rm_7_0_25 rfl rfl g4 rfl (fun h3 => ?_)
          refine aw_aload_n hC dX9_command_82 rfl ?_
          refine aw_iload_n hC dX9_command_83 rfl ?_
          refine aw_iload_n hC dX9_command_84 rfl ?_
          refine aw_bind rfl (fun q5 hq5 => ?_)
          refine aw_cVv hC dX9_command_85 cv_RX9_514 rfl rm_7_0_0 (am_some (inj := (fun r => (.inr (none), r))) hq5 (A_X9_readsRest _ (hC.2.2.2.2.2.2.2.2.2.2.2.2.1) _ _ _ (gI q2 (7, 0, 0) 45) (jX9_commandHere h) h3)) rfl rfl rfl rfl rfl ⟨rfl, rfl⟩ ?_
          refine aw_aload_n hC dX9_command_88 rfl ?_
          refine aw_cVb hC dX9_command_89 cv_RX9_167 rfl rm_7_0_0 (A_X9_isGood _ (hC.2.2.2.2.2.2.2.2.2.2.2.2.1) _ _ _ q5) rfl rfl rfl rfl rfl ⟨rfl, rfl⟩ ?_
          refine aw_if_ne_b hC dX9_command_92 (tgt := 96) (by decide) ?_ ?_
          · refine aw_aload_n hC dX9_command_96 rfl ?_
            refine aw_dup hC dX9_command_97 rfl ?_
            refine aw_gfI hC dX9_command_98 fg_RX9_511 rfl rm_7_0_0 ?_
            refine aw_iconst hC dX9_command_101 (v := 1) (by decide) ?_
            refine aw_iadd hC dX9_command_102 ?_
            refine aw_pfI hC dX9_command_103 fg_RX9_511 fp_7_45 rfl rm_7_0_0 (fun h6 => ?_)
            refine aw_aload_n hC dX9_command_106 rfl ?_
            refine aw_dup hC dX9_command_107 rfl ?_
            refine aw_gfI hC dX9_command_108 fg_RX9_505 rfl rm_7_0_0 ?_
            refine aw_iload_n hC dX9_command_111 rfl ?_
            refine aw_bipush hC dX9_command_112 (v := 8) (by decide) ?_
            refine aw_icmp_ne hC dX9_command_114 (tgt := 121) (by decide) ?_ ?_
            · refine aw_iconst hC dX9_command_121 (v := 0) (by decide) ?_
              refine aw_cSi hC dX9_command_122 cv_RX9_115 (A_X9_truth _ (hC.2.2.2.2.2.2.2.2.2.2.2.2.1) _ _ _ false h6) rfl rfl rfl rfl rfl ⟨rfl, rfl⟩ ?_
              refine aw_iadd hC dX9_command_125 ?_
              refine aw_pfI hC dX9_command_126 fg_RX9_505 fp_7_47 rfl rm_7_0_0 (fun h7 => ?_)
              exact aw_vret hC dX9_command_129 rfl rfl
            · refine aw_iconst hC dX9_command_117 (v := 1) (by decide) ?_
              refine aw_goto hC dX9_command_118 (tgt := 122) (by decide) ?_
              refine aw_cSi hC dX9_command_122 cv_RX9_115 (A_X9_truth _ (hC.2.2.2.2.2.2.2.2.2.2.2.2.1) _ _ _ true h6) rfl rfl rfl rfl rfl ⟨rfl, rfl⟩ ?_
              refine aw_iadd hC dX9_command_125 ?_
              refine aw_pfI hC dX9_command_126 fg_RX9_505 fp_7_47 rfl rm_7_0_0 (fun h8 => ?_)
              exact aw_vret hC dX9_command_129 rfl rfl
          · exact aw_vret hC dX9_command_95 rfl rfl
        · exact aw_vret hC dX9_command_55 rfl rfl
      · refine aw_aload_n hC dX9_command_43 rfl ?_
        refine aw_iconst hC dX9_command_44 (v := 5) (by decide) ?_
        refine aw_bind rfl (fun q9 hq9 => ?_)
        refine aw_cVv hC dX9_command_45 cv_RX9_174 rfl rm_7_0_0 (am_some (inj := (fun r => (.inr (none), r))) hq9 (A_X9_wrong _ (hC.2.2.2.2.2.2.2.2.2.2.2.2.1) _ _ _ (5 : Int32) h)) rfl rfl rfl rfl rfl ⟨rfl, rfl⟩ ?_
        refine aw_aload_n hC dX9_command_48 rfl ?_
        refine aw_cVb hC dX9_command_49 cv_RX9_167 rfl rm_7_0_0 (A_X9_isGood _ (hC.2.2.2.2.2.2.2.2.2.2.2.2.1) _ _ _ q9) rfl rfl rfl rfl rfl ⟨rfl, rfl⟩ ?_
        refine aw_if_ne_b hC dX9_command_52 (tgt := 56) (by decide) ?_ ?_
        · refine aw_aload_n hC dX9_command_56 rfl ?_
          refine aw_dup hC dX9_command_57 rfl ?_
          refine aw_gfI hC dX9_command_58 fg_RX9_508 rfl rm_7_0_0 ?_
          refine aw_iconst hC dX9_command_61 (v := 1) (by decide) ?_
          refine aw_iadd hC dX9_command_62 ?_
          refine aw_pfI hC dX9_command_63 fg_RX9_508 fp_7_46 rfl rm_7_0_0 (fun h10 => ?_)
          refine aw_aload_n hC dX9_command_66 rfl ?_
          refine aw_bind rfl (fun q11 hq11 => ?_)
          refine aw_cVv hC dX9_command_67 cv_RX9_177 rfl rm_7_0_0 (am_some (inj := (fun r => (.inr (none), r))) hq11 (A_X9_goOnRead _ (hC.2.2.2.2.2.2.2.2.2.2.2.2.1) _ _ _ h10)) rfl rfl rfl rfl rfl ⟨rfl, rfl⟩ ?_
          refine aw_aload_n hC dX9_command_70 rfl ?_
          refine aw_gfI hC dX9_command_71 fg_RX9_511 rfl rm_7_0_0 ?_
          refine aw_istore_n hC dX9_command_74 (by decide) ?_
          refine aw_aload_n hC dX9_command_75 rfl ?_
          refine aw_gfR hC dX9_command_76 fg_RX9_91 rfl rfl rm_7_0_0 ?_
          refine aw_iload_n hC dX9_command_79 rfl ?_
          refine aw_iload_n hC dX9_command_80 rfl ?_
          refine aw_guard rfl (fun g13 => ?_)
          refine aw_iast hC dX9_command_81 rm_7_0_25 rfl rfl g13 rfl (fun h12 => ?_)
          refine aw_aload_n hC dX9_command_82 rfl ?_
          refine aw_iload_n hC dX9_command_83 rfl ?_
          refine aw_iload_n hC dX9_command_84 rfl ?_
          refine aw_bind rfl (fun q14 hq14 => ?_)
          refine aw_cVv hC dX9_command_85 cv_RX9_514 rfl rm_7_0_0 (am_some (inj := (fun r => (.inr (none), r))) hq14 (A_X9_readsRest _ (hC.2.2.2.2.2.2.2.2.2.2.2.2.1) _ _ _ (gI q11 (7, 0, 0) 45) (jX9_commandHere h) h12)) rfl rfl rfl rfl rfl ⟨rfl, rfl⟩ ?_
          refine aw_aload_n hC dX9_command_88 rfl ?_
          refine aw_cVb hC dX9_command_89 cv_RX9_167 rfl rm_7_0_0 (A_X9_isGood _ (hC.2.2.2.2.2.2.2.2.2.2.2.2.1) _ _ _ q14) rfl rfl rfl rfl rfl ⟨rfl, rfl⟩ ?_
          refine aw_if_ne_b hC dX9_command_92 (tgt := 96) (by decide) ?_ ?_
          · refine aw_aload_n hC dX9_command_96 rfl ?_
            refine aw_dup hC dX9_command_97 rfl ?_
            refine aw_gfI hC dX9_command_98 fg_RX9_511 rfl rm_7_0_0 ?_
            refine aw_iconst hC dX9_command_101 (v := 1) (by decide) ?_
            refine aw_iadd hC dX9_command_102 ?_
            refine aw_pfI hC dX9_command_103 fg_RX9_511 fp_7_45 rfl rm_7_0_0 (fun h15 => ?_)
            refine aw_aload_n hC dX9_command_106 rfl ?_
            refine aw_dup hC dX9_command_107 rfl ?_
            refine aw_gfI hC dX9_command_108 fg_RX9_505 rfl rm_7_0_0 ?_
            refine aw_iload_n hC dX9_command_111 rfl ?_
            refine aw_bipush hC dX9_command_112 (v := 8) (by decide) ?_
            refine aw_icmp_ne hC dX9_command_114 (tgt := 121) (by decide) ?_ ?_
            · refine aw_iconst hC dX9_command_121 (v := 0) (by decide) ?_
              refine aw_cSi hC dX9_command_122 cv_RX9_115 (A_X9_truth _ (hC.2.2.2.2.2.2.2.2.2.2.2.2.1) _ _ _ false h15) rfl rfl rfl rfl rfl ⟨rfl, rfl⟩ ?_
              refine aw_iadd hC dX9_command_125 ?_
              refine aw_pfI hC dX9_command_126 fg_RX9_505 fp_7_47 rfl rm_7_0_0 (fun h16 => ?_)
              exact aw_vret hC dX9_command_129 rfl rfl
            · refine aw_iconst hC dX9_command_117 (v := 1) (by decide) ?_
              refine aw_goto hC dX9_command_118 (tgt := 122) (by decide) ?_
              refine aw_cSi hC dX9_command_122 cv_RX9_115 (A_X9_truth _ (hC.2.2.2.2.2.2.2.2.2.2.2.2.1) _ _ _ true h15) rfl rfl rfl rfl rfl ⟨rfl, rfl⟩ ?_
              refine aw_iadd hC dX9_command_125 ?_
              refine aw_pfI hC dX9_command_126 fg_RX9_505 fp_7_47 rfl rm_7_0_0 (fun h17 => ?_)
              exact aw_vret hC dX9_command_129 rfl rfl
          · exact aw_vret hC dX9_command_95 rfl rfl
        · exact aw_vret hC dX9_command_55 rfl rfl
    · refine aw_aload_n hC dX9_command_21 rfl ?_
      refine aw_gfI hC dX9_command_22 fg_RX9_505 rfl rm_7_0_0 ?_
      refine aw_iconst hC dX9_command_25 (v := 2) (by decide) ?_
      refine aw_icmp_ne hC dX9_command_26 (tgt := 34) (by decide) ?_ ?_
      · refine aw_aload_n hC dX9_command_34 rfl ?_
        refine aw_gfI hC dX9_command_35 fg_RX9_508 rfl rm_7_0_0 ?_
        refine aw_bipush hC dX9_command_38 (v := 30) (by decide) ?_
        refine aw_icmp_ne hC dX9_command_40 (tgt := 48) (by decide) ?_ ?_
        · refine aw_aload_n hC dX9_command_48 rfl ?_
          refine aw_cVb hC dX9_command_49 cv_RX9_167 rfl rm_7_0_0 (A_X9_isGood _ (hC.2.2.2.2.2.2.2.2.2.2.2.2.1) _ _ _ h) rfl rfl rfl rfl rfl ⟨rfl, rfl⟩ ?_
          refine aw_if_ne_b hC dX9_command_52 (tgt := 56) (by decide) ?_ ?_
          · refine aw_aload_n hC dX9_command_56 rfl ?_
            refine aw_dup hC dX9_command_57 rfl ?_
            refine aw_gfI hC dX9_command_58 fg_RX9_508 rfl rm_7_0_0 ?_
            refine aw_iconst hC dX9_command_61 (v := 1) (by decide) ?_
            refine aw_iadd hC dX9_command_62 ?_
            refine aw_pfI hC dX9_command_63 fg_RX9_508 fp_7_46 rfl rm_7_0_0 (fun h18 => ?_)
            refine aw_aload_n hC dX9_command_66 rfl ?_
            refine aw_bind rfl (fun q19 hq19 => ?_)
            refine aw_cVv hC dX9_command_67 cv_RX9_177 rfl rm_7_0_0 (am_some (inj := (fun r => (.inr (none), r))) hq19 (A_X9_goOnRead _ (hC.2.2.2.2.2.2.2.2.2.2.2.2.1) _ _ _ h18)) rfl rfl rfl rfl rfl ⟨rfl, rfl⟩ ?_
            refine aw_aload_n hC dX9_command_70 rfl ?_
            refine aw_gfI hC dX9_command_71 fg_RX9_511 rfl rm_7_0_0 ?_
            refine aw_istore_n hC dX9_command_74 (by decide) ?_
            refine aw_aload_n hC dX9_command_75 rfl ?_
            refine aw_gfR hC dX9_command_76 fg_RX9_91 rfl rfl rm_7_0_0 ?_
            refine aw_iload_n hC dX9_command_79 rfl ?_
            refine aw_iload_n hC dX9_command_80 rfl ?_
            refine aw_guard rfl (fun g21 => ?_)
            refine aw_iast hC dX9_command_81 rm_7_0_25 rfl rfl g21 rfl (fun h20 => ?_)
            refine aw_aload_n hC dX9_command_82 rfl ?_
            refine aw_iload_n hC dX9_command_83 rfl ?_
            refine aw_iload_n hC dX9_command_84 rfl ?_
            refine aw_bind rfl (fun q22 hq22 => ?_)
            refine aw_cVv hC dX9_command_85 cv_RX9_514 rfl rm_7_0_0 (am_some (inj := (fun r => (.inr (none), r))) hq22 (A_X9_readsRest _ (hC.2.2.2.2.2.2.2.2.2.2.2.2.1) _ _ _ (gI q19 (7, 0, 0) 45) (jX9_commandHere h) h20)) rfl rfl rfl rfl rfl ⟨rfl, rfl⟩ ?_
            refine aw_aload_n hC dX9_command_88 rfl ?_
            refine aw_cVb hC dX9_command_89 cv_RX9_167 rfl rm_7_0_0 (A_X9_isGood _ (hC.2.2.2.2.2.2.2.2.2.2.2.2.1) _ _ _ q22) rfl rfl rfl rfl rfl ⟨rfl, rfl⟩ ?_
            refine aw_if_ne_b hC dX9_command_92 (tgt := 96) (by decide) ?_ ?_
            · refine aw_aload_n hC dX9_command_96 rfl ?_
              refine aw_dup hC dX9_command_97 rfl ?_
              refine aw_gfI hC dX9_command_98 fg_RX9_511 rfl rm_7_0_0 ?_
              refine aw_iconst hC dX9_command_101 (v := 1) (by decide) ?_
              refine aw_iadd hC dX9_command_102 ?_
              refine aw_pfI hC dX9_command_103 fg_RX9_511 fp_7_45 rfl rm_7_0_0 (fun h23 => ?_)
              refine aw_aload_n hC dX9_command_106 rfl ?_
              refine aw_dup hC dX9_command_107 rfl ?_
              refine aw_gfI hC dX9_command_108 fg_RX9_505 rfl rm_7_0_0 ?_
              refine aw_iload_n hC dX9_command_111 rfl ?_
              refine aw_bipush hC dX9_command_112 (v := 8) (by decide) ?_
              refine aw_icmp_ne hC dX9_command_114 (tgt := 121) (by decide) ?_ ?_
              · refine aw_iconst hC dX9_command_121 (v := 0) (by decide) ?_
                refine aw_cSi hC dX9_command_122 cv_RX9_115 (A_X9_truth _ (hC.2.2.2.2.2.2.2.2.2.2.2.2.1) _ _ _ false h23) rfl rfl rfl rfl rfl ⟨rfl, rfl⟩ ?_
                refine aw_iadd hC dX9_command_125 ?_
                refine aw_pfI hC dX9_command_126 fg_RX9_505 fp_7_47 rfl rm_7_0_0 (fun h24 => ?_)
                exact aw_vret hC dX9_command_129 rfl rfl
              · refine aw_iconst hC dX9_command_117 (v := 1) (by decide) ?_
                refine aw_goto hC dX9_command_118 (tgt := 122) (by decide) ?_
                refine aw_cSi hC dX9_command_122 cv_RX9_115 (A_X9_truth _ (hC.2.2.2.2.2.2.2.2.2.2.2.2.1) _ _ _ true h23) rfl rfl rfl rfl rfl ⟨rfl, rfl⟩ ?_
                refine aw_iadd hC dX9_command_125 ?_
                refine aw_pfI hC dX9_command_126 fg_RX9_505 fp_7_47 rfl rm_7_0_0 (fun h25 => ?_)
                exact aw_vret hC dX9_command_129 rfl rfl
            · exact aw_vret hC dX9_command_95 rfl rfl
          · exact aw_vret hC dX9_command_55 rfl rfl
        · refine aw_aload_n hC dX9_command_43 rfl ?_
          refine aw_iconst hC dX9_command_44 (v := 5) (by decide) ?_
          refine aw_bind rfl (fun q26 hq26 => ?_)
          refine aw_cVv hC dX9_command_45 cv_RX9_174 rfl rm_7_0_0 (am_some (inj := (fun r => (.inr (none), r))) hq26 (A_X9_wrong _ (hC.2.2.2.2.2.2.2.2.2.2.2.2.1) _ _ _ (5 : Int32) h)) rfl rfl rfl rfl rfl ⟨rfl, rfl⟩ ?_
          refine aw_aload_n hC dX9_command_48 rfl ?_
          refine aw_cVb hC dX9_command_49 cv_RX9_167 rfl rm_7_0_0 (A_X9_isGood _ (hC.2.2.2.2.2.2.2.2.2.2.2.2.1) _ _ _ q26) rfl rfl rfl rfl rfl ⟨rfl, rfl⟩ ?_
          refine aw_if_ne_b hC dX9_command_52 (tgt := 56) (by decide) ?_ ?_
          · refine aw_aload_n hC dX9_command_56 rfl ?_
            refine aw_dup hC dX9_command_57 rfl ?_
            refine aw_gfI hC dX9_command_58 fg_RX9_508 rfl rm_7_0_0 ?_
            refine aw_iconst hC dX9_command_61 (v := 1) (by decide) ?_
            refine aw_iadd hC dX9_command_62 ?_
            refine aw_pfI hC dX9_command_63 fg_RX9_508 fp_7_46 rfl rm_7_0_0 (fun h27 => ?_)
            refine aw_aload_n hC dX9_command_66 rfl ?_
            refine aw_bind rfl (fun q28 hq28 => ?_)
            refine aw_cVv hC dX9_command_67 cv_RX9_177 rfl rm_7_0_0 (am_some (inj := (fun r => (.inr (none), r))) hq28 (A_X9_goOnRead _ (hC.2.2.2.2.2.2.2.2.2.2.2.2.1) _ _ _ h27)) rfl rfl rfl rfl rfl ⟨rfl, rfl⟩ ?_
            refine aw_aload_n hC dX9_command_70 rfl ?_
            refine aw_gfI hC dX9_command_71 fg_RX9_511 rfl rm_7_0_0 ?_
            refine aw_istore_n hC dX9_command_74 (by decide) ?_
            refine aw_aload_n hC dX9_command_75 rfl ?_
            refine aw_gfR hC dX9_command_76 fg_RX9_91 rfl rfl rm_7_0_0 ?_
            refine aw_iload_n hC dX9_command_79 rfl ?_
            refine aw_iload_n hC dX9_command_80 rfl ?_
            refine aw_guard rfl (fun g30 => ?_)
            refine aw_iast hC dX9_command_81 rm_7_0_25 rfl rfl g30 rfl (fun h29 => ?_)
            refine aw_aload_n hC dX9_command_82 rfl ?_
            refine aw_iload_n hC dX9_command_83 rfl ?_
            refine aw_iload_n hC dX9_command_84 rfl ?_
            refine aw_bind rfl (fun q31 hq31 => ?_)
            refine aw_cVv hC dX9_command_85 cv_RX9_514 rfl rm_7_0_0 (am_some (inj := (fun r => (.inr (none), r))) hq31 (A_X9_readsRest _ (hC.2.2.2.2.2.2.2.2.2.2.2.2.1) _ _ _ (gI q28 (7, 0, 0) 45) (jX9_commandHere h) h29)) rfl rfl rfl rfl rfl ⟨rfl, rfl⟩ ?_
            refine aw_aload_n hC dX9_command_88 rfl ?_
            refine aw_cVb hC dX9_command_89 cv_RX9_167 rfl rm_7_0_0 (A_X9_isGood _ (hC.2.2.2.2.2.2.2.2.2.2.2.2.1) _ _ _ q31) rfl rfl rfl rfl rfl ⟨rfl, rfl⟩ ?_
            refine aw_if_ne_b hC dX9_command_92 (tgt := 96) (by decide) ?_ ?_
            · refine aw_aload_n hC dX9_command_96 rfl ?_
              refine aw_dup hC dX9_command_97 rfl ?_
              refine aw_gfI hC dX9_command_98 fg_RX9_511 rfl rm_7_0_0 ?_
              refine aw_iconst hC dX9_command_101 (v := 1) (by decide) ?_
              refine aw_iadd hC dX9_command_102 ?_
              refine aw_pfI hC dX9_command_103 fg_RX9_511 fp_7_45 rfl rm_7_0_0 (fun h32 => ?_)
              refine aw_aload_n hC dX9_command_106 rfl ?_
              refine aw_dup hC dX9_command_107 rfl ?_
              refine aw_gfI hC dX9_command_108 fg_RX9_505 rfl rm_7_0_0 ?_
              refine aw_iload_n hC dX9_command_111 rfl ?_
              refine aw_bipush hC dX9_command_112 (v := 8) (by decide) ?_
              refine aw_icmp_ne hC dX9_command_114 (tgt := 121) (by decide) ?_ ?_
              · refine aw_iconst hC dX9_command_121 (v := 0) (by decide) ?_
                refine aw_cSi hC dX9_command_122 cv_RX9_115 (A_X9_truth _ (hC.2.2.2.2.2.2.2.2.2.2.2.2.1) _ _ _ false h32) rfl rfl rfl rfl rfl ⟨rfl, rfl⟩ ?_
                refine aw_iadd hC dX9_command_125 ?_
                refine aw_pfI hC dX9_command_126 fg_RX9_505 fp_7_47 rfl rm_7_0_0 (fun h33 => ?_)
                exact aw_vret hC dX9_command_129 rfl rfl
              · refine aw_iconst hC dX9_command_117 (v := 1) (by decide) ?_
                refine aw_goto hC dX9_command_118 (tgt := 122) (by decide) ?_
                refine aw_cSi hC dX9_command_122 cv_RX9_115 (A_X9_truth _ (hC.2.2.2.2.2.2.2.2.2.2.2.2.1) _ _ _ true h32) rfl rfl rfl rfl rfl ⟨rfl, rfl⟩ ?_
                refine aw_iadd hC dX9_command_125 ?_
                refine aw_pfI hC dX9_command_126 fg_RX9_505 fp_7_47 rfl rm_7_0_0 (fun h34 => ?_)
                exact aw_vret hC dX9_command_129 rfl rfl
            · exact aw_vret hC dX9_command_95 rfl rfl
          · exact aw_vret hC dX9_command_55 rfl rfl
      · refine aw_aload_n hC dX9_command_29 rfl ?_
        refine aw_iconst hC dX9_command_30 (v := 3) (by decide) ?_
        refine aw_bind rfl (fun q35 hq35 => ?_)
        refine aw_cVv hC dX9_command_31 cv_RX9_174 rfl rm_7_0_0 (am_some (inj := (fun r => (.inr (none), r))) hq35 (A_X9_wrong _ (hC.2.2.2.2.2.2.2.2.2.2.2.2.1) _ _ _ (3 : Int32) h)) rfl rfl rfl rfl rfl ⟨rfl, rfl⟩ ?_
        refine aw_aload_n hC dX9_command_34 rfl ?_
        refine aw_gfI hC dX9_command_35 fg_RX9_508 rfl rm_7_0_0 ?_
        refine aw_bipush hC dX9_command_38 (v := 30) (by decide) ?_
        refine aw_icmp_ne hC dX9_command_40 (tgt := 48) (by decide) ?_ ?_
        · refine aw_aload_n hC dX9_command_48 rfl ?_
          refine aw_cVb hC dX9_command_49 cv_RX9_167 rfl rm_7_0_0 (A_X9_isGood _ (hC.2.2.2.2.2.2.2.2.2.2.2.2.1) _ _ _ q35) rfl rfl rfl rfl rfl ⟨rfl, rfl⟩ ?_
          refine aw_if_ne_b hC dX9_command_52 (tgt := 56) (by decide) ?_ ?_
          · refine aw_aload_n hC dX9_command_56 rfl ?_
            refine aw_dup hC dX9_command_57 rfl ?_
            refine aw_gfI hC dX9_command_58 fg_RX9_508 rfl rm_7_0_0 ?_
            refine aw_iconst hC dX9_command_61 (v := 1) (by decide) ?_
            refine aw_iadd hC dX9_command_62 ?_
            refine aw_pfI hC dX9_command_63 fg_RX9_508 fp_7_46 rfl rm_7_0_0 (fun h36 => ?_)
            refine aw_aload_n hC dX9_command_66 rfl ?_
            refine aw_bind rfl (fun q37 hq37 => ?_)
            refine aw_cVv hC dX9_command_67 cv_RX9_177 rfl rm_7_0_0 (am_some (inj := (fun r => (.inr (none), r))) hq37 (A_X9_goOnRead _ (hC.2.2.2.2.2.2.2.2.2.2.2.2.1) _ _ _ h36)) rfl rfl rfl rfl rfl ⟨rfl, rfl⟩ ?_
            refine aw_aload_n hC dX9_command_70 rfl ?_
            refine aw_gfI hC dX9_command_71 fg_RX9_511 rfl rm_7_0_0 ?_
            refine aw_istore_n hC dX9_command_74 (by decide) ?_
            refine aw_aload_n hC dX9_command_75 rfl ?_
            refine aw_gfR hC dX9_command_76 fg_RX9_91 rfl rfl rm_7_0_0 ?_
            refine aw_iload_n hC dX9_command_79 rfl ?_
            refine aw_iload_n hC dX9_command_80 rfl ?_
            refine aw_guard rfl (fun g39 => ?_)
            refine aw_iast hC dX9_command_81 rm_7_0_25 rfl rfl g39 rfl (fun h38 => ?_)
            refine aw_aload_n hC dX9_command_82 rfl ?_
            refine aw_iload_n hC dX9_command_83 rfl ?_
            refine aw_iload_n hC dX9_command_84 rfl ?_
            refine aw_bind rfl (fun q40 hq40 => ?_)
            refine aw_cVv hC dX9_command_85 cv_RX9_514 rfl rm_7_0_0 (am_some (inj := (fun r => (.inr (none), r))) hq40 (A_X9_readsRest _ (hC.2.2.2.2.2.2.2.2.2.2.2.2.1) _ _ _ (gI q37 (7, 0, 0) 45) (jX9_commandHere h) h38)) rfl rfl rfl rfl rfl ⟨rfl, rfl⟩ ?_
            refine aw_aload_n hC dX9_command_88 rfl ?_
            refine aw_cVb hC dX9_command_89 cv_RX9_167 rfl rm_7_0_0 (A_X9_isGood _ (hC.2.2.2.2.2.2.2.2.2.2.2.2.1) _ _ _ q40) rfl rfl rfl rfl rfl ⟨rfl, rfl⟩ ?_
            refine aw_if_ne_b hC dX9_command_92 (tgt := 96) (by decide) ?_ ?_
            · refine aw_aload_n hC dX9_command_96 rfl ?_
              refine aw_dup hC dX9_command_97 rfl ?_
              refine aw_gfI hC dX9_command_98 fg_RX9_511 rfl rm_7_0_0 ?_
              refine aw_iconst hC dX9_command_101 (v := 1) (by decide) ?_
              refine aw_iadd hC dX9_command_102 ?_
              refine aw_pfI hC dX9_command_103 fg_RX9_511 fp_7_45 rfl rm_7_0_0 (fun h41 => ?_)
              refine aw_aload_n hC dX9_command_106 rfl ?_
              refine aw_dup hC dX9_command_107 rfl ?_
              refine aw_gfI hC dX9_command_108 fg_RX9_505 rfl rm_7_0_0 ?_
              refine aw_iload_n hC dX9_command_111 rfl ?_
              refine aw_bipush hC dX9_command_112 (v := 8) (by decide) ?_
              refine aw_icmp_ne hC dX9_command_114 (tgt := 121) (by decide) ?_ ?_
              · refine aw_iconst hC dX9_command_121 (v := 0) (by decide) ?_
                refine aw_cSi hC dX9_command_122 cv_RX9_115 (A_X9_truth _ (hC.2.2.2.2.2.2.2.2.2.2.2.2.1) _ _ _ false h41) rfl rfl rfl rfl rfl ⟨rfl, rfl⟩ ?_
                refine aw_iadd hC dX9_command_125 ?_
                refine aw_pfI hC dX9_command_126 fg_RX9_505 fp_7_47 rfl rm_7_0_0 (fun h42 => ?_)
                exact aw_vret hC dX9_command_129 rfl rfl
              · refine aw_iconst hC dX9_command_117 (v := 1) (by decide) ?_
                refine aw_goto hC dX9_command_118 (tgt := 122) (by decide) ?_
                refine aw_cSi hC dX9_command_122 cv_RX9_115 (A_X9_truth _ (hC.2.2.2.2.2.2.2.2.2.2.2.2.1) _ _ _ true h41) rfl rfl rfl rfl rfl ⟨rfl, rfl⟩ ?_
                refine aw_iadd hC dX9_command_125 ?_
                refine aw_pfI hC dX9_command_126 fg_RX9_505 fp_7_47 rfl rm_7_0_0 (fun h43 => ?_)
                exact aw_vret hC dX9_command_129 rfl rfl
            · exact aw_vret hC dX9_command_95 rfl rfl
          · exact aw_vret hC dX9_command_55 rfl rfl
        · refine aw_aload_n hC dX9_command_43 rfl ?_
          refine aw_iconst hC dX9_command_44 (v := 5) (by decide) ?_
          refine aw_bind rfl (fun q44 hq44 => ?_)
          refine aw_cVv hC dX9_command_45 cv_RX9_174 rfl rm_7_0_0 (am_some (inj := (fun r => (.inr (none), r))) hq44 (A_X9_wrong _ (hC.2.2.2.2.2.2.2.2.2.2.2.2.1) _ _ _ (5 : Int32) q35)) rfl rfl rfl rfl rfl ⟨rfl, rfl⟩ ?_
          refine aw_aload_n hC dX9_command_48 rfl ?_
          refine aw_cVb hC dX9_command_49 cv_RX9_167 rfl rm_7_0_0 (A_X9_isGood _ (hC.2.2.2.2.2.2.2.2.2.2.2.2.1) _ _ _ q44) rfl rfl rfl rfl rfl ⟨rfl, rfl⟩ ?_
          refine aw_if_ne_b hC dX9_command_52 (tgt := 56) (by decide) ?_ ?_
          · refine aw_aload_n hC dX9_command_56 rfl ?_
            refine aw_dup hC dX9_command_57 rfl ?_
            refine aw_gfI hC dX9_command_58 fg_RX9_508 rfl rm_7_0_0 ?_
            refine aw_iconst hC dX9_command_61 (v := 1) (by decide) ?_
            refine aw_iadd hC dX9_command_62 ?_
            refine aw_pfI hC dX9_command_63 fg_RX9_508 fp_7_46 rfl rm_7_0_0 (fun h45 => ?_)
            refine aw_aload_n hC dX9_command_66 rfl ?_
            refine aw_bind rfl (fun q46 hq46 => ?_)
            refine aw_cVv hC dX9_command_67 cv_RX9_177 rfl rm_7_0_0 (am_some (inj := (fun r => (.inr (none), r))) hq46 (A_X9_goOnRead _ (hC.2.2.2.2.2.2.2.2.2.2.2.2.1) _ _ _ h45)) rfl rfl rfl rfl rfl ⟨rfl, rfl⟩ ?_
            refine aw_aload_n hC dX9_command_70 rfl ?_
            refine aw_gfI hC dX9_command_71 fg_RX9_511 rfl rm_7_0_0 ?_
            refine aw_istore_n hC dX9_command_74 (by decide) ?_
            refine aw_aload_n hC dX9_command_75 rfl ?_
            refine aw_gfR hC dX9_command_76 fg_RX9_91 rfl rfl rm_7_0_0 ?_
            refine aw_iload_n hC dX9_command_79 rfl ?_
            refine aw_iload_n hC dX9_command_80 rfl ?_
            refine aw_guard rfl (fun g48 => ?_)
            refine aw_iast hC dX9_command_81 rm_7_0_25 rfl rfl g48 rfl (fun h47 => ?_)
            refine aw_aload_n hC dX9_command_82 rfl ?_
            refine aw_iload_n hC dX9_command_83 rfl ?_
            refine aw_iload_n hC dX9_command_84 rfl ?_
            refine aw_bind rfl (fun q49 hq49 => ?_)
            refine aw_cVv hC dX9_command_85 cv_RX9_514 rfl rm_7_0_0 (am_some (inj := (fun r => (.inr (none), r))) hq49 (A_X9_readsRest _ (hC.2.2.2.2.2.2.2.2.2.2.2.2.1) _ _ _ (gI q46 (7, 0, 0) 45) (jX9_commandHere h) h47)) rfl rfl rfl rfl rfl ⟨rfl, rfl⟩ ?_
            refine aw_aload_n hC dX9_command_88 rfl ?_
            refine aw_cVb hC dX9_command_89 cv_RX9_167 rfl rm_7_0_0 (A_X9_isGood _ (hC.2.2.2.2.2.2.2.2.2.2.2.2.1) _ _ _ q49) rfl rfl rfl rfl rfl ⟨rfl, rfl⟩ ?_
            refine aw_if_ne_b hC dX9_command_92 (tgt := 96) (by decide) ?_ ?_
            · refine aw_aload_n hC dX9_command_96 rfl ?_
              refine aw_dup hC dX9_command_97 rfl ?_
              refine aw_gfI hC dX9_command_98 fg_RX9_511 rfl rm_7_0_0 ?_
              refine aw_iconst hC dX9_command_101 (v := 1) (by decide) ?_
              refine aw_iadd hC dX9_command_102 ?_
              refine aw_pfI hC dX9_command_103 fg_RX9_511 fp_7_45 rfl rm_7_0_0 (fun h50 => ?_)
              refine aw_aload_n hC dX9_command_106 rfl ?_
              refine aw_dup hC dX9_command_107 rfl ?_
              refine aw_gfI hC dX9_command_108 fg_RX9_505 rfl rm_7_0_0 ?_
              refine aw_iload_n hC dX9_command_111 rfl ?_
              refine aw_bipush hC dX9_command_112 (v := 8) (by decide) ?_
              refine aw_icmp_ne hC dX9_command_114 (tgt := 121) (by decide) ?_ ?_
              · refine aw_iconst hC dX9_command_121 (v := 0) (by decide) ?_
                refine aw_cSi hC dX9_command_122 cv_RX9_115 (A_X9_truth _ (hC.2.2.2.2.2.2.2.2.2.2.2.2.1) _ _ _ false h50) rfl rfl rfl rfl rfl ⟨rfl, rfl⟩ ?_
                refine aw_iadd hC dX9_command_125 ?_
                refine aw_pfI hC dX9_command_126 fg_RX9_505 fp_7_47 rfl rm_7_0_0 (fun h51 => ?_)
                exact aw_vret hC dX9_command_129 rfl rfl
              · refine aw_iconst hC dX9_command_117 (v := 1) (by decide) ?_
                refine aw_goto hC dX9_command_118 (tgt := 122) (by decide) ?_
                refine aw_cSi hC dX9_command_122 cv_RX9_115 (A_X9_truth _ (hC.2.2.2.2.2.2.2.2.2.2.2.2.1) _ _ _ true h50) rfl rfl rfl rfl rfl ⟨rfl, rfl⟩ ?_
                refine aw_iadd hC dX9_command_125 ?_
                refine aw_pfI hC dX9_command_126 fg_RX9_505 fp_7_47 rfl rm_7_0_0 (fun h52 => ?_)
                exact aw_vret hC dX9_command_129 rfl rfl
            · exact aw_vret hC dX9_command_95 rfl rfl
          · exact aw_vret hC dX9_command_55 rfl rfl
  · refine aw_aload_n hC dX9_command_10 rfl ?_
    refine aw_iconst hC dX9_command_11 (v := 1) (by decide) ?_
    refine aw_bind rfl (fun q53 hq53 => ?_)
    refine aw_cVv hC dX9_command_12 cv_RX9_174 rfl rm_7_0_0 (am_some (inj := (fun r => (.inr (none), r))) hq53 (A_X9_wrong _ (hC.2.2.2.2.2.2.2.2.2.2.2.2.1) _ _ _ (1 : Int32) h)) rfl rfl rfl rfl rfl ⟨rfl, rfl⟩ ?_
    refine aw_iload_n hC dX9_command_15 rfl ?_
    refine aw_bipush hC dX9_command_16 (v := 8) (by decide) ?_
    refine aw_icmp_ne hC dX9_command_18 (tgt := 34) (by decide) ?_ ?_
    · refine aw_aload_n hC dX9_command_34 rfl ?_
      refine aw_gfI hC dX9_command_35 fg_RX9_508 rfl rm_7_0_0 ?_
      refine aw_bipush hC dX9_command_38 (v := 30) (by decide) ?_
      refine aw_icmp_ne hC dX9_command_40 (tgt := 48) (by decide) ?_ ?_
      · refine aw_aload_n hC dX9_command_48 rfl ?_
        refine aw_cVb hC dX9_command_49 cv_RX9_167 rfl rm_7_0_0 (A_X9_isGood _ (hC.2.2.2.2.2.2.2.2.2.2.2.2.1) _ _ _ q53) rfl rfl rfl rfl rfl ⟨rfl, rfl⟩ ?_
        refine aw_if_ne_b hC dX9_command_52 (tgt := 56) (by decide) ?_ ?_
        · refine aw_aload_n hC dX9_command_56 rfl ?_
          refine aw_dup hC dX9_command_57 rfl ?_
          refine aw_gfI hC dX9_command_58 fg_RX9_508 rfl rm_7_0_0 ?_
          refine aw_iconst hC dX9_command_61 (v := 1) (by decide) ?_
          refine aw_iadd hC dX9_command_62 ?_
          refine aw_pfI hC dX9_command_63 fg_RX9_508 fp_7_46 rfl rm_7_0_0 (fun h54 => ?_)
          refine aw_aload_n hC dX9_command_66 rfl ?_
          refine aw_bind rfl (fun q55 hq55 => ?_)
          refine aw_cVv hC dX9_command_67 cv_RX9_177 rfl rm_7_0_0 (am_some (inj := (fun r => (.inr (none), r))) hq55 (A_X9_goOnRead _ (hC.2.2.2.2.2.2.2.2.2.2.2.2.1) _ _ _ h54)) rfl rfl rfl rfl rfl ⟨rfl, rfl⟩ ?_
          refine aw_aload_n hC dX9_command_70 rfl ?_
          refine aw_gfI hC dX9_command_71 fg_RX9_511 rfl rm_7_0_0 ?_
          refine aw_istore_n hC dX9_command_74 (by decide) ?_
          refine aw_aload_n hC dX9_command_75 rfl ?_
          refine aw_gfR hC dX9_command_76 fg_RX9_91 rfl rfl rm_7_0_0 ?_
          refine aw_iload_n hC dX9_command_79 rfl ?_
          refine aw_iload_n hC dX9_command_80 rfl ?_
          refine aw_guard rfl (fun g57 => ?_)
          refine aw_iast hC dX9_command_81 rm_7_0_25 rfl rfl g57 rfl (fun h56 => ?_)
          refine aw_aload_n hC dX9_command_82 rfl ?_
          refine aw_iload_n hC dX9_command_83 rfl ?_
          refine aw_iload_n hC dX9_command_84 rfl ?_
          refine aw_bind rfl (fun q58 hq58 => ?_)
          refine aw_cVv hC dX9_command_85 cv_RX9_514 rfl rm_7_0_0 (am_some (inj := (fun r => (.inr (none), r))) hq58 (A_X9_readsRest _ (hC.2.2.2.2.2.2.2.2.2.2.2.2.1) _ _ _ (gI q55 (7, 0, 0) 45) (jX9_commandHere h) h56)) rfl rfl rfl rfl rfl ⟨rfl, rfl⟩ ?_
          refine aw_aload_n hC dX9_command_88 rfl ?_
          refine aw_cVb hC dX9_command_89 cv_RX9_167 rfl rm_7_0_0 (A_X9_isGood _ (hC.2.2.2.2.2.2.2.2.2.2.2.2.1) _ _ _ q58) rfl rfl rfl rfl rfl ⟨rfl, rfl⟩ ?_
          refine aw_if_ne_b hC dX9_command_92 (tgt := 96) (by decide) ?_ ?_
          · refine aw_aload_n hC dX9_command_96 rfl ?_
            refine aw_dup hC dX9_command_97 rfl ?_
            refine aw_gfI hC dX9_command_98 fg_RX9_511 rfl rm_7_0_0 ?_
            refine aw_iconst hC dX9_command_101 (v := 1) (by decide) ?_
            refine aw_iadd hC dX9_command_102 ?_
            refine aw_pfI hC dX9_command_103 fg_RX9_511 fp_7_45 rfl rm_7_0_0 (fun h59 => ?_)
            refine aw_aload_n hC dX9_command_106 rfl ?_
            refine aw_dup hC dX9_command_107 rfl ?_
            refine aw_gfI hC dX9_command_108 fg_RX9_505 rfl rm_7_0_0 ?_
            refine aw_iload_n hC dX9_command_111 rfl ?_
            refine aw_bipush hC dX9_command_112 (v := 8) (by decide) ?_
            refine aw_icmp_ne hC dX9_command_114 (tgt := 121) (by decide) ?_ ?_
            · refine aw_iconst hC dX9_command_121 (v := 0) (by decide) ?_
              refine aw_cSi hC dX9_command_122 cv_RX9_115 (A_X9_truth _ (hC.2.2.2.2.2.2.2.2.2.2.2.2.1) _ _ _ false h59) rfl rfl rfl rfl rfl ⟨rfl, rfl⟩ ?_
              refine aw_iadd hC dX9_command_125 ?_
              refine aw_pfI hC dX9_command_126 fg_RX9_505 fp_7_47 rfl rm_7_0_0 (fun h60 => ?_)
              exact aw_vret hC dX9_command_129 rfl rfl
            · refine aw_iconst hC dX9_command_117 (v := 1) (by decide) ?_
              refine aw_goto hC dX9_command_118 (tgt := 122) (by decide) ?_
              refine aw_cSi hC dX9_command_122 cv_RX9_115 (A_X9_truth _ (hC.2.2.2.2.2.2.2.2.2.2.2.2.1) _ _ _ true h59) rfl rfl rfl rfl rfl ⟨rfl, rfl⟩ ?_
              refine aw_iadd hC dX9_command_125 ?_
              refine aw_pfI hC dX9_command_126 fg_RX9_505 fp_7_47 rfl rm_7_0_0 (fun h61 => ?_)
              exact aw_vret hC dX9_command_129 rfl rfl
          · exact aw_vret hC dX9_command_95 rfl rfl
        · exact aw_vret hC dX9_command_55 rfl rfl
      · refine aw_aload_n hC dX9_command_43 rfl ?_
        refine aw_iconst hC dX9_command_44 (v := 5) (by decide) ?_
        refine aw_bind rfl (fun q62 hq62 => ?_)
        refine aw_cVv hC dX9_command_45 cv_RX9_174 rfl rm_7_0_0 (am_some (inj := (fun r => (.inr (none), r))) hq62 (A_X9_wrong _ (hC.2.2.2.2.2.2.2.2.2.2.2.2.1) _ _ _ (5 : Int32) q53)) rfl rfl rfl rfl rfl ⟨rfl, rfl⟩ ?_
        refine aw_aload_n hC dX9_command_48 rfl ?_
        refine aw_cVb hC dX9_command_49 cv_RX9_167 rfl rm_7_0_0 (A_X9_isGood _ (hC.2.2.2.2.2.2.2.2.2.2.2.2.1) _ _ _ q62) rfl rfl rfl rfl rfl ⟨rfl, rfl⟩ ?_
        refine aw_if_ne_b hC dX9_command_52 (tgt := 56) (by decide) ?_ ?_
        · refine aw_aload_n hC dX9_command_56 rfl ?_
          refine aw_dup hC dX9_command_57 rfl ?_
          refine aw_gfI hC dX9_command_58 fg_RX9_508 rfl rm_7_0_0 ?_
          refine aw_iconst hC dX9_command_61 (v := 1) (by decide) ?_
          refine aw_iadd hC dX9_command_62 ?_
          refine aw_pfI hC dX9_command_63 fg_RX9_508 fp_7_46 rfl rm_7_0_0 (fun h63 => ?_)
          refine aw_aload_n hC dX9_command_66 rfl ?_
          refine aw_bind rfl (fun q64 hq64 => ?_)
          refine aw_cVv hC dX9_command_67 cv_RX9_177 rfl rm_7_0_0 (am_some (inj := (fun r => (.inr (none), r))) hq64 (A_X9_goOnRead _ (hC.2.2.2.2.2.2.2.2.2.2.2.2.1) _ _ _ h63)) rfl rfl rfl rfl rfl ⟨rfl, rfl⟩ ?_
          refine aw_aload_n hC dX9_command_70 rfl ?_
          refine aw_gfI hC dX9_command_71 fg_RX9_511 rfl rm_7_0_0 ?_
          refine aw_istore_n hC dX9_command_74 (by decide) ?_
          refine aw_aload_n hC dX9_command_75 rfl ?_
          refine aw_gfR hC dX9_command_76 fg_RX9_91 rfl rfl rm_7_0_0 ?_
          refine aw_iload_n hC dX9_command_79 rfl ?_
          refine aw_iload_n hC dX9_command_80 rfl ?_
          refine aw_guard rfl (fun g66 => ?_)
          refine aw_iast hC dX9_command_81 rm_7_0_25 rfl rfl g66 rfl (fun h65 => ?_)
          refine aw_aload_n hC dX9_command_82 rfl ?_
          refine aw_iload_n hC dX9_command_83 rfl ?_
          refine aw_iload_n hC dX9_command_84 rfl ?_
          refine aw_bind rfl (fun q67 hq67 => ?_)
          refine aw_cVv hC dX9_command_85 cv_RX9_514 rfl rm_7_0_0 (am_some (inj := (fun r => (.inr (none), r))) hq67 (A_X9_readsRest _ (hC.2.2.2.2.2.2.2.2.2.2.2.2.1) _ _ _ (gI q64 (7, 0, 0) 45) (jX9_commandHere h) h65)) rfl rfl rfl rfl rfl ⟨rfl, rfl⟩ ?_
          refine aw_aload_n hC dX9_command_88 rfl ?_
          refine aw_cVb hC dX9_command_89 cv_RX9_167 rfl rm_7_0_0 (A_X9_isGood _ (hC.2.2.2.2.2.2.2.2.2.2.2.2.1) _ _ _ q67) rfl rfl rfl rfl rfl ⟨rfl, rfl⟩ ?_
          refine aw_if_ne_b hC dX9_command_92 (tgt := 96) (by decide) ?_ ?_
          · refine aw_aload_n hC dX9_command_96 rfl ?_
            refine aw_dup hC dX9_command_97 rfl ?_
            refine aw_gfI hC dX9_command_98 fg_RX9_511 rfl rm_7_0_0 ?_
            refine aw_iconst hC dX9_command_101 (v := 1) (by decide) ?_
            refine aw_iadd hC dX9_command_102 ?_
            refine aw_pfI hC dX9_command_103 fg_RX9_511 fp_7_45 rfl rm_7_0_0 (fun h68 => ?_)
            refine aw_aload_n hC dX9_command_106 rfl ?_
            refine aw_dup hC dX9_command_107 rfl ?_
            refine aw_gfI hC dX9_command_108 fg_RX9_505 rfl rm_7_0_0 ?_
            refine aw_iload_n hC dX9_command_111 rfl ?_
            refine aw_bipush hC dX9_command_112 (v := 8) (by decide) ?_
            refine aw_icmp_ne hC dX9_command_114 (tgt := 121) (by decide) ?_ ?_
            · refine aw_iconst hC dX9_command_121 (v := 0) (by decide) ?_
              refine aw_cSi hC dX9_command_122 cv_RX9_115 (A_X9_truth _ (hC.2.2.2.2.2.2.2.2.2.2.2.2.1) _ _ _ false h68) rfl rfl rfl rfl rfl ⟨rfl, rfl⟩ ?_
              refine aw_iadd hC dX9_command_125 ?_
              refine aw_pfI hC dX9_command_126 fg_RX9_505 fp_7_47 rfl rm_7_0_0 (fun h69 => ?_)
              exact aw_vret hC dX9_command_129 rfl rfl
            · refine aw_iconst hC dX9_command_117 (v := 1) (by decide) ?_
              refine aw_goto hC dX9_command_118 (tgt := 122) (by decide) ?_
              refine aw_cSi hC dX9_command_122 cv_RX9_115 (A_X9_truth _ (hC.2.2.2.2.2.2.2.2.2.2.2.2.1) _ _ _ true h68) rfl rfl rfl rfl rfl ⟨rfl, rfl⟩ ?_
              refine aw_iadd hC dX9_command_125 ?_
              refine aw_pfI hC dX9_command_126 fg_RX9_505 fp_7_47 rfl rm_7_0_0 (fun h70 => ?_)
              exact aw_vret hC dX9_command_129 rfl rfl
          · exact aw_vret hC dX9_command_95 rfl rfl
        · exact aw_vret hC dX9_command_55 rfl rfl
    · refine aw_aload_n hC dX9_command_21 rfl ?_
      refine aw_gfI hC dX9_command_22 fg_RX9_505 rfl rm_7_0_0 ?_
      refine aw_iconst hC dX9_command_25 (v := 2) (by decide) ?_
      refine aw_icmp_ne hC dX9_command_26 (tgt := 34) (by decide) ?_ ?_
      · refine aw_aload_n hC dX9_command_34 rfl ?_
        refine aw_gfI hC dX9_command_35 fg_RX9_508 rfl rm_7_0_0 ?_
        refine aw_bipush hC dX9_command_38 (v := 30) (by decide) ?_
        refine aw_icmp_ne hC dX9_command_40 (tgt := 48) (by decide) ?_ ?_
        · refine aw_aload_n hC dX9_command_48 rfl ?_
          refine aw_cVb hC dX9_command_49 cv_RX9_167 rfl rm_7_0_0 (A_X9_isGood _ (hC.2.2.2.2.2.2.2.2.2.2.2.2.1) _ _ _ q53) rfl rfl rfl rfl rfl ⟨rfl, rfl⟩ ?_
          refine aw_if_ne_b hC dX9_command_52 (tgt := 56) (by decide) ?_ ?_
          · refine aw_aload_n hC dX9_command_56 rfl ?_
            refine aw_dup hC dX9_command_57 rfl ?_
            refine aw_gfI hC dX9_command_58 fg_RX9_508 rfl rm_7_0_0 ?_
            refine aw_iconst hC dX9_command_61 (v := 1) (by decide) ?_
            refine aw_iadd hC dX9_command_62 ?_
            refine aw_pfI hC dX9_command_63 fg_RX9_508 fp_7_46 rfl rm_7_0_0 (fun h71 => ?_)
            refine aw_aload_n hC dX9_command_66 rfl ?_
            refine aw_bind rfl (fun q72 hq72 => ?_)
            refine aw_cVv hC dX9_command_67 cv_RX9_177 rfl rm_7_0_0 (am_some (inj := (fun r => (.inr (none), r))) hq72 (A_X9_goOnRead _ (hC.2.2.2.2.2.2.2.2.2.2.2.2.1) _ _ _ h71)) rfl rfl rfl rfl rfl ⟨rfl, rfl⟩ ?_
            refine aw_aload_n hC dX9_command_70 rfl ?_
            refine aw_gfI hC dX9_command_71 fg_RX9_511 rfl rm_7_0_0 ?_
            refine aw_istore_n hC dX9_command_74 (by decide) ?_
            refine aw_aload_n hC dX9_command_75 rfl ?_
            refine aw_gfR hC dX9_command_76 fg_RX9_91 rfl rfl rm_7_0_0 ?_
            refine aw_iload_n hC dX9_command_79 rfl ?_
            refine aw_iload_n hC dX9_command_80 rfl ?_
            refine aw_guard rfl (fun g74 => ?_)
            refine aw_iast hC dX9_command_81 rm_7_0_25 rfl rfl g74 rfl (fun h73 => ?_)
            refine aw_aload_n hC dX9_command_82 rfl ?_
            refine aw_iload_n hC dX9_command_83 rfl ?_
            refine aw_iload_n hC dX9_command_84 rfl ?_
            refine aw_bind rfl (fun q75 hq75 => ?_)
            refine aw_cVv hC dX9_command_85 cv_RX9_514 rfl rm_7_0_0 (am_some (inj := (fun r => (.inr (none), r))) hq75 (A_X9_readsRest _ (hC.2.2.2.2.2.2.2.2.2.2.2.2.1) _ _ _ (gI q72 (7, 0, 0) 45) (jX9_commandHere h) h73)) rfl rfl rfl rfl rfl ⟨rfl, rfl⟩ ?_
            refine aw_aload_n hC dX9_command_88 rfl ?_
            refine aw_cVb hC dX9_command_89 cv_RX9_167 rfl rm_7_0_0 (A_X9_isGood _ (hC.2.2.2.2.2.2.2.2.2.2.2.2.1) _ _ _ q75) rfl rfl rfl rfl rfl ⟨rfl, rfl⟩ ?_
            refine aw_if_ne_b hC dX9_command_92 (tgt := 96) (by decide) ?_ ?_
            · refine aw_aload_n hC dX9_command_96 rfl ?_
              refine aw_dup hC dX9_command_97 rfl ?_
              refine aw_gfI hC dX9_command_98 fg_RX9_511 rfl rm_7_0_0 ?_
              refine aw_iconst hC dX9_command_101 (v := 1) (by decide) ?_
              refine aw_iadd hC dX9_command_102 ?_
              refine aw_pfI hC dX9_command_103 fg_RX9_511 fp_7_45 rfl rm_7_0_0 (fun h76 => ?_)
              refine aw_aload_n hC dX9_command_106 rfl ?_
              refine aw_dup hC dX9_command_107 rfl ?_
              refine aw_gfI hC dX9_command_108 fg_RX9_505 rfl rm_7_0_0 ?_
              refine aw_iload_n hC dX9_command_111 rfl ?_
              refine aw_bipush hC dX9_command_112 (v := 8) (by decide) ?_
              refine aw_icmp_ne hC dX9_command_114 (tgt := 121) (by decide) ?_ ?_
              · refine aw_iconst hC dX9_command_121 (v := 0) (by decide) ?_
                refine aw_cSi hC dX9_command_122 cv_RX9_115 (A_X9_truth _ (hC.2.2.2.2.2.2.2.2.2.2.2.2.1) _ _ _ false h76) rfl rfl rfl rfl rfl ⟨rfl, rfl⟩ ?_
                refine aw_iadd hC dX9_command_125 ?_
                refine aw_pfI hC dX9_command_126 fg_RX9_505 fp_7_47 rfl rm_7_0_0 (fun h77 => ?_)
                exact aw_vret hC dX9_command_129 rfl rfl
              · refine aw_iconst hC dX9_command_117 (v := 1) (by decide) ?_
                refine aw_goto hC dX9_command_118 (tgt := 122) (by decide) ?_
                refine aw_cSi hC dX9_command_122 cv_RX9_115 (A_X9_truth _ (hC.2.2.2.2.2.2.2.2.2.2.2.2.1) _ _ _ true h76) rfl rfl rfl rfl rfl ⟨rfl, rfl⟩ ?_
                refine aw_iadd hC dX9_command_125 ?_
                refine aw_pfI hC dX9_command_126 fg_RX9_505 fp_7_47 rfl rm_7_0_0 (fun h78 => ?_)
                exact aw_vret hC dX9_command_129 rfl rfl
            · exact aw_vret hC dX9_command_95 rfl rfl
          · exact aw_vret hC dX9_command_55 rfl rfl
        · refine aw_aload_n hC dX9_command_43 rfl ?_
          refine aw_iconst hC dX9_command_44 (v := 5) (by decide) ?_
          refine aw_bind rfl (fun q79 hq79 => ?_)
          refine aw_cVv hC dX9_command_45 cv_RX9_174 rfl rm_7_0_0 (am_some (inj := (fun r => (.inr (none), r))) hq79 (A_X9_wrong _ (hC.2.2.2.2.2.2.2.2.2.2.2.2.1) _ _ _ (5 : Int32) q53)) rfl rfl rfl rfl rfl ⟨rfl, rfl⟩ ?_
          refine aw_aload_n hC dX9_command_48 rfl ?_
          refine aw_cVb hC dX9_command_49 cv_RX9_167 rfl rm_7_0_0 (A_X9_isGood _ (hC.2.2.2.2.2.2.2.2.2.2.2.2.1) _ _ _ q79) rfl rfl rfl rfl rfl ⟨rfl, rfl⟩ ?_
          refine aw_if_ne_b hC dX9_command_52 (tgt := 56) (by decide) ?_ ?_
          · refine aw_aload_n hC dX9_command_56 rfl ?_
            refine aw_dup hC dX9_command_57 rfl ?_
            refine aw_gfI hC dX9_command_58 fg_RX9_508 rfl rm_7_0_0 ?_
            refine aw_iconst hC dX9_command_61 (v := 1) (by decide) ?_
            refine aw_iadd hC dX9_command_62 ?_
            refine aw_pfI hC dX9_command_63 fg_RX9_508 fp_7_46 rfl rm_7_0_0 (fun h80 => ?_)
            refine aw_aload_n hC dX9_command_66 rfl ?_
            refine aw_bind rfl (fun q81 hq81 => ?_)
            refine aw_cVv hC dX9_command_67 cv_RX9_177 rfl rm_7_0_0 (am_some (inj := (fun r => (.inr (none), r))) hq81 (A_X9_goOnRead _ (hC.2.2.2.2.2.2.2.2.2.2.2.2.1) _ _ _ h80)) rfl rfl rfl rfl rfl ⟨rfl, rfl⟩ ?_
            refine aw_aload_n hC dX9_command_70 rfl ?_
            refine aw_gfI hC dX9_command_71 fg_RX9_511 rfl rm_7_0_0 ?_
            refine aw_istore_n hC dX9_command_74 (by decide) ?_
            refine aw_aload_n hC dX9_command_75 rfl ?_
            refine aw_gfR hC dX9_command_76 fg_RX9_91 rfl rfl rm_7_0_0 ?_
            refine aw_iload_n hC dX9_command_79 rfl ?_
            refine aw_iload_n hC dX9_command_80 rfl ?_
            refine aw_guard rfl (fun g83 => ?_)
            refine aw_iast hC dX9_command_81 rm_7_0_25 rfl rfl g83 rfl (fun h82 => ?_)
            refine aw_aload_n hC dX9_command_82 rfl ?_
            refine aw_iload_n hC dX9_command_83 rfl ?_
            refine aw_iload_n hC dX9_command_84 rfl ?_
            refine aw_bind rfl (fun q84 hq84 => ?_)
            refine aw_cVv hC dX9_command_85 cv_RX9_514 rfl rm_7_0_0 (am_some (inj := (fun r => (.inr (none), r))) hq84 (A_X9_readsRest _ (hC.2.2.2.2.2.2.2.2.2.2.2.2.1) _ _ _ (gI q81 (7, 0, 0) 45) (jX9_commandHere h) h82)) rfl rfl rfl rfl rfl ⟨rfl, rfl⟩ ?_
            refine aw_aload_n hC dX9_command_88 rfl ?_
            refine aw_cVb hC dX9_command_89 cv_RX9_167 rfl rm_7_0_0 (A_X9_isGood _ (hC.2.2.2.2.2.2.2.2.2.2.2.2.1) _ _ _ q84) rfl rfl rfl rfl rfl ⟨rfl, rfl⟩ ?_
            refine aw_if_ne_b hC dX9_command_92 (tgt := 96) (by decide) ?_ ?_
            · refine aw_aload_n hC dX9_command_96 rfl ?_
              refine aw_dup hC dX9_command_97 rfl ?_
              refine aw_gfI hC dX9_command_98 fg_RX9_511 rfl rm_7_0_0 ?_
              refine aw_iconst hC dX9_command_101 (v := 1) (by decide) ?_
              refine aw_iadd hC dX9_command_102 ?_
              refine aw_pfI hC dX9_command_103 fg_RX9_511 fp_7_45 rfl rm_7_0_0 (fun h85 => ?_)
              refine aw_aload_n hC dX9_command_106 rfl ?_
              refine aw_dup hC dX9_command_107 rfl ?_
              refine aw_gfI hC dX9_command_108 fg_RX9_505 rfl rm_7_0_0 ?_
              refine aw_iload_n hC dX9_command_111 rfl ?_
              refine aw_bipush hC dX9_command_112 (v := 8) (by decide) ?_
              refine aw_icmp_ne hC dX9_command_114 (tgt := 121) (by decide) ?_ ?_
              · refine aw_iconst hC dX9_command_121 (v := 0) (by decide) ?_
                refine aw_cSi hC dX9_command_122 cv_RX9_115 (A_X9_truth _ (hC.2.2.2.2.2.2.2.2.2.2.2.2.1) _ _ _ false h85) rfl rfl rfl rfl rfl ⟨rfl, rfl⟩ ?_
                refine aw_iadd hC dX9_command_125 ?_
                refine aw_pfI hC dX9_command_126 fg_RX9_505 fp_7_47 rfl rm_7_0_0 (fun h86 => ?_)
                exact aw_vret hC dX9_command_129 rfl rfl
              · refine aw_iconst hC dX9_command_117 (v := 1) (by decide) ?_
                refine aw_goto hC dX9_command_118 (tgt := 122) (by decide) ?_
                refine aw_cSi hC dX9_command_122 cv_RX9_115 (A_X9_truth _ (hC.2.2.2.2.2.2.2.2.2.2.2.2.1) _ _ _ true h85) rfl rfl rfl rfl rfl ⟨rfl, rfl⟩ ?_
                refine aw_iadd hC dX9_command_125 ?_
                refine aw_pfI hC dX9_command_126 fg_RX9_505 fp_7_47 rfl rm_7_0_0 (fun h87 => ?_)
                exact aw_vret hC dX9_command_129 rfl rfl
            · exact aw_vret hC dX9_command_95 rfl rfl
          · exact aw_vret hC dX9_command_55 rfl rfl
      · refine aw_aload_n hC dX9_command_29 rfl ?_
        refine aw_iconst hC dX9_command_30 (v := 3) (by decide) ?_
        refine aw_bind rfl (fun q88 hq88 => ?_)
        refine aw_cVv hC dX9_command_31 cv_RX9_174 rfl rm_7_0_0 (am_some (inj := (fun r => (.inr (none), r))) hq88 (A_X9_wrong _ (hC.2.2.2.2.2.2.2.2.2.2.2.2.1) _ _ _ (3 : Int32) q53)) rfl rfl rfl rfl rfl ⟨rfl, rfl⟩ ?_
        refine aw_aload_n hC dX9_command_34 rfl ?_
        refine aw_gfI hC dX9_command_35 fg_RX9_508 rfl rm_7_0_0 ?_
        refine aw_bipush hC dX9_command_38 (v := 30) (by decide) ?_
        refine aw_icmp_ne hC dX9_command_40 (tgt := 48) (by decide) ?_ ?_
        · refine aw_aload_n hC dX9_command_48 rfl ?_
          refine aw_cVb hC dX9_command_49 cv_RX9_167 rfl rm_7_0_0 (A_X9_isGood _ (hC.2.2.2.2.2.2.2.2.2.2.2.2.1) _ _ _ q88) rfl rfl rfl rfl rfl ⟨rfl, rfl⟩ ?_
          refine aw_if_ne_b hC dX9_command_52 (tgt := 56) (by decide) ?_ ?_
          · refine aw_aload_n hC dX9_command_56 rfl ?_
            refine aw_dup hC dX9_command_57 rfl ?_
            refine aw_gfI hC dX9_command_58 fg_RX9_508 rfl rm_7_0_0 ?_
            refine aw_iconst hC dX9_command_61 (v := 1) (by decide) ?_
            refine aw_iadd hC dX9_command_62 ?_
            refine aw_pfI hC dX9_command_63 fg_RX9_508 fp_7_46 rfl rm_7_0_0 (fun h89 => ?_)
            refine aw_aload_n hC dX9_command_66 rfl ?_
            refine aw_bind rfl (fun q90 hq90 => ?_)
            refine aw_cVv hC dX9_command_67 cv_RX9_177 rfl rm_7_0_0 (am_some (inj := (fun r => (.inr (none), r))) hq90 (A_X9_goOnRead _ (hC.2.2.2.2.2.2.2.2.2.2.2.2.1) _ _ _ h89)) rfl rfl rfl rfl rfl ⟨rfl, rfl⟩ ?_
            refine aw_aload_n hC dX9_command_70 rfl ?_
            refine aw_gfI hC dX9_command_71 fg_RX9_511 rfl rm_7_0_0 ?_
            refine aw_istore_n hC dX9_command_74 (by decide) ?_
            refine aw_aload_n hC dX9_command_75 rfl ?_
            refine aw_gfR hC dX9_command_76 fg_RX9_91 rfl rfl rm_7_0_0 ?_
            refine aw_iload_n hC dX9_command_79 rfl ?_
            refine aw_iload_n hC dX9_command_80 rfl ?_
            refine aw_guard rfl (fun g92 => ?_)
            refine aw_iast hC dX9_command_81 rm_7_0_25 rfl rfl g92 rfl (fun h91 => ?_)
            refine aw_aload_n hC dX9_command_82 rfl ?_
            refine aw_iload_n hC dX9_command_83 rfl ?_
            refine aw_iload_n hC dX9_command_84 rfl ?_
            refine aw_bind rfl (fun q93 hq93 => ?_)
            refine aw_cVv hC dX9_command_85 cv_RX9_514 rfl rm_7_0_0 (am_some (inj := (fun r => (.inr (none), r))) hq93 (A_X9_readsRest _ (hC.2.2.2.2.2.2.2.2.2.2.2.2.1) _ _ _ (gI q90 (7, 0, 0) 45) (jX9_commandHere h) h91)) rfl rfl rfl rfl rfl ⟨rfl, rfl⟩ ?_
            refine aw_aload_n hC dX9_command_88 rfl ?_
            refine aw_cVb hC dX9_command_89 cv_RX9_167 rfl rm_7_0_0 (A_X9_isGood _ (hC.2.2.2.2.2.2.2.2.2.2.2.2.1) _ _ _ q93) rfl rfl rfl rfl rfl ⟨rfl, rfl⟩ ?_
            refine aw_if_ne_b hC dX9_command_92 (tgt := 96) (by decide) ?_ ?_
            · refine aw_aload_n hC dX9_command_96 rfl ?_
              refine aw_dup hC dX9_command_97 rfl ?_
              refine aw_gfI hC dX9_command_98 fg_RX9_511 rfl rm_7_0_0 ?_
              refine aw_iconst hC dX9_command_101 (v := 1) (by decide) ?_
              refine aw_iadd hC dX9_command_102 ?_
              refine aw_pfI hC dX9_command_103 fg_RX9_511 fp_7_45 rfl rm_7_0_0 (fun h94 => ?_)
              refine aw_aload_n hC dX9_command_106 rfl ?_
              refine aw_dup hC dX9_command_107 rfl ?_
              refine aw_gfI hC dX9_command_108 fg_RX9_505 rfl rm_7_0_0 ?_
              refine aw_iload_n hC dX9_command_111 rfl ?_
              refine aw_bipush hC dX9_command_112 (v := 8) (by decide) ?_
              refine aw_icmp_ne hC dX9_command_114 (tgt := 121) (by decide) ?_ ?_
              · refine aw_iconst hC dX9_command_121 (v := 0) (by decide) ?_
                refine aw_cSi hC dX9_command_122 cv_RX9_115 (A_X9_truth _ (hC.2.2.2.2.2.2.2.2.2.2.2.2.1) _ _ _ false h94) rfl rfl rfl rfl rfl ⟨rfl, rfl⟩ ?_
                refine aw_iadd hC dX9_command_125 ?_
                refine aw_pfI hC dX9_command_126 fg_RX9_505 fp_7_47 rfl rm_7_0_0 (fun h95 => ?_)
                exact aw_vret hC dX9_command_129 rfl rfl
              · refine aw_iconst hC dX9_command_117 (v := 1) (by decide) ?_
                refine aw_goto hC dX9_command_118 (tgt := 122) (by decide) ?_
                refine aw_cSi hC dX9_command_122 cv_RX9_115 (A_X9_truth _ (hC.2.2.2.2.2.2.2.2.2.2.2.2.1) _ _ _ true h94) rfl rfl rfl rfl rfl ⟨rfl, rfl⟩ ?_
                refine aw_iadd hC dX9_command_125 ?_
                refine aw_pfI hC dX9_command_126 fg_RX9_505 fp_7_47 rfl rm_7_0_0 (fun h96 => ?_)
                exact aw_vret hC dX9_command_129 rfl rfl
            · exact aw_vret hC dX9_command_95 rfl rfl
          · exact aw_vret hC dX9_command_55 rfl rfl
        · refine aw_aload_n hC dX9_command_43 rfl ?_
          refine aw_iconst hC dX9_command_44 (v := 5) (by decide) ?_
          refine aw_bind rfl (fun q97 hq97 => ?_)
          refine aw_cVv hC dX9_command_45 cv_RX9_174 rfl rm_7_0_0 (am_some (inj := (fun r => (.inr (none), r))) hq97 (A_X9_wrong _ (hC.2.2.2.2.2.2.2.2.2.2.2.2.1) _ _ _ (5 : Int32) q88)) rfl rfl rfl rfl rfl ⟨rfl, rfl⟩ ?_
          refine aw_aload_n hC dX9_command_48 rfl ?_
          refine aw_cVb hC dX9_command_49 cv_RX9_167 rfl rm_7_0_0 (A_X9_isGood _ (hC.2.2.2.2.2.2.2.2.2.2.2.2.1) _ _ _ q97) rfl rfl rfl rfl rfl ⟨rfl, rfl⟩ ?_
          refine aw_if_ne_b hC dX9_command_52 (tgt := 56) (by decide) ?_ ?_
          · refine aw_aload_n hC dX9_command_56 rfl ?_
            refine aw_dup hC dX9_command_57 rfl ?_
            refine aw_gfI hC dX9_command_58 fg_RX9_508 rfl rm_7_0_0 ?_
            refine aw_iconst hC dX9_command_61 (v := 1) (by decide) ?_
            refine aw_iadd hC dX9_command_62 ?_
            refine aw_pfI hC dX9_command_63 fg_RX9_508 fp_7_46 rfl rm_7_0_0 (fun h98 => ?_)
            refine aw_aload_n hC dX9_command_66 rfl ?_
            refine aw_bind rfl (fun q99 hq99 => ?_)
            refine aw_cVv hC dX9_command_67 cv_RX9_177 rfl rm_7_0_0 (am_some (inj := (fun r => (.inr (none), r))) hq99 (A_X9_goOnRead _ (hC.2.2.2.2.2.2.2.2.2.2.2.2.1) _ _ _ h98)) rfl rfl rfl rfl rfl ⟨rfl, rfl⟩ ?_
            refine aw_aload_n hC dX9_command_70 rfl ?_
            refine aw_gfI hC dX9_command_71 fg_RX9_511 rfl rm_7_0_0 ?_
            refine aw_istore_n hC dX9_command_74 (by decide) ?_
            refine aw_aload_n hC dX9_command_75 rfl ?_
            refine aw_gfR hC dX9_command_76 fg_RX9_91 rfl rfl rm_7_0_0 ?_
            refine aw_iload_n hC dX9_command_79 rfl ?_
            refine aw_iload_n hC dX9_command_80 rfl ?_
            refine aw_guard rfl (fun g101 => ?_)
            refine aw_iast hC dX9_command_81 rm_7_0_25 rfl rfl g101 rfl (fun h100 => ?_)
            refine aw_aload_n hC dX9_command_82 rfl ?_
            refine aw_iload_n hC dX9_command_83 rfl ?_
            refine aw_iload_n hC dX9_command_84 rfl ?_
            refine aw_bind rfl (fun q102 hq102 => ?_)
            refine aw_cVv hC dX9_command_85 cv_RX9_514 rfl rm_7_0_0 (am_some (inj := (fun r => (.inr (none), r))) hq102 (A_X9_readsRest _ (hC.2.2.2.2.2.2.2.2.2.2.2.2.1) _ _ _ (gI q99 (7, 0, 0) 45) (jX9_commandHere h) h100)) rfl rfl rfl rfl rfl ⟨rfl, rfl⟩ ?_
            refine aw_aload_n hC dX9_command_88 rfl ?_
            refine aw_cVb hC dX9_command_89 cv_RX9_167 rfl rm_7_0_0 (A_X9_isGood _ (hC.2.2.2.2.2.2.2.2.2.2.2.2.1) _ _ _ q102) rfl rfl rfl rfl rfl ⟨rfl, rfl⟩ ?_
            refine aw_if_ne_b hC dX9_command_92 (tgt := 96) (by decide) ?_ ?_
            · refine aw_aload_n hC dX9_command_96 rfl ?_
              refine aw_dup hC dX9_command_97 rfl ?_
              refine aw_gfI hC dX9_command_98 fg_RX9_511 rfl rm_7_0_0 ?_
              refine aw_iconst hC dX9_command_101 (v := 1) (by decide) ?_
              refine aw_iadd hC dX9_command_102 ?_
              refine aw_pfI hC dX9_command_103 fg_RX9_511 fp_7_45 rfl rm_7_0_0 (fun h103 => ?_)
              refine aw_aload_n hC dX9_command_106 rfl ?_
              refine aw_dup hC dX9_command_107 rfl ?_
              refine aw_gfI hC dX9_command_108 fg_RX9_505 rfl rm_7_0_0 ?_
              refine aw_iload_n hC dX9_command_111 rfl ?_
              refine aw_bipush hC dX9_command_112 (v := 8) (by decide) ?_
              refine aw_icmp_ne hC dX9_command_114 (tgt := 121) (by decide) ?_ ?_
              · refine aw_iconst hC dX9_command_121 (v := 0) (by decide) ?_
                refine aw_cSi hC dX9_command_122 cv_RX9_115 (A_X9_truth _ (hC.2.2.2.2.2.2.2.2.2.2.2.2.1) _ _ _ false h103) rfl rfl rfl rfl rfl ⟨rfl, rfl⟩ ?_
                refine aw_iadd hC dX9_command_125 ?_
                refine aw_pfI hC dX9_command_126 fg_RX9_505 fp_7_47 rfl rm_7_0_0 (fun h104 => ?_)
                exact aw_vret hC dX9_command_129 rfl rfl
              · refine aw_iconst hC dX9_command_117 (v := 1) (by decide) ?_
                refine aw_goto hC dX9_command_118 (tgt := 122) (by decide) ?_
                refine aw_cSi hC dX9_command_122 cv_RX9_115 (A_X9_truth _ (hC.2.2.2.2.2.2.2.2.2.2.2.2.1) _ _ _ true h103) rfl rfl rfl rfl rfl ⟨rfl, rfl⟩ ?_
                refine aw_iadd hC dX9_command_125 ?_
                refine aw_pfI hC dX9_command_126 fg_RX9_505 fp_7_47 rfl rm_7_0_0 (fun h105 => ?_)
                exact aw_vret hC dX9_command_129 rfl rfl
            · exact aw_vret hC dX9_command_95 rfl rfl
          · exact aw_vret hC dX9_command_55 rfl rfl
set_option maxHeartbeats 4000000 in
set_option maxRecDepth 100000 in
theorem L_X9_closes_0  (hC : Cx p l e R s m args meth c D loc cy A cX9_closes 1 (none) RX9 3 80 0 0)  : ∀ (n0 : Nat)  (h : HD), AW p l e R s m args below meth c D loc cy A 1 (QM below D loc cy A args s) (fun (r : Option HD) => r.map (fun r => (.inr (none), r))) (0, 0) 0 [(0, .ref (loc (7, 0, 0)))] [] h (jX9_closes_L0 n0 h) := by
  intro n0
  induction n0 with
  | zero => intro h; exact aw_none rfl
  | succ n0 ih0 =>
    intro h
    rw [jX9_closes_L0]
    refine aw_aload_n hC dX9_closes_0 rfl ?_
    refine aw_gfI hC dX9_closes_1 fg_RX9_505 rfl rm_7_0_0 ?_
    refine aw_if_le hC dX9_closes_4 (tgt := 60) (by decide) ?_ ?_
    · exact aw_vret hC dX9_closes_60 rfl rfl
    · refine aw_aload_n hC dX9_closes_7 rfl ?_
      refine aw_bipush hC dX9_closes_8 (v := 41) (by decide) ?_
      refine aw_cVb hC dX9_closes_10 cv_RX9_171 rfl rm_7_0_0 (A_X9_isSign _ (hC.2.2.2.2.2.2.2.2.2.2.2.2.1) _ _ _ (41 : Int32) h) rfl rfl rfl rfl rfl ⟨rfl, rfl⟩ ?_
      refine aw_if_eq_b hC dX9_closes_13 (tgt := 60) (by decide) ?_ ?_
      · exact aw_vret hC dX9_closes_60 rfl rfl
      · refine aw_aload_n hC dX9_closes_16 rfl ?_
        refine aw_dup hC dX9_closes_17 rfl ?_
        refine aw_gfI hC dX9_closes_18 fg_RX9_505 rfl rm_7_0_0 ?_
        refine aw_iconst hC dX9_closes_21 (v := 1) (by decide) ?_
        refine aw_isub hC dX9_closes_22 ?_
        refine aw_pfI hC dX9_closes_23 fg_RX9_505 fp_7_47 rfl rm_7_0_0 (fun h1 => ?_)
        refine aw_aload_n hC dX9_closes_26 rfl ?_
        refine aw_gfR hC dX9_closes_27 fg_RX9_91 rfl rfl rm_7_0_0 ?_
        refine aw_aload_n hC dX9_closes_30 rfl ?_
        refine aw_gfI hC dX9_closes_31 fg_RX9_511 rfl rm_7_0_0 ?_
        refine aw_bipush hC dX9_closes_34 (v := 9) (by decide) ?_
        refine aw_guard rfl (fun g3 => ?_)
        refine aw_iast hC dX9_closes_36 rm_7_0_25 rfl rfl g3 rfl (fun h2 => ?_)
        refine aw_aload_n hC dX9_closes_37 rfl ?_
        refine aw_dup hC dX9_closes_38 rfl ?_
        refine aw_gfI hC dX9_closes_39 fg_RX9_511 rfl rm_7_0_0 ?_
        refine aw_iconst hC dX9_closes_42 (v := 1) (by decide) ?_
        refine aw_iadd hC dX9_closes_43 ?_
        refine aw_pfI hC dX9_closes_44 fg_RX9_511 fp_7_45 rfl rm_7_0_0 (fun h4 => ?_)
        refine aw_aload_n hC dX9_closes_47 rfl ?_
        refine aw_bind rfl (fun q5 hq5 => ?_)
        refine aw_cVv hC dX9_closes_48 cv_RX9_177 rfl rm_7_0_0 (am_some (inj := (fun r => (.inr (none), r))) hq5 (A_X9_goOnRead _ (hC.2.2.2.2.2.2.2.2.2.2.2.2.1) _ _ _ h4)) rfl rfl rfl rfl rfl ⟨rfl, rfl⟩ ?_
        refine aw_aload_n hC dX9_closes_51 rfl ?_
        refine aw_bipush hC dX9_closes_52 (v := 59) (by decide) ?_
        refine aw_bind rfl (fun q6 hq6 => ?_)
        refine aw_cVv hC dX9_closes_54 cv_RX9_283 rfl rm_7_0_0 (am_some (inj := (fun r => (.inr (none), r))) hq6 (A_X9_mustSign _ (hC.2.2.2.2.2.2.2.2.2.2.2.2.1) _ _ _ (59 : Int32) q5)) rfl rfl rfl rfl rfl ⟨rfl, rfl⟩ ?_
        refine aw_goto hC dX9_closes_57 (tgt := 0) (by decide) ?_
        refine aw_sub [0] ?_
        exact ih0 q6
set_option maxHeartbeats 4000000 in
set_option maxRecDepth 100000 in
theorem A_X9_closes (l : Launch) (hl0 : l.stackTraces = false) (D : va_G) (loc : Rf → Nat) (cy : Nat → ClassId)  (h : HD) : AM l D loc cy yX9_closes cX9_closes 1 (none) 3 80 [.ref (loc (7, 0, 0))] h ((jX9_closes h).map (fun r => (.inr (none), r))) := by
  refine am_start (y := yX9_closes) (av := [.ref (loc (7, 0, 0))]) (nL := 1) (h := h) (RF := fun (r : Option HD) => r.map (fun r => (.inr (none), r))) (x := jX9_closes h) hl0 (by decide +kernel) rfl ?_
  intro p e R s m below meth c A hC
  unfold jX9_closes
  refine aw_sub [0] ?_
  exact L_X9_closes_0   hC FU h
set_option maxHeartbeats 4000000 in
set_option maxRecDepth 100000 in
theorem A_X9_may (l : Launch) (hl0 : l.stackTraces = false) (D : va_G) (loc : Rf → Nat) (cy : Nat → ClassId) (p1 : Int32) (h : HD) : AM l D loc cy yX9_may cX9_may 4 (some .boolean) 2 62 [.ref (loc (7, 0, 0)), .int p1] h ((jX9_may p1 h).map (fun r => (.inr (some (.int (b2i r.1))), r.2))) := by
  refine am_start (y := yX9_may) (av := [.ref (loc (7, 0, 0)), .int p1]) (nL := 4) (h := h) (RF := fun (r : Option (Bool × HD)) => r.map (fun r => (.inr (some (.int (b2i r.1))), r.2))) (x := jX9_may p1 h) hl0 (by decide +kernel) rfl ?_
  intro p e R s m below meth c A hC
  unfold jX9_may
  refine aw_aload_n hC dX9_may_0 rfl ?_
  refine aw_aload_n hC dX9_may_1 rfl ?_
  refine aw_gfR hC dX9_may_2 fg_RX9_103 rfl rfl rm_7_0_0 ?_
  refine aw_iload_n hC dX9_may_5 rfl ?_
  refine aw_guard rfl (fun g1 => ?_)
  refine aw_lald hC dX9_may_6 rm_7_0_29 rfl rfl g1 rfl ?_
  refine aw_bind rfl (fun q2 hq2 => ?_)
  refine aw_cVi hC dX9_may_7 cv_RX9_260 rfl rm_7_0_0 (am_some (inj := (fun r => (.inr (some (.int r)), h))) hq2 (A_X9_carNamed _ (hC.2.2.2.2.2.2.2.2.2.2.2.2.1) _ _ _ (gJ h (7, 0, 29) p1.toNatClampNeg) h)) rfl rfl rfl rfl rfl ⟨rfl, rfl⟩ ?_
  refine aw_istore_n hC dX9_may_10 (by decide) ?_
  refine aw_aload_n hC dX9_may_11 rfl ?_
  refine aw_gfR hC dX9_may_12 fg_RX9_94 rfl rfl rm_7_0_0 ?_
  refine aw_iload_n hC dX9_may_15 rfl ?_
  refine aw_guard rfl (fun g3 => ?_)
  refine aw_iald hC dX9_may_16 rm_7_0_26 rfl rfl g3 rfl ?_
  refine aw_istore_n hC dX9_may_17 (by decide) ?_
  refine aw_aload_n hC dX9_may_18 rfl ?_
  refine aw_gfR hC dX9_may_19 fg_RX9_91 rfl rfl rm_7_0_0 ?_
  refine aw_iload_n hC dX9_may_22 rfl ?_
  refine aw_guard rfl (fun g4 => ?_)
  refine aw_iald hC dX9_may_23 rm_7_0_25 rfl rfl g4 rfl ?_
  refine aw_tabIn hC dX9_may_24 0 (by decide) (by decide) (off := 40) rfl (tgt := 64) (by decide) ?_ (fun n6 => ?_)
  · refine aw_iload_n hC dX9_may_64 rfl ?_
    refine aw_iconst hC dX9_may_65 (v := -1) (by decide) ?_
    refine aw_icmp_eq hC dX9_may_66 (tgt := 81) (by decide) ?_ ?_
    · refine aw_iconst hC dX9_may_81 (v := 0) (by decide) ?_
      exact aw_zret hC dX9_may_82 rfl (show _ = b2i false from rfl) rfl
    · refine aw_aload_n hC dX9_may_69 rfl ?_
      refine aw_iload_n hC dX9_may_70 rfl ?_
      refine aw_bind rfl (fun q5 hq5 => ?_)
      refine aw_cVb hC dX9_may_71 cv_RX9_341 rfl rm_7_0_0 (am_some (inj := (fun r => (.inr (some (.int (b2i r))), h))) hq5 (A_X9_isSpot _ (hC.2.2.2.2.2.2.2.2.2.2.2.2.1) _ _ _ (gI h (7, 0, 26) p1.toNatClampNeg) h)) rfl rfl rfl rfl rfl ⟨rfl, rfl⟩ ?_
      refine aw_if_eq_b hC dX9_may_74 (tgt := 81) (by decide) ?_ ?_
      · refine aw_iconst hC dX9_may_81 (v := 0) (by decide) ?_
        exact aw_zret hC dX9_may_82 rfl (show _ = b2i false from rfl) rfl
      · refine aw_iconst hC dX9_may_77 (v := 1) (by decide) ?_
        refine aw_goto hC dX9_may_78 (tgt := 82) (by decide) ?_
        exact aw_zret hC dX9_may_82 rfl (show _ = b2i true from rfl) rfl
  refine aw_tabIn hC dX9_may_24 1 (by decide) (by decide) (off := 59) rfl (tgt := 83) (by decide) ?_ (fun n11 => ?_)
  · refine aw_aload_n hC dX9_may_83 rfl ?_
    refine aw_iload_n hC dX9_may_84 rfl ?_
    refine aw_bind rfl (fun q7 hq7 => ?_)
    refine aw_cVb hC dX9_may_85 cv_RX9_460 rfl rm_7_0_0 (am_some (inj := (fun r => (.inr (some (.int (b2i r))), h))) hq7 (A_X9_mayCome _ (hC.2.2.2.2.2.2.2.2.2.2.2.2.1) _ _ _ (gI h (7, 0, 26) p1.toNatClampNeg) h)) rfl rfl rfl rfl rfl ⟨rfl, rfl⟩ ?_
    refine aw_if_eq_b hC dX9_may_88 (tgt := 112) (by decide) ?_ ?_
    · refine aw_iconst hC dX9_may_112 (v := 0) (by decide) ?_
      exact aw_zret hC dX9_may_113 rfl (show _ = b2i false from rfl) rfl
    · refine aw_aload_n hC dX9_may_91 rfl ?_
      refine aw_aload_n hC dX9_may_92 rfl ?_
      refine aw_aload_n hC dX9_may_93 rfl ?_
      refine aw_gfR hC dX9_may_94 fg_RX9_103 rfl rfl rm_7_0_0 ?_
      refine aw_iload_n hC dX9_may_97 rfl ?_
      refine aw_guard rfl (fun g8 => ?_)
      refine aw_lald hC dX9_may_98 rm_7_0_29 rfl rfl g8 rfl ?_
      refine aw_bind rfl (fun q9 hq9 => ?_)
      refine aw_cVi hC dX9_may_99 cv_RX9_466 rfl rm_7_0_0 (am_some (inj := (fun r => (.inr (some (.int r)), h))) hq9 (A_X9_whyNoCar _ (hC.2.2.2.2.2.2.2.2.2.2.2.2.1) _ _ _ (gJ h (7, 0, 29) p1.toNatClampNeg) h)) rfl rfl rfl rfl rfl ⟨rfl, rfl⟩ ?_
      refine aw_bind rfl (fun q10 hq10 => ?_)
      refine aw_cVb hC dX9_may_102 cv_RX9_433 rfl rm_7_0_0 (am_some (inj := (fun r => (.inr (some (.int (b2i r.1))), r.2))) hq10 (A_X9_refused _ (hC.2.2.2.2.2.2.2.2.2.2.2.2.1) _ _ _ q9 h)) rfl rfl rfl rfl rfl ⟨rfl, rfl⟩ ?_
      refine aw_if_ne_b hC dX9_may_105 (tgt := 112) (by decide) ?_ ?_
      · refine aw_iconst hC dX9_may_112 (v := 0) (by decide) ?_
        exact aw_zret hC dX9_may_113 rfl (show _ = b2i false from rfl) rfl
      · refine aw_iconst hC dX9_may_108 (v := 1) (by decide) ?_
        refine aw_goto hC dX9_may_109 (tgt := 113) (by decide) ?_
        exact aw_zret hC dX9_may_113 rfl (show _ = b2i true from rfl) rfl
  refine aw_tabIn hC dX9_may_24 2 (by decide) (by decide) (off := 90) rfl (tgt := 114) (by decide) ?_ (fun n14 => ?_)
  · refine aw_iload_n hC dX9_may_114 rfl ?_
    refine aw_iconst hC dX9_may_115 (v := -1) (by decide) ?_
    refine aw_icmp_eq hC dX9_may_116 (tgt := 135) (by decide) ?_ ?_
    · refine aw_iconst hC dX9_may_135 (v := 0) (by decide) ?_
      exact aw_zret hC dX9_may_136 rfl (show _ = b2i false from rfl) rfl
    · refine aw_aload_n hC dX9_may_119 rfl ?_
      refine aw_aload_n hC dX9_may_120 rfl ?_
      refine aw_iload_n hC dX9_may_121 rfl ?_
      refine aw_bind rfl (fun q12 hq12 => ?_)
      refine aw_cVi hC dX9_may_122 cv_RX9_430 rfl rm_7_0_0 (am_some (inj := (fun r => (.inr (some (.int r)), h))) hq12 (A_X9_whyNoSwap _ (hC.2.2.2.2.2.2.2.2.2.2.2.2.1) _ _ _ q2 h)) rfl rfl rfl rfl rfl ⟨rfl, rfl⟩ ?_
      refine aw_bind rfl (fun q13 hq13 => ?_)
      refine aw_cVb hC dX9_may_125 cv_RX9_433 rfl rm_7_0_0 (am_some (inj := (fun r => (.inr (some (.int (b2i r.1))), r.2))) hq13 (A_X9_refused _ (hC.2.2.2.2.2.2.2.2.2.2.2.2.1) _ _ _ q12 h)) rfl rfl rfl rfl rfl ⟨rfl, rfl⟩ ?_
      refine aw_if_ne_b hC dX9_may_128 (tgt := 135) (by decide) ?_ ?_
      · refine aw_iconst hC dX9_may_135 (v := 0) (by decide) ?_
        exact aw_zret hC dX9_may_136 rfl (show _ = b2i false from rfl) rfl
      · refine aw_iconst hC dX9_may_131 (v := 1) (by decide) ?_
        refine aw_goto hC dX9_may_132 (tgt := 136) (by decide) ?_
        exact aw_zret hC dX9_may_136 rfl (show _ = b2i true from rfl) rfl
  refine aw_tabIn hC dX9_may_24 3 (by decide) (by decide) (off := 113) rfl (tgt := 137) (by decide) ?_ (fun n17 => ?_)
  · refine aw_iload_n hC dX9_may_137 rfl ?_
    refine aw_iconst hC dX9_may_138 (v := -1) (by decide) ?_
    refine aw_icmp_eq hC dX9_may_139 (tgt := 158) (by decide) ?_ ?_
    · refine aw_iconst hC dX9_may_158 (v := 0) (by decide) ?_
      exact aw_zret hC dX9_may_159 rfl (show _ = b2i false from rfl) rfl
    · refine aw_aload_n hC dX9_may_142 rfl ?_
      refine aw_aload_n hC dX9_may_143 rfl ?_
      refine aw_iload_n hC dX9_may_144 rfl ?_
      refine aw_bind rfl (fun q15 hq15 => ?_)
      refine aw_cVi hC dX9_may_145 cv_RX9_472 rfl rm_7_0_0 (am_some (inj := (fun r => (.inr (some (.int r)), h))) hq15 (A_X9_whyNoGo _ (hC.2.2.2.2.2.2.2.2.2.2.2.2.1) _ _ _ q2 h)) rfl rfl rfl rfl rfl ⟨rfl, rfl⟩ ?_
      refine aw_bind rfl (fun q16 hq16 => ?_)
      refine aw_cVb hC dX9_may_148 cv_RX9_433 rfl rm_7_0_0 (am_some (inj := (fun r => (.inr (some (.int (b2i r.1))), r.2))) hq16 (A_X9_refused _ (hC.2.2.2.2.2.2.2.2.2.2.2.2.1) _ _ _ q15 h)) rfl rfl rfl rfl rfl ⟨rfl, rfl⟩ ?_
      refine aw_if_ne_b hC dX9_may_151 (tgt := 158) (by decide) ?_ ?_
      · refine aw_iconst hC dX9_may_158 (v := 0) (by decide) ?_
        exact aw_zret hC dX9_may_159 rfl (show _ = b2i false from rfl) rfl
      · refine aw_iconst hC dX9_may_154 (v := 1) (by decide) ?_
        refine aw_goto hC dX9_may_155 (tgt := 159) (by decide) ?_
        exact aw_zret hC dX9_may_159 rfl (show _ = b2i true from rfl) rfl
  refine aw_tabIn hC dX9_may_24 4 (by decide) (by decide) (off := 136) rfl (tgt := 160) (by decide) ?_ (fun n18 => ?_)
  · refine aw_iload_n hC dX9_may_160 rfl ?_
    refine aw_cSb hC dX9_may_161 cv_RX9_441 (A_X9_isTurn _ (hC.2.2.2.2.2.2.2.2.2.2.2.2.1) _ _ _ (gI h (7, 0, 26) p1.toNatClampNeg) h) rfl rfl rfl rfl rfl ⟨rfl, rfl⟩ ?_
    exact aw_zret hC dX9_may_164 rfl (show _ = b2i (jX9_isTurn (gI h (7, 0, 26) p1.toNatClampNeg) h) from rfl) rfl
  refine aw_tabIn hC dX9_may_24 5 (by decide) (by decide) (off := 141) rfl (tgt := 165) (by decide) ?_ (fun n19 => ?_)
  · refine aw_iload_n hC dX9_may_165 rfl ?_
    refine aw_cSb hC dX9_may_166 cv_RX9_415 (A_X9_isBack _ (hC.2.2.2.2.2.2.2.2.2.2.2.2.1) _ _ _ (gI h (7, 0, 26) p1.toNatClampNeg) h) rfl rfl rfl rfl rfl ⟨rfl, rfl⟩ ?_
    exact aw_zret hC dX9_may_169 rfl (show _ = b2i (jX9_isBack (gI h (7, 0, 26) p1.toNatClampNeg) h) from rfl) rfl
  refine aw_tabOut hC dX9_may_24 ((tab_out 6 rfl (lt_s (lt_s (lt_s (lt_s (lt_s (lt_s lt_0 n6) n11) n14) n17) n18) n19)).imp id (fun z => by omega)) (tgt := 170) (by decide) ?_
  refine aw_iconst hC dX9_may_170 (v := 1) (by decide) ?_
  exact aw_zret hC dX9_may_171 rfl (show _ = b2i true from rfl) rfl
set_option maxHeartbeats 4000000 in
set_option maxRecDepth 100000 in
theorem A_X9_does (l : Launch) (hl0 : l.stackTraces = false) (D : va_G) (loc : Rf → Nat) (cy : Nat → ClassId) (p1 : Int32) (h : HD) : AM l D loc cy yX9_does cX9_does 4 (some .int) 7 169 [.ref (loc (7, 0, 0)), .int p1] h ((jX9_does p1 h).map (fun r => (.inr (some (.int r.1)), r.2))) := by
  refine am_start (y := yX9_does) (av := [.ref (loc (7, 0, 0)), .int p1]) (nL := 4) (h := h) (RF := fun (r : Option (Int32 × HD)) => r.map (fun r => (.inr (some (.int r.1)), r.2))) (x := jX9_does p1 h) hl0 (by decide +kernel) rfl ?_
  intro p e R s m below meth c A hC
  unfold jX9_does
  refine aw_aload_n hC dX9_does_0 rfl ?_
  refine aw_aload_n hC dX9_does_1 rfl ?_
  refine aw_gfR hC dX9_does_2 fg_RX9_103 rfl rfl rm_7_0_0 ?_
  refine aw_iload_n hC dX9_does_5 rfl ?_
  refine aw_guard rfl (fun g1 => ?_)
  refine aw_lald hC dX9_does_6 rm_7_0_29 rfl rfl g1 rfl ?_
  refine aw_bind rfl (fun q2 hq2 => ?_)
  refine aw_cVi hC dX9_does_7 cv_RX9_260 rfl rm_7_0_0 (am_some (inj := (fun r => (.inr (some (.int r)), h))) hq2 (A_X9_carNamed _ (hC.2.2.2.2.2.2.2.2.2.2.2.2.1) _ _ _ (gJ h (7, 0, 29) p1.toNatClampNeg) h)) rfl rfl rfl rfl rfl ⟨rfl, rfl⟩ ?_
  refine aw_istore_n hC dX9_does_10 (by decide) ?_
  refine aw_aload_n hC dX9_does_11 rfl ?_
  refine aw_gfR hC dX9_does_12 fg_RX9_94 rfl rfl rm_7_0_0 ?_
  refine aw_iload_n hC dX9_does_15 rfl ?_
  refine aw_guard rfl (fun g3 => ?_)
  refine aw_iald hC dX9_does_16 rm_7_0_26 rfl rfl g3 rfl ?_
  refine aw_istore_n hC dX9_does_17 (by decide) ?_
  refine aw_aload_n hC dX9_does_18 rfl ?_
  refine aw_gfR hC dX9_does_19 fg_RX9_91 rfl rfl rm_7_0_0 ?_
  refine aw_iload_n hC dX9_does_22 rfl ?_
  refine aw_guard rfl (fun g4 => ?_)
  refine aw_iald hC dX9_does_23 rm_7_0_25 rfl rfl g4 rfl ?_
  refine aw_tabIn hC dX9_does_24 0 (by decide) (by decide) (off := 44) rfl (tgt := 68) (by decide) ?_ (fun n6 => ?_)
  · refine aw_aload_n hC dX9_does_68 rfl ?_
    refine aw_iload_n hC dX9_does_69 rfl ?_
    refine aw_iload_n hC dX9_does_70 rfl ?_
    refine aw_bind rfl (fun q5 hq5 => ?_)
    refine aw_cVi hC dX9_does_71 cv_RX9_424 rfl rm_7_0_0 (am_some (inj := (fun r => (.inr (some (.int r.1)), r.2))) hq5 (A_X9_wishes _ (hC.2.2.2.2.2.2.2.2.2.2.2.2.1) _ _ _ q2 (gI h (7, 0, 26) p1.toNatClampNeg) h)) rfl rfl rfl rfl rfl ⟨rfl, rfl⟩ ?_
    exact aw_iret hC dX9_does_74 rfl rfl
  refine aw_tabIn hC dX9_does_24 1 (by decide) (by decide) (off := 51) rfl (tgt := 75) (by decide) ?_ (fun n9 => ?_)
  · refine aw_aload_n hC dX9_does_75 rfl ?_
    refine aw_aload_n hC dX9_does_76 rfl ?_
    refine aw_gfR hC dX9_does_77 fg_RX9_103 rfl rfl rm_7_0_0 ?_
    refine aw_iload_n hC dX9_does_80 rfl ?_
    refine aw_guard rfl (fun g7 => ?_)
    refine aw_lald hC dX9_does_81 rm_7_0_29 rfl rfl g7 rfl ?_
    refine aw_iload_n hC dX9_does_82 rfl ?_
    refine aw_bind rfl (fun q8 hq8 => ?_)
    refine aw_cVi hC dX9_does_83 cv_RX9_469 rfl rm_7_0_0 (am_some (inj := (fun r => (.inr (some (.int r.1)), r.2))) hq8 (A_X9_comes _ (hC.2.2.2.2.2.2.2.2.2.2.2.2.1) _ _ _ (gJ h (7, 0, 29) p1.toNatClampNeg) (gI h (7, 0, 26) p1.toNatClampNeg) h)) rfl rfl rfl rfl rfl ⟨rfl, rfl⟩ ?_
    exact aw_iret hC dX9_does_86 rfl rfl
  refine aw_tabIn hC dX9_does_24 2 (by decide) (by decide) (off := 63) rfl (tgt := 87) (by decide) ?_ (fun n11 => ?_)
  · refine aw_aload_n hC dX9_does_87 rfl ?_
    refine aw_iload_n hC dX9_does_88 rfl ?_
    refine aw_bind rfl (fun q10 hq10 => ?_)
    refine aw_cVi hC dX9_does_89 cv_RX9_436 rfl rm_7_0_0 (am_some (inj := (fun r => (.inr (some (.int r.1)), r.2))) hq10 (A_X9_swaps _ (hC.2.2.2.2.2.2.2.2.2.2.2.2.1) _ _ _ q2 h)) rfl rfl rfl rfl rfl ⟨rfl, rfl⟩ ?_
    exact aw_iret hC dX9_does_92 rfl rfl
  refine aw_tabIn hC dX9_does_24 3 (by decide) (by decide) (off := 69) rfl (tgt := 93) (by decide) ?_ (fun n13 => ?_)
  · refine aw_aload_n hC dX9_does_93 rfl ?_
    refine aw_iload_n hC dX9_does_94 rfl ?_
    refine aw_bind rfl (fun q12 hq12 => ?_)
    refine aw_cVi hC dX9_does_95 cv_RX9_475 rfl rm_7_0_0 (am_some (inj := (fun r => (.inr (some (.int r.1)), r.2))) hq12 (A_X9_leaves0 _ (hC.2.2.2.2.2.2.2.2.2.2.2.2.1) _ _ _ q2 h)) rfl rfl rfl rfl rfl ⟨rfl, rfl⟩ ?_
    exact aw_iret hC dX9_does_98 rfl rfl
  refine aw_tabIn hC dX9_does_24 4 (by decide) (by decide) (off := 75) rfl (tgt := 99) (by decide) ?_ (fun n15 => ?_)
  · refine aw_aload_n hC dX9_does_99 rfl ?_
    refine aw_iload_n hC dX9_does_100 rfl ?_
    refine aw_bind rfl (fun q14 hq14 => ?_)
    refine aw_cVi hC dX9_does_101 cv_RX9_444 rfl rm_7_0_0 (am_some (inj := (fun r => (.inr (some (.int r.1)), r.2))) hq14 (A_X9_turns _ (hC.2.2.2.2.2.2.2.2.2.2.2.2.1) _ _ _ (gI h (7, 0, 26) p1.toNatClampNeg) h)) rfl rfl rfl rfl rfl ⟨rfl, rfl⟩ ?_
    exact aw_iret hC dX9_does_104 rfl rfl
  refine aw_tabIn hC dX9_does_24 5 (by decide) (by decide) (off := 81) rfl (tgt := 105) (by decide) ?_ (fun n17 => ?_)
  · refine aw_aload_n hC dX9_does_105 rfl ?_
    refine aw_iload_n hC dX9_does_106 rfl ?_
    refine aw_bind rfl (fun q16 hq16 => ?_)
    refine aw_cVi hC dX9_does_107 cv_RX9_447 rfl rm_7_0_0 (am_some (inj := (fun r => (.inr (some (.int r.1)), r.2))) hq16 (A_X9_looksBack _ (hC.2.2.2.2.2.2.2.2.2.2.2.2.1) _ _ _ (gI h (7, 0, 26) p1.toNatClampNeg) h)) rfl rfl rfl rfl rfl ⟨rfl, rfl⟩ ?_
    exact aw_iret hC dX9_does_110 rfl rfl
  refine aw_tabIn hC dX9_does_24 6 (by decide) (by decide) (off := 87) rfl (tgt := 111) (by decide) ?_ (fun n19 => ?_)
  · refine aw_aload_n hC dX9_does_111 rfl ?_
    refine aw_bind rfl (fun q18 hq18 => ?_)
    refine aw_cVi hC dX9_does_112 cv_RX9_478 rfl rm_7_0_0 (am_some (inj := (fun r => (.inr (some (.int r.1)), r.2))) hq18 (A_X9_sorts _ (hC.2.2.2.2.2.2.2.2.2.2.2.2.1) _ _ _ h)) rfl rfl rfl rfl rfl ⟨rfl, rfl⟩ ?_
    exact aw_iret hC dX9_does_115 rfl rfl
  refine aw_tabOut hC dX9_does_24 ((tab_out 7 rfl (lt_s (lt_s (lt_s (lt_s (lt_s (lt_s (lt_s lt_0 n6) n9) n11) n13) n15) n17) n19)).imp id (fun z => by omega)) (tgt := 116) (by decide) ?_
  refine aw_aload_n hC dX9_does_116 rfl ?_
  refine aw_bind rfl (fun q20 hq20 => ?_)
  refine aw_cVi hC dX9_does_117 cv_RX9_481 rfl rm_7_0_0 (am_some (inj := (fun r => (.inr (some (.int r.1)), r.2))) hq20 (A_X9_reverses _ (hC.2.2.2.2.2.2.2.2.2.2.2.2.1) _ _ _ h)) rfl rfl rfl rfl rfl ⟨rfl, rfl⟩ ?_
  exact aw_iret hC dX9_does_120 rfl rfl
set_option maxHeartbeats 4000000 in
set_option maxRecDepth 100000 in
theorem L_X9_doesAll_12  (hC : Cx p l e R s m args meth c D loc cy A cX9_doesAll 7 (some .int) RX9 8 192 0 0)  : ∀ (n12 : Nat) (x1 : Int32) (x2 : Int32) (x3 : Int32) (x4 : Int32) (x5 : Int32) (h : HD), AW p l e R s m args below meth c D loc cy A 7 (QM below D loc cy A args s) (fun (r : Option (Int32 × HD)) => r.map (fun r => (.inr (some (.int r.1)), r.2))) (0, 0) 12 [(0, .ref (loc (7, 0, 0))), (1, .int x1), (2, .int x2), (3, .int x3), (4, .int x4), (5, .int x5)] [] h (jX9_doesAll_L12 n12 x1 x2 x3 x4 x5 h) := by
  intro n12
  induction n12 with
  | zero => intro x1 x2 x3 x4 x5 h; exact aw_none rfl
  | succ n12 ih12 =>
    intro x1 x2 x3 x4 x5 h
    rw [jX9_doesAll_L12]
    refine aw_iload hC dX9_doesAll_12 rfl ?_
    refine aw_if_eq hC dX9_doesAll_14 (tgt := 188) (by decide) ?_ ?_
    · refine aw_iload_n hC dX9_doesAll_188 rfl ?_
      exact aw_iret hC dX9_doesAll_189 rfl rfl
    · refine aw_iload_n hC dX9_doesAll_17 rfl ?_
      refine aw_aload_n hC dX9_doesAll_18 rfl ?_
      refine aw_gfI hC dX9_doesAll_19 fg_RX9_511 rfl rm_7_0_0 ?_
      refine aw_icmp_ge hC dX9_doesAll_22 (tgt := 188) (by decide) ?_ ?_
      · refine aw_iload_n hC dX9_doesAll_188 rfl ?_
        exact aw_iret hC dX9_doesAll_189 rfl rfl
      · refine aw_iload_n hC dX9_doesAll_25 rfl ?_
        refine aw_bipush hC dX9_doesAll_26 (v := 40) (by decide) ?_
        refine aw_icmp_ge hC dX9_doesAll_28 (tgt := 188) (by decide) ?_ ?_
        · refine aw_iload_n hC dX9_doesAll_188 rfl ?_
          exact aw_iret hC dX9_doesAll_189 rfl rfl
        · refine aw_aload_n hC dX9_doesAll_31 rfl ?_
          refine aw_gfR hC dX9_doesAll_32 fg_RX9_91 rfl rfl rm_7_0_0 ?_
          refine aw_iload_n hC dX9_doesAll_35 rfl ?_
          refine aw_guard rfl (fun g1 => ?_)
          refine aw_iald hC dX9_doesAll_36 rm_7_0_25 rfl rfl g1 rfl ?_
          refine aw_bipush hC dX9_doesAll_37 (v := 8) (by decide) ?_
          refine aw_icmp_ne hC dX9_doesAll_39 (tgt := 70) (by decide) ?_ ?_
          · refine aw_aload_n hC dX9_doesAll_70 rfl ?_
            refine aw_gfR hC dX9_doesAll_71 fg_RX9_91 rfl rfl rm_7_0_0 ?_
            refine aw_iload_n hC dX9_doesAll_74 rfl ?_
            refine aw_guard rfl (fun g2 => ?_)
            refine aw_iald hC dX9_doesAll_75 rm_7_0_25 rfl rfl g2 rfl ?_
            refine aw_bipush hC dX9_doesAll_76 (v := 9) (by decide) ?_
            refine aw_icmp_ne hC dX9_doesAll_78 (tgt := 152) (by decide) ?_ ?_
            · refine aw_aload_n hC dX9_doesAll_152 rfl ?_
              refine aw_iload_n hC dX9_doesAll_153 rfl ?_
              refine aw_bind rfl (fun q3 hq3 => ?_)
              refine aw_cVb hC dX9_doesAll_154 cv_RX9_526 rfl rm_7_0_0 (am_some (inj := (fun r => (.inr (some (.int (b2i r.1))), r.2))) hq3 (A_X9_may _ (hC.2.2.2.2.2.2.2.2.2.2.2.2.1) _ _ _ x3 h)) rfl rfl rfl rfl rfl ⟨rfl, rfl⟩ ?_
              refine aw_istore hC dX9_doesAll_157 (by decide) ?_
              refine aw_iload hC dX9_doesAll_159 rfl ?_
              refine aw_if_eq_b hC dX9_doesAll_161 (tgt := 174) (by decide) ?_ ?_
              · refine aw_iload_n hC dX9_doesAll_174 rfl ?_
                refine aw_iload hC dX9_doesAll_175 rfl ?_
                refine aw_cSi hC dX9_doesAll_177 cv_RX9_115 (A_X9_truth _ (hC.2.2.2.2.2.2.2.2.2.2.2.2.1) _ _ _ q3.1 q3.2) rfl rfl rfl rfl rfl ⟨rfl, rfl⟩ ?_
                refine aw_iadd hC dX9_doesAll_180 ?_
                refine aw_istore_n hC dX9_doesAll_181 (by decide) ?_
                refine aw_iinc hC dX9_doesAll_182 rfl (v := x3 + 1) (by first | rfl | decide) (by decide) ?_
                refine aw_goto hC dX9_doesAll_185 (tgt := 12) (by decide) ?_
                refine aw_sub [0, 1, 2, 3, 4, 5] ?_
                exact ih12 (x1 + (jX9_truth q3.1 q3.2)) x2 (x3 + 1) (b2i q3.1) x5 q3.2
              · refine aw_iload hC dX9_doesAll_164 rfl ?_
                refine aw_aload_n hC dX9_doesAll_166 rfl ?_
                refine aw_iload_n hC dX9_doesAll_167 rfl ?_
                refine aw_bind rfl (fun q4 hq4 => ?_)
                refine aw_cVi hC dX9_doesAll_168 cv_RX9_529 rfl rm_7_0_0 (am_some (inj := (fun r => (.inr (some (.int r.1)), r.2))) hq4 (A_X9_does _ (hC.2.2.2.2.2.2.2.2.2.2.2.2.1) _ _ _ x3 q3.2)) rfl rfl rfl rfl rfl ⟨rfl, rfl⟩ ?_
                refine aw_iadd hC dX9_doesAll_171 ?_
                refine aw_istore hC dX9_doesAll_172 (by decide) ?_
                refine aw_iload_n hC dX9_doesAll_174 rfl ?_
                refine aw_iload hC dX9_doesAll_175 rfl ?_
                refine aw_cSi hC dX9_doesAll_177 cv_RX9_115 (A_X9_truth _ (hC.2.2.2.2.2.2.2.2.2.2.2.2.1) _ _ _ q3.1 q4.2) rfl rfl rfl rfl rfl ⟨rfl, rfl⟩ ?_
                refine aw_iadd hC dX9_doesAll_180 ?_
                refine aw_istore_n hC dX9_doesAll_181 (by decide) ?_
                refine aw_iinc hC dX9_doesAll_182 rfl (v := x3 + 1) (by first | rfl | decide) (by decide) ?_
                refine aw_goto hC dX9_doesAll_185 (tgt := 12) (by decide) ?_
                refine aw_sub [0, 1, 2, 3, 4, 5] ?_
                exact ih12 (x1 + (jX9_truth q3.1 q4.2)) x2 (x3 + 1) (b2i q3.1) (x5 + q4.1) q4.2
            · refine aw_aload_n hC dX9_doesAll_81 rfl ?_
              refine aw_gfR hC dX9_doesAll_82 fg_RX9_100 rfl rfl rm_7_0_0 ?_
              refine aw_iload_n hC dX9_doesAll_85 rfl ?_
              refine aw_iconst hC dX9_doesAll_86 (v := 1) (by decide) ?_
              refine aw_isub hC dX9_doesAll_87 ?_
              refine aw_dup2 hC dX9_doesAll_88 rfl rfl ?_
              refine aw_guard rfl (fun g5 => ?_)
              refine aw_iald hC dX9_doesAll_89 rm_7_0_28 rfl rfl g5 rfl ?_
              refine aw_iconst hC dX9_doesAll_90 (v := 1) (by decide) ?_
              refine aw_isub hC dX9_doesAll_91 ?_
              refine aw_guard rfl (fun g7 => ?_)
              refine aw_iast hC dX9_doesAll_92 rm_7_0_28 rfl rfl g7 rfl (fun h6 => ?_)
              refine aw_aload_n hC dX9_doesAll_93 rfl ?_
              refine aw_gfR hC dX9_doesAll_94 fg_RX9_100 rfl rfl rm_7_0_0 ?_
              refine aw_iload_n hC dX9_doesAll_97 rfl ?_
              refine aw_iconst hC dX9_doesAll_98 (v := 1) (by decide) ?_
              refine aw_isub hC dX9_doesAll_99 ?_
              refine aw_guard rfl (fun g8 => ?_)
              refine aw_iald hC dX9_doesAll_100 rm_7_0_28 rfl rfl g8 rfl ?_
              refine aw_if_le hC dX9_doesAll_101 (tgt := 108) (by decide) ?_ ?_
              · refine aw_iconst hC dX9_doesAll_108 (v := 0) (by decide) ?_
                refine aw_istore hC dX9_doesAll_109 (by decide) ?_
                refine aw_iload hC dX9_doesAll_111 rfl ?_
                refine aw_if_eq_t hC dX9_doesAll_113 (tgt := 129) (by decide) (by decide) ?_
                refine aw_iload_n hC dX9_doesAll_129 rfl ?_
                refine aw_iconst hC dX9_doesAll_130 (v := 1) (by decide) ?_
                refine aw_iadd hC dX9_doesAll_131 ?_
                refine aw_istore_n hC dX9_doesAll_132 (by decide) ?_
                refine aw_iload_n hC dX9_doesAll_133 rfl ?_
                refine aw_iload hC dX9_doesAll_134 rfl ?_
                refine aw_if_ne_f hC dX9_doesAll_136 (tgt := 143) (by decide) (by decide) ?_
                refine aw_iconst hC dX9_doesAll_139 (v := 1) (by decide) ?_
                refine aw_goto hC dX9_doesAll_140 (tgt := 144) (by decide) ?_
                refine aw_cSi hC dX9_doesAll_144 cv_RX9_115 (A_X9_truth _ (hC.2.2.2.2.2.2.2.2.2.2.2.2.1) _ _ _ true h6) rfl rfl rfl rfl rfl ⟨rfl, rfl⟩ ?_
                refine aw_isub hC dX9_doesAll_147 ?_
                refine aw_istore_n hC dX9_doesAll_148 (by decide) ?_
                refine aw_goto hC dX9_doesAll_149 (tgt := 12) (by decide) ?_
                refine aw_sub [0, 1, 2, 3, 4, 5] ?_
                exact ih12 x1 (x2 - (jX9_truth true h6)) (x3 + (1 : Int32)) x4 x5 h6
              · refine aw_iconst hC dX9_doesAll_104 (v := 1) (by decide) ?_
                refine aw_goto hC dX9_doesAll_105 (tgt := 109) (by decide) ?_
                refine aw_istore hC dX9_doesAll_109 (by decide) ?_
                refine aw_iload hC dX9_doesAll_111 rfl ?_
                refine aw_if_eq_f hC dX9_doesAll_113 (tgt := 129) (by decide) (by decide) ?_
                refine aw_aload_n hC dX9_doesAll_116 rfl ?_
                refine aw_gfR hC dX9_doesAll_117 fg_RX9_97 rfl rfl rm_7_0_0 ?_
                refine aw_iload_n hC dX9_doesAll_120 rfl ?_
                refine aw_iconst hC dX9_doesAll_121 (v := 1) (by decide) ?_
                refine aw_isub hC dX9_doesAll_122 ?_
                refine aw_guard rfl (fun g9 => ?_)
                refine aw_iald hC dX9_doesAll_123 rm_7_0_27 rfl rfl g9 rfl ?_
                refine aw_iconst hC dX9_doesAll_124 (v := 1) (by decide) ?_
                refine aw_iadd hC dX9_doesAll_125 ?_
                refine aw_goto hC dX9_doesAll_126 (tgt := 132) (by decide) ?_
                refine aw_istore_n hC dX9_doesAll_132 (by decide) ?_
                refine aw_iload_n hC dX9_doesAll_133 rfl ?_
                refine aw_iload hC dX9_doesAll_134 rfl ?_
                refine aw_if_ne_t hC dX9_doesAll_136 (tgt := 143) (by decide) (by decide) ?_
                refine aw_iconst hC dX9_doesAll_143 (v := 0) (by decide) ?_
                refine aw_cSi hC dX9_doesAll_144 cv_RX9_115 (A_X9_truth _ (hC.2.2.2.2.2.2.2.2.2.2.2.2.1) _ _ _ false h6) rfl rfl rfl rfl rfl ⟨rfl, rfl⟩ ?_
                refine aw_isub hC dX9_doesAll_147 ?_
                refine aw_istore_n hC dX9_doesAll_148 (by decide) ?_
                refine aw_goto hC dX9_doesAll_149 (tgt := 12) (by decide) ?_
                refine aw_sub [0, 1, 2, 3, 4, 5] ?_
                exact ih12 x1 (x2 - (jX9_truth false h6)) ((gI h6 (7, 0, 27) (x2 - (1 : Int32)).toNatClampNeg) + (1 : Int32)) x4 x5 h6
          · refine aw_aload_n hC dX9_doesAll_42 rfl ?_
            refine aw_gfR hC dX9_doesAll_43 fg_RX9_97 rfl rfl rm_7_0_0 ?_
            refine aw_iload_n hC dX9_doesAll_46 rfl ?_
            refine aw_iload_n hC dX9_doesAll_47 rfl ?_
            refine aw_guard rfl (fun g11 => ?_)
            refine aw_iast hC dX9_doesAll_48 rm_7_0_27 rfl rfl g11 rfl (fun h10 => ?_)
            refine aw_aload_n hC dX9_doesAll_49 rfl ?_
            refine aw_gfR hC dX9_doesAll_50 fg_RX9_100 rfl rfl rm_7_0_0 ?_
            refine aw_iload_n hC dX9_doesAll_53 rfl ?_
            refine aw_aload_n hC dX9_doesAll_54 rfl ?_
            refine aw_gfR hC dX9_doesAll_55 fg_RX9_94 rfl rfl rm_7_0_0 ?_
            refine aw_iload_n hC dX9_doesAll_58 rfl ?_
            refine aw_guard rfl (fun g12 => ?_)
            refine aw_iald hC dX9_doesAll_59 rm_7_0_26 rfl rfl g12 rfl ?_
            refine aw_guard rfl (fun g14 => ?_)
            refine aw_iast hC dX9_doesAll_60 rm_7_0_28 rfl rfl g14 rfl (fun h13 => ?_)
            refine aw_iinc hC dX9_doesAll_61 rfl (v := x2 + 1) (by first | rfl | decide) (by decide) ?_
            refine aw_iinc hC dX9_doesAll_64 rfl (v := x3 + 1) (by first | rfl | decide) (by decide) ?_
            refine aw_goto hC dX9_doesAll_67 (tgt := 12) (by decide) ?_
            refine aw_sub [0, 1, 2, 3, 4, 5] ?_
            exact ih12 x1 (x2 + 1) (x3 + 1) x4 x5 h13
set_option maxHeartbeats 4000000 in
set_option maxRecDepth 100000 in
theorem A_X9_doesAll (l : Launch) (hl0 : l.stackTraces = false) (D : va_G) (loc : Rf → Nat) (cy : Nat → ClassId)  (h : HD) : AM l D loc cy yX9_doesAll cX9_doesAll 7 (some .int) 8 192 [.ref (loc (7, 0, 0))] h ((jX9_doesAll h).map (fun r => (.inr (some (.int r.1)), r.2))) := by
  refine am_start (y := yX9_doesAll) (av := [.ref (loc (7, 0, 0))]) (nL := 7) (h := h) (RF := fun (r : Option (Int32 × HD)) => r.map (fun r => (.inr (some (.int r.1)), r.2))) (x := jX9_doesAll h) hl0 (by decide +kernel) rfl ?_
  intro p e R s m below meth c A hC
  unfold jX9_doesAll
  refine aw_iconst hC dX9_doesAll_0 (v := 0) (by decide) ?_
  refine aw_istore_n hC dX9_doesAll_1 (by decide) ?_
  refine aw_iconst hC dX9_doesAll_2 (v := 0) (by decide) ?_
  refine aw_istore_n hC dX9_doesAll_3 (by decide) ?_
  refine aw_iconst hC dX9_doesAll_4 (v := 0) (by decide) ?_
  refine aw_istore_n hC dX9_doesAll_5 (by decide) ?_
  refine aw_iconst hC dX9_doesAll_6 (v := 1) (by decide) ?_
  refine aw_istore hC dX9_doesAll_7 (by decide) ?_
  refine aw_iconst hC dX9_doesAll_9 (v := 0) (by decide) ?_
  refine aw_istore hC dX9_doesAll_10 (by decide) ?_
  refine aw_sub [0, 1, 2, 3, 4, 5] ?_
  exact L_X9_doesAll_12   hC FU (0 : Int32) (0 : Int32) (0 : Int32) (1 : Int32) (0 : Int32) h
set_option maxHeartbeats 4000000 in
set_option maxRecDepth 100000 in
theorem L_X9_runScript_19 (k63 : HD → Option (Int32 × HD)) (hC : Cx p l e R s m args meth c D loc cy A cX9_runScript 2 (some .int) RX9 9 218 0 0) (hk63 : ∀  (h2 : HD), AW p l e R s m args below meth c D loc cy A 2 (QM below D loc cy A args s) (fun (r : Option (Int32 × HD)) => r.map (fun r => (.inr (some (.int r.1)), r.2))) (0, 0) 63 [(0, .ref (loc (7, 0, 0)))] [] h2 (k63  h2)) : ∀ (n19 : Nat)  (h : HD), AW p l e R s m args below meth c D loc cy A 2 (QM below D loc cy A args s) (fun (r : Option (Int32 × HD)) => r.map (fun r => (.inr (some (.int r.1)), r.2))) (0, 0) 19 [(0, .ref (loc (7, 0, 0)))] [] h (jX9_runScript_L19 k63 n19 h) := by
  intro n19
  induction n19 with
  | zero => intro h; exact aw_none rfl
  | succ n19 ih19 =>
    intro h
    rw [jX9_runScript_L19]
    refine aw_aload_n hC dX9_runScript_19 rfl ?_
    refine aw_cVb hC dX9_runScript_20 cv_RX9_167 rfl rm_7_0_0 (A_X9_isGood _ (hC.2.2.2.2.2.2.2.2.2.2.2.2.1) _ _ _ h) rfl rfl rfl rfl rfl ⟨rfl, rfl⟩ ?_
    refine aw_if_eq_b hC dX9_runScript_23 (tgt := 63) (by decide) ?_ ?_
    · refine aw_sub [0] ?_
      exact hk63 h
    · refine aw_aload_n hC dX9_runScript_26 rfl ?_
      refine aw_gfI hC dX9_runScript_27 fg_RX9_154 rfl rm_7_0_0 ?_
      refine aw_if_eq hC dX9_runScript_30 (tgt := 63) (by decide) ?_ ?_
      · refine aw_sub [0] ?_
        exact hk63 h
      · refine aw_aload_n hC dX9_runScript_33 rfl ?_
        refine aw_gfI hC dX9_runScript_34 fg_RX9_505 rfl rm_7_0_0 ?_
        refine aw_istore_n hC dX9_runScript_37 (by decide) ?_
        refine aw_aload_n hC dX9_runScript_38 rfl ?_
        refine aw_bind rfl (fun q5 hq5 => ?_)
        refine aw_cVv hC dX9_runScript_39 cv_RX9_517 rfl rm_7_0_0 (am_some (inj := (fun r => (.inr (none), r))) hq5 (A_X9_command _ (hC.2.2.2.2.2.2.2.2.2.2.2.2.1) _ _ _ h)) rfl rfl rfl rfl rfl ⟨rfl, rfl⟩ ?_
        refine aw_aload_n hC dX9_runScript_42 rfl ?_
        refine aw_gfI hC dX9_runScript_43 fg_RX9_505 rfl rm_7_0_0 ?_
        refine aw_iload_n hC dX9_runScript_46 rfl ?_
        refine aw_icmp_ne hC dX9_runScript_47 (tgt := 56) (by decide) ?_ ?_
        · refine aw_aload_n hC dX9_runScript_56 rfl ?_
          refine aw_bind rfl (fun q6 hq6 => ?_)
          refine aw_cVv hC dX9_runScript_57 cv_RX9_520 rfl rm_7_0_0 (am_some (inj := (fun r => (.inr (none), r))) hq6 (A_X9_closes _ (hC.2.2.2.2.2.2.2.2.2.2.2.2.1) _ _ _ q5)) rfl rfl rfl rfl rfl ⟨rfl, rfl⟩ ?_
          refine aw_goto hC dX9_runScript_60 (tgt := 19) (by decide) ?_
          refine aw_sub [0] ?_
          exact ih19 q6
        · refine aw_aload_n hC dX9_runScript_50 rfl ?_
          refine aw_bipush hC dX9_runScript_51 (v := 59) (by decide) ?_
          refine aw_bind rfl (fun q7 hq7 => ?_)
          refine aw_cVv hC dX9_runScript_53 cv_RX9_283 rfl rm_7_0_0 (am_some (inj := (fun r => (.inr (none), r))) hq7 (A_X9_mustSign _ (hC.2.2.2.2.2.2.2.2.2.2.2.2.1) _ _ _ (59 : Int32) q5)) rfl rfl rfl rfl rfl ⟨rfl, rfl⟩ ?_
          refine aw_aload_n hC dX9_runScript_56 rfl ?_
          refine aw_bind rfl (fun q8 hq8 => ?_)
          refine aw_cVv hC dX9_runScript_57 cv_RX9_520 rfl rm_7_0_0 (am_some (inj := (fun r => (.inr (none), r))) hq8 (A_X9_closes _ (hC.2.2.2.2.2.2.2.2.2.2.2.2.1) _ _ _ q7)) rfl rfl rfl rfl rfl ⟨rfl, rfl⟩ ?_
          refine aw_goto hC dX9_runScript_60 (tgt := 19) (by decide) ?_
          refine aw_sub [0] ?_
          exact ih19 q8
set_option maxHeartbeats 4000000 in
set_option maxRecDepth 100000 in
theorem A_X9_runScript (l : Launch) (hl0 : l.stackTraces = false) (D : va_G) (loc : Rf → Nat) (cy : Nat → ClassId)  (h : HD) : AM l D loc cy yX9_runScript cX9_runScript 2 (some .int) 9 218 [.ref (loc (7, 0, 0))] h ((jX9_runScript h).map (fun r => (.inr (some (.int r.1)), r.2))) := by
  refine am_start (y := yX9_runScript) (av := [.ref (loc (7, 0, 0))]) (nL := 2) (h := h) (RF := fun (r : Option (Int32 × HD)) => r.map (fun r => (.inr (some (.int r.1)), r.2))) (x := jX9_runScript h) hl0 (by decide +kernel) rfl ?_
  intro p e R s m below meth c A hC
  unfold jX9_runScript
  refine aw_aload_n hC dX9_runScript_0 rfl ?_
  refine aw_bind rfl (fun q1 hq1 => ?_)
  refine aw_cVv hC dX9_runScript_1 cv_RX9_274 rfl rm_7_0_0 (am_some (inj := (fun r => (.inr (none), r))) hq1 (A_X9_beginsText _ (hC.2.2.2.2.2.2.2.2.2.2.2.2.1) _ _ _ h)) rfl rfl rfl rfl rfl ⟨rfl, rfl⟩ ?_
  refine aw_aload_n hC dX9_runScript_4 rfl ?_
  refine aw_iconst hC dX9_runScript_5 (v := 0) (by decide) ?_
  refine aw_pfI hC dX9_runScript_6 fg_RX9_511 fp_7_45 rfl rm_7_0_0 (fun h2 => ?_)
  refine aw_aload_n hC dX9_runScript_9 rfl ?_
  refine aw_iconst hC dX9_runScript_10 (v := 0) (by decide) ?_
  refine aw_pfI hC dX9_runScript_11 fg_RX9_508 fp_7_46 rfl rm_7_0_0 (fun h3 => ?_)
  refine aw_aload_n hC dX9_runScript_14 rfl ?_
  refine aw_iconst hC dX9_runScript_15 (v := 0) (by decide) ?_
  refine aw_pfI hC dX9_runScript_16 fg_RX9_505 fp_7_47 rfl rm_7_0_0 (fun h4 => ?_)
  refine aw_sub [0] ?_
  refine L_X9_runScript_19  _ hC ?_ FU h4
  · intro h9
    refine aw_aload_n hC dX9_runScript_63 rfl ?_
    refine aw_cVb hC dX9_runScript_64 cv_RX9_167 rfl rm_7_0_0 (A_X9_isGood _ (hC.2.2.2.2.2.2.2.2.2.2.2.2.1) _ _ _ h9) rfl rfl rfl rfl rfl ⟨rfl, rfl⟩ ?_
    refine aw_if_eq_b hC dX9_runScript_67 (tgt := 82) (by decide) ?_ ?_
    · refine aw_aload_n hC dX9_runScript_82 rfl ?_
      refine aw_bind rfl (fun q10 hq10 => ?_)
      refine aw_cVb hC dX9_runScript_83 cv_RX9_291 rfl rm_7_0_0 (am_some (inj := (fun r => (.inr (some (.int (b2i r.1))), r.2))) hq10 (A_X9_endsText _ (hC.2.2.2.2.2.2.2.2.2.2.2.2.1) _ _ _ h9)) rfl rfl rfl rfl rfl ⟨rfl, rfl⟩ ?_
      refine aw_if_ne_b hC dX9_runScript_86 (tgt := 91) (by decide) ?_ ?_
      · refine aw_aload_n hC dX9_runScript_91 rfl ?_
        refine aw_bind rfl (fun q11 hq11 => ?_)
        refine aw_cVv hC dX9_runScript_92 cv_RX9_271 rfl rm_7_0_0 (am_some (inj := (fun r => (.inr (none), r))) hq11 (A_X9_laysAside _ (hC.2.2.2.2.2.2.2.2.2.2.2.2.1) _ _ _ q10.2)) rfl rfl rfl rfl rfl ⟨rfl, rfl⟩ ?_
        refine aw_aload_n hC dX9_runScript_95 rfl ?_
        refine aw_bind rfl (fun q12 hq12 => ?_)
        refine aw_cVi hC dX9_runScript_96 cv_RX9_523 rfl rm_7_0_0 (am_some (inj := (fun r => (.inr (some (.int r.1)), r.2))) hq12 (A_X9_doesAll _ (hC.2.2.2.2.2.2.2.2.2.2.2.2.1) _ _ _ q11)) rfl rfl rfl rfl rfl ⟨rfl, rfl⟩ ?_
        refine aw_istore_n hC dX9_runScript_99 (by decide) ?_
        refine aw_aload_n hC dX9_runScript_100 rfl ?_
        refine aw_bind rfl (fun q13 hq13 => ?_)
        refine aw_cVv hC dX9_runScript_101 cv_RX9_202 rfl rm_7_0_0 (am_some (inj := (fun r => (.inr (none), r))) hq13 (A_X9_keeps _ (hC.2.2.2.2.2.2.2.2.2.2.2.2.1) _ _ _ q12.2)) rfl rfl rfl rfl rfl ⟨rfl, rfl⟩ ?_
        refine aw_iload_n hC dX9_runScript_104 rfl ?_
        exact aw_iret hC dX9_runScript_105 rfl rfl
      · refine aw_iconst hC dX9_runScript_89 (v := 0) (by decide) ?_
        exact aw_iret hC dX9_runScript_90 rfl rfl
    · refine aw_aload_n hC dX9_runScript_70 rfl ?_
      refine aw_gfI hC dX9_runScript_71 fg_RX9_505 rfl rm_7_0_0 ?_
      refine aw_if_le hC dX9_runScript_74 (tgt := 82) (by decide) ?_ ?_
      · refine aw_aload_n hC dX9_runScript_82 rfl ?_
        refine aw_bind rfl (fun q14 hq14 => ?_)
        refine aw_cVb hC dX9_runScript_83 cv_RX9_291 rfl rm_7_0_0 (am_some (inj := (fun r => (.inr (some (.int (b2i r.1))), r.2))) hq14 (A_X9_endsText _ (hC.2.2.2.2.2.2.2.2.2.2.2.2.1) _ _ _ h9)) rfl rfl rfl rfl rfl ⟨rfl, rfl⟩ ?_
        refine aw_if_ne_b hC dX9_runScript_86 (tgt := 91) (by decide) ?_ ?_
        · refine aw_aload_n hC dX9_runScript_91 rfl ?_
          refine aw_bind rfl (fun q15 hq15 => ?_)
          refine aw_cVv hC dX9_runScript_92 cv_RX9_271 rfl rm_7_0_0 (am_some (inj := (fun r => (.inr (none), r))) hq15 (A_X9_laysAside _ (hC.2.2.2.2.2.2.2.2.2.2.2.2.1) _ _ _ q14.2)) rfl rfl rfl rfl rfl ⟨rfl, rfl⟩ ?_
          refine aw_aload_n hC dX9_runScript_95 rfl ?_
          refine aw_bind rfl (fun q16 hq16 => ?_)
          refine aw_cVi hC dX9_runScript_96 cv_RX9_523 rfl rm_7_0_0 (am_some (inj := (fun r => (.inr (some (.int r.1)), r.2))) hq16 (A_X9_doesAll _ (hC.2.2.2.2.2.2.2.2.2.2.2.2.1) _ _ _ q15)) rfl rfl rfl rfl rfl ⟨rfl, rfl⟩ ?_
          refine aw_istore_n hC dX9_runScript_99 (by decide) ?_
          refine aw_aload_n hC dX9_runScript_100 rfl ?_
          refine aw_bind rfl (fun q17 hq17 => ?_)
          refine aw_cVv hC dX9_runScript_101 cv_RX9_202 rfl rm_7_0_0 (am_some (inj := (fun r => (.inr (none), r))) hq17 (A_X9_keeps _ (hC.2.2.2.2.2.2.2.2.2.2.2.2.1) _ _ _ q16.2)) rfl rfl rfl rfl rfl ⟨rfl, rfl⟩ ?_
          refine aw_iload_n hC dX9_runScript_104 rfl ?_
          exact aw_iret hC dX9_runScript_105 rfl rfl
        · refine aw_iconst hC dX9_runScript_89 (v := 0) (by decide) ?_
          exact aw_iret hC dX9_runScript_90 rfl rfl
      · refine aw_aload_n hC dX9_runScript_77 rfl ?_
        refine aw_iconst hC dX9_runScript_78 (v := 1) (by decide) ?_
        refine aw_bind rfl (fun q18 hq18 => ?_)
        refine aw_cVv hC dX9_runScript_79 cv_RX9_174 rfl rm_7_0_0 (am_some (inj := (fun r => (.inr (none), r))) hq18 (A_X9_wrong _ (hC.2.2.2.2.2.2.2.2.2.2.2.2.1) _ _ _ (1 : Int32) h9)) rfl rfl rfl rfl rfl ⟨rfl, rfl⟩ ?_
        refine aw_aload_n hC dX9_runScript_82 rfl ?_
        refine aw_bind rfl (fun q19 hq19 => ?_)
        refine aw_cVb hC dX9_runScript_83 cv_RX9_291 rfl rm_7_0_0 (am_some (inj := (fun r => (.inr (some (.int (b2i r.1))), r.2))) hq19 (A_X9_endsText _ (hC.2.2.2.2.2.2.2.2.2.2.2.2.1) _ _ _ q18)) rfl rfl rfl rfl rfl ⟨rfl, rfl⟩ ?_
        refine aw_if_ne_b hC dX9_runScript_86 (tgt := 91) (by decide) ?_ ?_
        · refine aw_aload_n hC dX9_runScript_91 rfl ?_
          refine aw_bind rfl (fun q20 hq20 => ?_)
          refine aw_cVv hC dX9_runScript_92 cv_RX9_271 rfl rm_7_0_0 (am_some (inj := (fun r => (.inr (none), r))) hq20 (A_X9_laysAside _ (hC.2.2.2.2.2.2.2.2.2.2.2.2.1) _ _ _ q19.2)) rfl rfl rfl rfl rfl ⟨rfl, rfl⟩ ?_
          refine aw_aload_n hC dX9_runScript_95 rfl ?_
          refine aw_bind rfl (fun q21 hq21 => ?_)
          refine aw_cVi hC dX9_runScript_96 cv_RX9_523 rfl rm_7_0_0 (am_some (inj := (fun r => (.inr (some (.int r.1)), r.2))) hq21 (A_X9_doesAll _ (hC.2.2.2.2.2.2.2.2.2.2.2.2.1) _ _ _ q20)) rfl rfl rfl rfl rfl ⟨rfl, rfl⟩ ?_
          refine aw_istore_n hC dX9_runScript_99 (by decide) ?_
          refine aw_aload_n hC dX9_runScript_100 rfl ?_
          refine aw_bind rfl (fun q22 hq22 => ?_)
          refine aw_cVv hC dX9_runScript_101 cv_RX9_202 rfl rm_7_0_0 (am_some (inj := (fun r => (.inr (none), r))) hq22 (A_X9_keeps _ (hC.2.2.2.2.2.2.2.2.2.2.2.2.1) _ _ _ q21.2)) rfl rfl rfl rfl rfl ⟨rfl, rfl⟩ ?_
          refine aw_iload_n hC dX9_runScript_104 rfl ?_
          exact aw_iret hC dX9_runScript_105 rfl rfl
        · refine aw_iconst hC dX9_runScript_89 (v := 0) (by decide) ?_
          exact aw_iret hC dX9_runScript_90 rfl rfl
set_option maxHeartbeats 4000000 in
set_option maxRecDepth 100000 in
theorem A_X9_tell (l : Launch) (hl0 : l.stackTraces = false) (D : va_G) (loc : Rf → Nat) (cy : Nat → ClassId) (p1 : Int32) (h : HD) : AM l D loc cy yX9_tell cX9_tell 2 (none) 0 16 [.ref (loc (7, 0, 0)), .int p1] h ((jX9_tell p1 h).map (fun r => (.inr (none), r))) := by
  refine am_start (y := yX9_tell) (av := [.ref (loc (7, 0, 0)), .int p1]) (nL := 2) (h := h) (RF := fun (r : Option HD) => r.map (fun r => (.inr (none), r))) (x := jX9_tell p1 h) hl0 (by decide +kernel) rfl ?_
  intro p e R s m below meth c A hC
  unfold jX9_tell
  refine aw_aload_n hC dX9_tell_0 rfl ?_
  refine aw_gfR hC dX9_tell_1 fg_RX9_106 rfl rfl rm_7_0_0 ?_
  refine aw_aload_n hC dX9_tell_4 rfl ?_
  refine aw_gfI hC dX9_tell_5 fg_RX9_532 rfl rm_7_0_0 ?_
  refine aw_iload_n hC dX9_tell_8 rfl ?_
  refine aw_guard rfl (fun g2 => ?_)
  refine aw_iast hC dX9_tell_9 rm_7_0_30 rfl rfl g2 rfl (fun h1 => ?_)
  refine aw_aload_n hC dX9_tell_10 rfl ?_
  refine aw_dup hC dX9_tell_11 rfl ?_
  refine aw_gfI hC dX9_tell_12 fg_RX9_532 rfl rm_7_0_0 ?_
  refine aw_iconst hC dX9_tell_15 (v := 1) (by decide) ?_
  refine aw_iadd hC dX9_tell_16 ?_
  refine aw_pfI hC dX9_tell_17 fg_RX9_532 fp_7_49 rfl rm_7_0_0 (fun h3 => ?_)
  exact aw_vret hC dX9_tell_20 rfl rfl
set_option maxHeartbeats 4000000 in
set_option maxRecDepth 100000 in
theorem L_X9_tellName_2 (p1 : Int64) (hC : Cx p l e R s m args meth c D loc cy A cX9_tellName 4 (none) RX9 2 62 0 0)  : ∀ (n2 : Nat) (x3 : Int32) (h : HD), AW p l e R s m args below meth c D loc cy A 4 (QM below D loc cy A args s) (fun (r : Option HD) => r.map (fun r => (.inr (none), r))) (0, 0) 2 [(0, .ref (loc (7, 0, 0))), (1, .long p1), (3, .int x3)] [] h (jX9_tellName_L2 p1 n2 x3 h) := by
  intro n2
  induction n2 with
  | zero => intro x3 h; exact aw_none rfl
  | succ n2 ih2 =>
    intro x3 h
    rw [jX9_tellName_L2]
    refine aw_iload_n hC dX9_tellName_2 rfl ?_
    refine aw_lload_n hC dX9_tellName_3 rfl ?_
    refine aw_bind rfl (fun q1 hq1 => ?_)
    refine aw_cSi hC dX9_tellName_4 cv_RX9_320 (am_some (inj := (fun r => (.inr (some (.int r)), h))) hq1 (A_X9_lettersOf _ (hC.2.2.2.2.2.2.2.2.2.2.2.2.1) _ _ _ p1 h)) rfl rfl rfl rfl rfl ⟨rfl, rfl⟩ ?_
    refine aw_icmp_ge hC dX9_tellName_7 (tgt := 28) (by decide) ?_ ?_
    · exact aw_vret hC dX9_tellName_28 rfl rfl
    · refine aw_aload_n hC dX9_tellName_10 rfl ?_
      refine aw_bipush hC dX9_tellName_11 (v := 96) (by decide) ?_
      refine aw_lload_n hC dX9_tellName_13 rfl ?_
      refine aw_iload_n hC dX9_tellName_14 rfl ?_
      refine aw_bind rfl (fun q2 hq2 => ?_)
      refine aw_cSi hC dX9_tellName_15 cv_RX9_328 (am_some (inj := (fun r => (.inr (some (.int r)), h))) hq2 (A_X9_letterOf _ (hC.2.2.2.2.2.2.2.2.2.2.2.2.1) _ _ _ p1 x3 h)) rfl rfl rfl rfl rfl ⟨rfl, rfl⟩ ?_
      refine aw_iadd hC dX9_tellName_18 ?_
      refine aw_bind rfl (fun q3 hq3 => ?_)
      refine aw_cVv hC dX9_tellName_19 cv_RX9_535 rfl rm_7_0_0 (am_some (inj := (fun r => (.inr (none), r))) hq3 (A_X9_tell _ (hC.2.2.2.2.2.2.2.2.2.2.2.2.1) _ _ _ ((96 : Int32) + q2) h)) rfl rfl rfl rfl rfl ⟨rfl, rfl⟩ ?_
      refine aw_iinc hC dX9_tellName_22 rfl (v := x3 + 1) (by first | rfl | decide) (by decide) ?_
      refine aw_goto hC dX9_tellName_25 (tgt := 2) (by decide) ?_
      refine aw_sub [0, 1, 3] ?_
      exact ih2 (x3 + 1) q3
set_option maxHeartbeats 4000000 in
set_option maxRecDepth 100000 in
theorem A_X9_tellName (l : Launch) (hl0 : l.stackTraces = false) (D : va_G) (loc : Rf → Nat) (cy : Nat → ClassId) (p1 : Int64) (h : HD) : AM l D loc cy yX9_tellName cX9_tellName 4 (none) 2 62 [.ref (loc (7, 0, 0)), .long p1] h ((jX9_tellName p1 h).map (fun r => (.inr (none), r))) := by
  refine am_start (y := yX9_tellName) (av := [.ref (loc (7, 0, 0)), .long p1]) (nL := 4) (h := h) (RF := fun (r : Option HD) => r.map (fun r => (.inr (none), r))) (x := jX9_tellName p1 h) hl0 (by decide +kernel) rfl ?_
  intro p e R s m below meth c A hC
  unfold jX9_tellName
  refine aw_iconst hC dX9_tellName_0 (v := 0) (by decide) ?_
  refine aw_istore_n hC dX9_tellName_1 (by decide) ?_
  refine aw_sub [0, 1, 3] ?_
  exact L_X9_tellName_2 p1  hC FU (0 : Int32) h
set_option maxHeartbeats 4000000 in
set_option maxRecDepth 100000 in
theorem A_X9_tellSpot (l : Launch) (hl0 : l.stackTraces = false) (D : va_G) (loc : Rf → Nat) (cy : Nat → ClassId) (p1 : Int32) (h : HD) : AM l D loc cy yX9_tellSpot cX9_tellSpot 3 (none) 3 85 [.ref (loc (7, 0, 0)), .int p1] h ((jX9_tellSpot p1 h).map (fun r => (.inr (none), r))) := by
  refine am_start (y := yX9_tellSpot) (av := [.ref (loc (7, 0, 0)), .int p1]) (nL := 3) (h := h) (RF := fun (r : Option HD) => r.map (fun r => (.inr (none), r))) (x := jX9_tellSpot p1 h) hl0 (by decide +kernel) rfl ?_
  intro p e R s m below meth c A hC
  unfold jX9_tellSpot
  refine aw_aload_n hC dX9_tellSpot_0 rfl ?_
  refine aw_gfR hC dX9_tellSpot_1 fg_RX9_54 rfl rfl rm_7_0_0 ?_
  refine aw_iload_n hC dX9_tellSpot_4 rfl ?_
  refine aw_guard rfl (fun g1 => ?_)
  refine aw_iald hC dX9_tellSpot_5 rm_7_0_13 rfl rfl g1 rfl ?_
  refine aw_istore_n hC dX9_tellSpot_6 (by decide) ?_
  refine aw_iload_n hC dX9_tellSpot_7 rfl ?_
  refine aw_iconst hC dX9_tellSpot_8 (v := -1) (by decide) ?_
  refine aw_icmp_ne hC dX9_tellSpot_9 (tgt := 19) (by decide) ?_ ?_
  · refine aw_aload_n hC dX9_tellSpot_19 rfl ?_
    refine aw_aload_n hC dX9_tellSpot_20 rfl ?_
    refine aw_gfR hC dX9_tellSpot_21 fg_RX9_35 rfl rfl rm_7_0_0 ?_
    refine aw_iload_n hC dX9_tellSpot_24 rfl ?_
    refine aw_guard rfl (fun g2 => ?_)
    refine aw_lald hC dX9_tellSpot_25 rm_7_0_7 rfl rfl g2 rfl ?_
    refine aw_bind rfl (fun q3 hq3 => ?_)
    refine aw_cVv hC dX9_tellSpot_26 cv_RX9_538 rfl rm_7_0_0 (am_some (inj := (fun r => (.inr (none), r))) hq3 (A_X9_tellName _ (hC.2.2.2.2.2.2.2.2.2.2.2.2.1) _ _ _ (gJ h (7, 0, 7) (gI h (7, 0, 13) p1.toNatClampNeg).toNatClampNeg) h)) rfl rfl rfl rfl rfl ⟨rfl, rfl⟩ ?_
    refine aw_aload_n hC dX9_tellSpot_29 rfl ?_
    refine aw_gfR hC dX9_tellSpot_30 fg_RX9_60 rfl rfl rm_7_0_0 ?_
    refine aw_iload_n hC dX9_tellSpot_33 rfl ?_
    refine aw_guard rfl (fun g4 => ?_)
    refine aw_iald hC dX9_tellSpot_34 rm_7_0_15 rfl rfl g4 rfl ?_
    refine aw_if_ne hC dX9_tellSpot_35 (tgt := 44) (by decide) ?_ ?_
    · exact aw_vret hC dX9_tellSpot_44 rfl rfl
    · refine aw_aload_n hC dX9_tellSpot_38 rfl ?_
      refine aw_bipush hC dX9_tellSpot_39 (v := 33) (by decide) ?_
      refine aw_bind rfl (fun q5 hq5 => ?_)
      refine aw_cVv hC dX9_tellSpot_41 cv_RX9_535 rfl rm_7_0_0 (am_some (inj := (fun r => (.inr (none), r))) hq5 (A_X9_tell _ (hC.2.2.2.2.2.2.2.2.2.2.2.2.1) _ _ _ (33 : Int32) q3)) rfl rfl rfl rfl rfl ⟨rfl, rfl⟩ ?_
      exact aw_vret hC dX9_tellSpot_44 rfl rfl
  · refine aw_aload_n hC dX9_tellSpot_12 rfl ?_
    refine aw_bipush hC dX9_tellSpot_13 (v := 46) (by decide) ?_
    refine aw_bind rfl (fun q6 hq6 => ?_)
    refine aw_cVv hC dX9_tellSpot_15 cv_RX9_535 rfl rm_7_0_0 (am_some (inj := (fun r => (.inr (none), r))) hq6 (A_X9_tell _ (hC.2.2.2.2.2.2.2.2.2.2.2.2.1) _ _ _ (46 : Int32) h)) rfl rfl rfl rfl rfl ⟨rfl, rfl⟩ ?_
    exact aw_vret hC dX9_tellSpot_18 rfl rfl
set_option maxHeartbeats 4000000 in
set_option maxRecDepth 100000 in
theorem L_X9_report_27 (k56 : HD → Option (Int32 × HD)) (hC : Cx p l e R s m args meth c D loc cy A cX9_report 2 (some .int) RX9 4 107 0 0) (hk56 : ∀  (h2 : HD), AW p l e R s m args below meth c D loc cy A 2 (QM below D loc cy A args s) (fun (r : Option (Int32 × HD)) => r.map (fun r => (.inr (some (.int r.1)), r.2))) (0, 0) 56 [(0, .ref (loc (7, 0, 0)))] [] h2 (k56  h2)) : ∀ (n27 : Nat) (x1 : Int32) (h : HD), AW p l e R s m args below meth c D loc cy A 2 (QM below D loc cy A args s) (fun (r : Option (Int32 × HD)) => r.map (fun r => (.inr (some (.int r.1)), r.2))) (0, 0) 27 [(0, .ref (loc (7, 0, 0))), (1, .int x1)] [] h (jX9_report_L27 k56 n27 x1 h) := by
  intro n27
  induction n27 with
  | zero => intro x1 h; exact aw_none rfl
  | succ n27 ih27 =>
    intro x1 h
    rw [jX9_report_L27]
    refine aw_iload_n hC dX9_report_27 rfl ?_
    refine aw_aload_n hC dX9_report_28 rfl ?_
    refine aw_bind rfl (fun q5 hq5 => ?_)
    refine aw_cVi hC dX9_report_29 cv_RX9_214 rfl rm_7_0_0 (am_some (inj := (fun r => (.inr (some (.int r)), h))) hq5 (A_X9_spots _ (hC.2.2.2.2.2.2.2.2.2.2.2.2.1) _ _ _ h)) rfl rfl rfl rfl rfl ⟨rfl, rfl⟩ ?_
    refine aw_icmp_ge hC dX9_report_32 (tgt := 56) (by decide) ?_ ?_
    · refine aw_sub [0] ?_
      exact hk56 h
    · refine aw_iload_n hC dX9_report_35 rfl ?_
      refine aw_if_le hC dX9_report_36 (tgt := 45) (by decide) ?_ ?_
      · refine aw_aload_n hC dX9_report_45 rfl ?_
        refine aw_iload_n hC dX9_report_46 rfl ?_
        refine aw_bind rfl (fun q6 hq6 => ?_)
        refine aw_cVv hC dX9_report_47 cv_RX9_544 rfl rm_7_0_0 (am_some (inj := (fun r => (.inr (none), r))) hq6 (A_X9_tellSpot _ (hC.2.2.2.2.2.2.2.2.2.2.2.2.1) _ _ _ x1 h)) rfl rfl rfl rfl rfl ⟨rfl, rfl⟩ ?_
        refine aw_iinc hC dX9_report_50 rfl (v := x1 + 1) (by first | rfl | decide) (by decide) ?_
        refine aw_goto hC dX9_report_53 (tgt := 27) (by decide) ?_
        refine aw_sub [0, 1] ?_
        exact ih27 (x1 + 1) q6
      · refine aw_aload_n hC dX9_report_39 rfl ?_
        refine aw_bipush hC dX9_report_40 (v := 32) (by decide) ?_
        refine aw_bind rfl (fun q7 hq7 => ?_)
        refine aw_cVv hC dX9_report_42 cv_RX9_535 rfl rm_7_0_0 (am_some (inj := (fun r => (.inr (none), r))) hq7 (A_X9_tell _ (hC.2.2.2.2.2.2.2.2.2.2.2.2.1) _ _ _ (32 : Int32) h)) rfl rfl rfl rfl rfl ⟨rfl, rfl⟩ ?_
        refine aw_aload_n hC dX9_report_45 rfl ?_
        refine aw_iload_n hC dX9_report_46 rfl ?_
        refine aw_bind rfl (fun q8 hq8 => ?_)
        refine aw_cVv hC dX9_report_47 cv_RX9_544 rfl rm_7_0_0 (am_some (inj := (fun r => (.inr (none), r))) hq8 (A_X9_tellSpot _ (hC.2.2.2.2.2.2.2.2.2.2.2.2.1) _ _ _ x1 q7)) rfl rfl rfl rfl rfl ⟨rfl, rfl⟩ ?_
        refine aw_iinc hC dX9_report_50 rfl (v := x1 + 1) (by first | rfl | decide) (by decide) ?_
        refine aw_goto hC dX9_report_53 (tgt := 27) (by decide) ?_
        refine aw_sub [0, 1] ?_
        exact ih27 (x1 + 1) q8
set_option maxHeartbeats 4000000 in
set_option maxRecDepth 100000 in
theorem A_X9_report (l : Launch) (hl0 : l.stackTraces = false) (D : va_G) (loc : Rf → Nat) (cy : Nat → ClassId)  (h : HD) : AM l D loc cy yX9_report cX9_report 2 (some .int) 4 107 [.ref (loc (7, 0, 0))] h ((jX9_report h).map (fun r => (.inr (some (.int r.1)), r.2))) := by
  refine am_start (y := yX9_report) (av := [.ref (loc (7, 0, 0))]) (nL := 2) (h := h) (RF := fun (r : Option (Int32 × HD)) => r.map (fun r => (.inr (some (.int r.1)), r.2))) (x := jX9_report h) hl0 (by decide +kernel) rfl ?_
  intro p e R s m below meth c A hC
  unfold jX9_report
  refine aw_aload_n hC dX9_report_0 rfl ?_
  refine aw_iconst hC dX9_report_1 (v := 0) (by decide) ?_
  refine aw_pfI hC dX9_report_2 fg_RX9_112 fp_7_0 rfl rm_7_0_0 (fun h1 => ?_)
  refine aw_aload_n hC dX9_report_5 rfl ?_
  refine aw_iconst hC dX9_report_6 (v := 0) (by decide) ?_
  refine aw_pfI hC dX9_report_7 fg_RX9_532 fp_7_49 rfl rm_7_0_0 (fun h2 => ?_)
  refine aw_aload_n hC dX9_report_10 rfl ?_
  refine aw_iconst hC dX9_report_11 (v := 1) (by decide) ?_
  refine aw_pfZ hC dX9_report_12 fg_RX9_541 fp_7_50 rfl rm_7_0_0 (show _ = b2i true from rfl) (fun h3 => ?_)
  refine aw_aload_n hC dX9_report_15 rfl ?_
  refine aw_aload_n hC dX9_report_16 rfl ?_
  refine aw_gfR hC dX9_report_17 fg_RX9_20 rfl rfl rm_7_0_0 ?_
  refine aw_iconst hC dX9_report_20 (v := 0) (by decide) ?_
  refine aw_iald hC dX9_report_21 rm_7_0_2 rfl rfl (by decide) (k := 0) (by decide) ?_
  refine aw_bind rfl (fun q4 hq4 => ?_)
  refine aw_cVv hC dX9_report_22 cv_RX9_230 rfl rm_7_0_0 (am_some (inj := (fun r => (.inr (none), r))) hq4 (A_X9_parks _ (hC.2.2.2.2.2.2.2.2.2.2.2.2.1) _ _ _ (gI h3 (7, 0, 2) 0) h3)) rfl rfl rfl rfl rfl ⟨rfl, rfl⟩ ?_
  refine aw_iconst hC dX9_report_25 (v := 0) (by decide) ?_
  refine aw_istore_n hC dX9_report_26 (by decide) ?_
  refine aw_sub [0, 1] ?_
  refine L_X9_report_27  _ hC ?_ FU (0 : Int32) q4
  · intro h9
    refine aw_aload_n hC dX9_report_56 rfl ?_
    refine aw_bipush hC dX9_report_57 (v := 10) (by decide) ?_
    refine aw_bind rfl (fun q10 hq10 => ?_)
    refine aw_cVv hC dX9_report_59 cv_RX9_535 rfl rm_7_0_0 (am_some (inj := (fun r => (.inr (none), r))) hq10 (A_X9_tell _ (hC.2.2.2.2.2.2.2.2.2.2.2.2.1) _ _ _ (10 : Int32) h9)) rfl rfl rfl rfl rfl ⟨rfl, rfl⟩ ?_
    refine aw_aload_n hC dX9_report_62 rfl ?_
    refine aw_gfI hC dX9_report_63 fg_RX9_532 rfl rm_7_0_0 ?_
    exact aw_iret hC dX9_report_66 rfl rfl
end PRF
