section PRF
variable {p : Program} {l : Launch} {e : Env} {R : Room} {s : State} {m : MethodId} {args : Array Value} {below : List Frame} {meth : Method} {c : Code} {D : va_G} {loc : Rf → Nat} {cy : Nat → ClassId} {A : Nat → Prop}
set_option maxHeartbeats 4000000 in
set_option maxRecDepth 100000 in
theorem A_X9_carLine (l : Launch) (hl0 : l.stackTraces = false) (D : va_G) (loc : Rf → Nat) (cy : Nat → ClassId) (p1 : Int32) (h : HD) : AM l D loc cy yX9_carLine cX9_carLine 5 (none) 3 86 [.ref (loc (7, 0, 0)), .int p1] h ((jX9_carLine p1 h).map (fun r => (.inr (none), r))) := by
  refine am_start (y := yX9_carLine) (av := [.ref (loc (7, 0, 0)), .int p1]) (nL := 5) (h := h) (RF := fun (r : Option HD) => r.map (fun r => (.inr (none), r))) (x := jX9_carLine p1 h) hl0 (by decide +kernel) rfl ?_
  intro p e R s m below meth c A hC
  unfold jX9_carLine
  refine aw_aload_n hC dX9_carLine_0 rfl ?_
  refine aw_cVb hC dX9_carLine_1 cv_RX9_167 rfl rm_7_0_0 (A_X9_isGood _ (hC.2.2.2.2.2.2.2.2.2.2.2.2.1) _ _ _ h) rfl rfl rfl rfl rfl ⟨rfl, rfl⟩ ?_
  refine aw_if_eq_b hC dX9_carLine_4 (tgt := 22) (by decide) ?_ ?_
  · refine aw_aload_n hC dX9_carLine_22 rfl ?_
    refine aw_cVb hC dX9_carLine_23 cv_RX9_167 rfl rm_7_0_0 (A_X9_isGood _ (hC.2.2.2.2.2.2.2.2.2.2.2.2.1) _ _ _ h) rfl rfl rfl rfl rfl ⟨rfl, rfl⟩ ?_
    refine aw_if_eq_b hC dX9_carLine_26 (tgt := 44) (by decide) ?_ ?_
    · refine aw_aload_n hC dX9_carLine_44 rfl ?_
      refine aw_cVb hC dX9_carLine_45 cv_RX9_167 rfl rm_7_0_0 (A_X9_isGood _ (hC.2.2.2.2.2.2.2.2.2.2.2.2.1) _ _ _ h) rfl rfl rfl rfl rfl ⟨rfl, rfl⟩ ?_
      refine aw_if_eq_b hC dX9_carLine_48 (tgt := 55) (by decide) ?_ ?_
      · refine aw_aload_n hC dX9_carLine_55 rfl ?_
        refine aw_bind rfl (fun q1 hq1 => ?_)
        refine aw_cVv hC dX9_carLine_56 cv_RX9_255 rfl rm_7_0_0 (am_some (inj := (fun r => (.inr (none), r))) hq1 (A_X9_mustName _ (hC.2.2.2.2.2.2.2.2.2.2.2.2.1) _ _ _ h)) rfl rfl rfl rfl rfl ⟨rfl, rfl⟩ ?_
        refine aw_aload_n hC dX9_carLine_59 rfl ?_
        refine aw_cVb hC dX9_carLine_60 cv_RX9_167 rfl rm_7_0_0 (A_X9_isGood _ (hC.2.2.2.2.2.2.2.2.2.2.2.2.1) _ _ _ q1) rfl rfl rfl rfl rfl ⟨rfl, rfl⟩ ?_
        refine aw_if_eq_b hC dX9_carLine_63 (tgt := 83) (by decide) ?_ ?_
        · refine aw_aload_n hC dX9_carLine_83 rfl ?_
          refine aw_bind rfl (fun q2 hq2 => ?_)
          refine aw_cVj hC dX9_carLine_84 cv_RX9_264 rfl rm_7_0_0 (am_some (inj := (fun r => (.inr (some (.long r.1)), r.2))) hq2 (A_X9_nameHere _ (hC.2.2.2.2.2.2.2.2.2.2.2.2.1) _ _ _ q1)) rfl rfl rfl rfl rfl ⟨rfl, rfl⟩ ?_
          refine aw_lstore_n hC dX9_carLine_87 (by decide) ?_
          refine aw_aload_n hC dX9_carLine_88 rfl ?_
          refine aw_iconst hC dX9_carLine_89 (v := 0) (by decide) ?_
          refine aw_iload_n hC dX9_carLine_90 rfl ?_
          refine aw_bind rfl (fun q3 hq3 => ?_)
          refine aw_cVi hC dX9_carLine_91 cv_RX9_268 rfl rm_7_0_0 (am_some (inj := (fun r => (.inr (some (.int r.1)), r.2))) hq3 (A_X9_number _ (hC.2.2.2.2.2.2.2.2.2.2.2.2.1) _ _ _ (0 : Int32) p1 q2.2)) rfl rfl rfl rfl rfl ⟨rfl, rfl⟩ ?_
          refine aw_istore hC dX9_carLine_94 (by decide) ?_
          refine aw_aload_n hC dX9_carLine_96 rfl ?_
          refine aw_cVb hC dX9_carLine_97 cv_RX9_167 rfl rm_7_0_0 (A_X9_isGood _ (hC.2.2.2.2.2.2.2.2.2.2.2.2.1) _ _ _ q3.2) rfl rfl rfl rfl rfl ⟨rfl, rfl⟩ ?_
          refine aw_if_ne_b hC dX9_carLine_100 (tgt := 104) (by decide) ?_ ?_
          · refine aw_aload_n hC dX9_carLine_104 rfl ?_
            refine aw_gfR hC dX9_carLine_105 fg_RX9_35 rfl rfl rm_7_0_0 ?_
            refine aw_aload_n hC dX9_carLine_108 rfl ?_
            refine aw_gfR hC dX9_carLine_109 fg_RX9_20 rfl rfl rm_7_0_0 ?_
            refine aw_iconst hC dX9_carLine_112 (v := 0) (by decide) ?_
            refine aw_iald hC dX9_carLine_113 rm_7_0_2 rfl rfl (by decide) (k := 0) (by decide) ?_
            refine aw_lload_n hC dX9_carLine_114 rfl ?_
            refine aw_guard rfl (fun g5 => ?_)
            refine aw_last hC dX9_carLine_115 rm_7_0_7 rfl rfl g5 rfl (fun h4 => ?_)
            refine aw_aload_n hC dX9_carLine_116 rfl ?_
            refine aw_gfR hC dX9_carLine_117 fg_RX9_20 rfl rfl rm_7_0_0 ?_
            refine aw_iconst hC dX9_carLine_120 (v := 2) (by decide) ?_
            refine aw_aload_n hC dX9_carLine_121 rfl ?_
            refine aw_gfR hC dX9_carLine_122 fg_RX9_20 rfl rfl rm_7_0_0 ?_
            refine aw_iconst hC dX9_carLine_125 (v := 0) (by decide) ?_
            refine aw_iald hC dX9_carLine_126 rm_7_0_2 rfl rfl (by decide) (k := 0) (by decide) ?_
            refine aw_iadd hC dX9_carLine_127 ?_
            refine aw_iload hC dX9_carLine_128 rfl ?_
            refine aw_guard rfl (fun g7 => ?_)
            refine aw_iast hC dX9_carLine_130 rm_7_0_2 rfl rfl g7 rfl (fun h6 => ?_)
            refine aw_aload_n hC dX9_carLine_131 rfl ?_
            refine aw_gfR hC dX9_carLine_132 fg_RX9_20 rfl rfl rm_7_0_0 ?_
            refine aw_iconst hC dX9_carLine_135 (v := 0) (by decide) ?_
            refine aw_dup2 hC dX9_carLine_136 rfl rfl ?_
            refine aw_iald hC dX9_carLine_137 rm_7_0_2 rfl rfl (by decide) (k := 0) (by decide) ?_
            refine aw_iconst hC dX9_carLine_138 (v := 1) (by decide) ?_
            refine aw_iadd hC dX9_carLine_139 ?_
            refine aw_iast hC dX9_carLine_140 rm_7_0_2 rfl rfl (by decide) (k := 0) (by decide) (fun h8 => ?_)
            exact aw_vret hC dX9_carLine_141 rfl rfl
          · exact aw_vret hC dX9_carLine_103 rfl rfl
        · refine aw_aload_n hC dX9_carLine_66 rfl ?_
          refine aw_aload_n hC dX9_carLine_67 rfl ?_
          refine aw_gfJ hC dX9_carLine_68 fg_RX9_147 rfl rm_7_0_0 ?_
          refine aw_bind rfl (fun q9 hq9 => ?_)
          refine aw_cVi hC dX9_carLine_71 cv_RX9_260 rfl rm_7_0_0 (am_some (inj := (fun r => (.inr (some (.int r)), q1))) hq9 (A_X9_carNamed _ (hC.2.2.2.2.2.2.2.2.2.2.2.2.1) _ _ _ (gJ q1 (7, 0, 0) 12) q1)) rfl rfl rfl rfl rfl ⟨rfl, rfl⟩ ?_
          refine aw_iconst hC dX9_carLine_74 (v := -1) (by decide) ?_
          refine aw_icmp_eq hC dX9_carLine_75 (tgt := 83) (by decide) ?_ ?_
          · refine aw_aload_n hC dX9_carLine_83 rfl ?_
            refine aw_bind rfl (fun q10 hq10 => ?_)
            refine aw_cVj hC dX9_carLine_84 cv_RX9_264 rfl rm_7_0_0 (am_some (inj := (fun r => (.inr (some (.long r.1)), r.2))) hq10 (A_X9_nameHere _ (hC.2.2.2.2.2.2.2.2.2.2.2.2.1) _ _ _ q1)) rfl rfl rfl rfl rfl ⟨rfl, rfl⟩ ?_
            refine aw_lstore_n hC dX9_carLine_87 (by decide) ?_
            refine aw_aload_n hC dX9_carLine_88 rfl ?_
            refine aw_iconst hC dX9_carLine_89 (v := 0) (by decide) ?_
            refine aw_iload_n hC dX9_carLine_90 rfl ?_
            refine aw_bind rfl (fun q11 hq11 => ?_)
            refine aw_cVi hC dX9_carLine_91 cv_RX9_268 rfl rm_7_0_0 (am_some (inj := (fun r => (.inr (some (.int r.1)), r.2))) hq11 (A_X9_number _ (hC.2.2.2.2.2.2.2.2.2.2.2.2.1) _ _ _ (0 : Int32) p1 q10.2)) rfl rfl rfl rfl rfl ⟨rfl, rfl⟩ ?_
            refine aw_istore hC dX9_carLine_94 (by decide) ?_
            refine aw_aload_n hC dX9_carLine_96 rfl ?_
            refine aw_cVb hC dX9_carLine_97 cv_RX9_167 rfl rm_7_0_0 (A_X9_isGood _ (hC.2.2.2.2.2.2.2.2.2.2.2.2.1) _ _ _ q11.2) rfl rfl rfl rfl rfl ⟨rfl, rfl⟩ ?_
            refine aw_if_ne_b hC dX9_carLine_100 (tgt := 104) (by decide) ?_ ?_
            · refine aw_aload_n hC dX9_carLine_104 rfl ?_
              refine aw_gfR hC dX9_carLine_105 fg_RX9_35 rfl rfl rm_7_0_0 ?_
              refine aw_aload_n hC dX9_carLine_108 rfl ?_
              refine aw_gfR hC dX9_carLine_109 fg_RX9_20 rfl rfl rm_7_0_0 ?_
              refine aw_iconst hC dX9_carLine_112 (v := 0) (by decide) ?_
              refine aw_iald hC dX9_carLine_113 rm_7_0_2 rfl rfl (by decide) (k := 0) (by decide) ?_
              refine aw_lload_n hC dX9_carLine_114 rfl ?_
              refine aw_guard rfl (fun g13 => ?_)
              refine aw_last hC dX9_carLine_115 rm_7_0_7 rfl rfl g13 rfl (fun h12 => ?_)
              refine aw_aload_n hC dX9_carLine_116 rfl ?_
              refine aw_gfR hC dX9_carLine_117 fg_RX9_20 rfl rfl rm_7_0_0 ?_
              refine aw_iconst hC dX9_carLine_120 (v := 2) (by decide) ?_
              refine aw_aload_n hC dX9_carLine_121 rfl ?_
              refine aw_gfR hC dX9_carLine_122 fg_RX9_20 rfl rfl rm_7_0_0 ?_
              refine aw_iconst hC dX9_carLine_125 (v := 0) (by decide) ?_
              refine aw_iald hC dX9_carLine_126 rm_7_0_2 rfl rfl (by decide) (k := 0) (by decide) ?_
              refine aw_iadd hC dX9_carLine_127 ?_
              refine aw_iload hC dX9_carLine_128 rfl ?_
              refine aw_guard rfl (fun g15 => ?_)
              refine aw_iast hC dX9_carLine_130 rm_7_0_2 rfl rfl g15 rfl (fun h14 => ?_)
              refine aw_aload_n hC dX9_carLine_131 rfl ?_
              refine aw_gfR hC dX9_carLine_132 fg_RX9_20 rfl rfl rm_7_0_0 ?_
              refine aw_iconst hC dX9_carLine_135 (v := 0) (by decide) ?_
              refine aw_dup2 hC dX9_carLine_136 rfl rfl ?_
              refine aw_iald hC dX9_carLine_137 rm_7_0_2 rfl rfl (by decide) (k := 0) (by decide) ?_
              refine aw_iconst hC dX9_carLine_138 (v := 1) (by decide) ?_
              refine aw_iadd hC dX9_carLine_139 ?_
              refine aw_iast hC dX9_carLine_140 rm_7_0_2 rfl rfl (by decide) (k := 0) (by decide) (fun h16 => ?_)
              exact aw_vret hC dX9_carLine_141 rfl rfl
            · exact aw_vret hC dX9_carLine_103 rfl rfl
          · refine aw_aload_n hC dX9_carLine_78 rfl ?_
            refine aw_iconst hC dX9_carLine_79 (v := 3) (by decide) ?_
            refine aw_bind rfl (fun q17 hq17 => ?_)
            refine aw_cVv hC dX9_carLine_80 cv_RX9_174 rfl rm_7_0_0 (am_some (inj := (fun r => (.inr (none), r))) hq17 (A_X9_wrong _ (hC.2.2.2.2.2.2.2.2.2.2.2.2.1) _ _ _ (3 : Int32) q1)) rfl rfl rfl rfl rfl ⟨rfl, rfl⟩ ?_
            refine aw_aload_n hC dX9_carLine_83 rfl ?_
            refine aw_bind rfl (fun q18 hq18 => ?_)
            refine aw_cVj hC dX9_carLine_84 cv_RX9_264 rfl rm_7_0_0 (am_some (inj := (fun r => (.inr (some (.long r.1)), r.2))) hq18 (A_X9_nameHere _ (hC.2.2.2.2.2.2.2.2.2.2.2.2.1) _ _ _ q17)) rfl rfl rfl rfl rfl ⟨rfl, rfl⟩ ?_
            refine aw_lstore_n hC dX9_carLine_87 (by decide) ?_
            refine aw_aload_n hC dX9_carLine_88 rfl ?_
            refine aw_iconst hC dX9_carLine_89 (v := 0) (by decide) ?_
            refine aw_iload_n hC dX9_carLine_90 rfl ?_
            refine aw_bind rfl (fun q19 hq19 => ?_)
            refine aw_cVi hC dX9_carLine_91 cv_RX9_268 rfl rm_7_0_0 (am_some (inj := (fun r => (.inr (some (.int r.1)), r.2))) hq19 (A_X9_number _ (hC.2.2.2.2.2.2.2.2.2.2.2.2.1) _ _ _ (0 : Int32) p1 q18.2)) rfl rfl rfl rfl rfl ⟨rfl, rfl⟩ ?_
            refine aw_istore hC dX9_carLine_94 (by decide) ?_
            refine aw_aload_n hC dX9_carLine_96 rfl ?_
            refine aw_cVb hC dX9_carLine_97 cv_RX9_167 rfl rm_7_0_0 (A_X9_isGood _ (hC.2.2.2.2.2.2.2.2.2.2.2.2.1) _ _ _ q19.2) rfl rfl rfl rfl rfl ⟨rfl, rfl⟩ ?_
            refine aw_if_ne_b hC dX9_carLine_100 (tgt := 104) (by decide) ?_ ?_
            · refine aw_aload_n hC dX9_carLine_104 rfl ?_
              refine aw_gfR hC dX9_carLine_105 fg_RX9_35 rfl rfl rm_7_0_0 ?_
              refine aw_aload_n hC dX9_carLine_108 rfl ?_
              refine aw_gfR hC dX9_carLine_109 fg_RX9_20 rfl rfl rm_7_0_0 ?_
              refine aw_iconst hC dX9_carLine_112 (v := 0) (by decide) ?_
              refine aw_iald hC dX9_carLine_113 rm_7_0_2 rfl rfl (by decide) (k := 0) (by decide) ?_
              refine aw_lload_n hC dX9_carLine_114 rfl ?_
              refine aw_guard rfl (fun g21 => ?_)
              refine aw_last hC dX9_carLine_115 rm_7_0_7 rfl rfl g21 rfl (fun h20 => ?_)
              refine aw_aload_n hC dX9_carLine_116 rfl ?_
              refine aw_gfR hC dX9_carLine_117 fg_RX9_20 rfl rfl rm_7_0_0 ?_
              refine aw_iconst hC dX9_carLine_120 (v := 2) (by decide) ?_
              refine aw_aload_n hC dX9_carLine_121 rfl ?_
              refine aw_gfR hC dX9_carLine_122 fg_RX9_20 rfl rfl rm_7_0_0 ?_
              refine aw_iconst hC dX9_carLine_125 (v := 0) (by decide) ?_
              refine aw_iald hC dX9_carLine_126 rm_7_0_2 rfl rfl (by decide) (k := 0) (by decide) ?_
              refine aw_iadd hC dX9_carLine_127 ?_
              refine aw_iload hC dX9_carLine_128 rfl ?_
              refine aw_guard rfl (fun g23 => ?_)
              refine aw_iast hC dX9_carLine_130 rm_7_0_2 rfl rfl g23 rfl (fun h22 => ?_)
              refine aw_aload_n hC dX9_carLine_131 rfl ?_
              refine aw_gfR hC dX9_carLine_132 fg_RX9_20 rfl rfl rm_7_0_0 ?_
              refine aw_iconst hC dX9_carLine_135 (v := 0) (by decide) ?_
              refine aw_dup2 hC dX9_carLine_136 rfl rfl ?_
              refine aw_iald hC dX9_carLine_137 rm_7_0_2 rfl rfl (by decide) (k := 0) (by decide) ?_
              refine aw_iconst hC dX9_carLine_138 (v := 1) (by decide) ?_
              refine aw_iadd hC dX9_carLine_139 ?_
              refine aw_iast hC dX9_carLine_140 rm_7_0_2 rfl rfl (by decide) (k := 0) (by decide) (fun h24 => ?_)
              exact aw_vret hC dX9_carLine_141 rfl rfl
            · exact aw_vret hC dX9_carLine_103 rfl rfl
      · refine aw_aload_n hC dX9_carLine_51 rfl ?_
        refine aw_bind rfl (fun q25 hq25 => ?_)
        refine aw_cVv hC dX9_carLine_52 cv_RX9_177 rfl rm_7_0_0 (am_some (inj := (fun r => (.inr (none), r))) hq25 (A_X9_goOnRead _ (hC.2.2.2.2.2.2.2.2.2.2.2.2.1) _ _ _ h)) rfl rfl rfl rfl rfl ⟨rfl, rfl⟩ ?_
        refine aw_aload_n hC dX9_carLine_55 rfl ?_
        refine aw_bind rfl (fun q26 hq26 => ?_)
        refine aw_cVv hC dX9_carLine_56 cv_RX9_255 rfl rm_7_0_0 (am_some (inj := (fun r => (.inr (none), r))) hq26 (A_X9_mustName _ (hC.2.2.2.2.2.2.2.2.2.2.2.2.1) _ _ _ q25)) rfl rfl rfl rfl rfl ⟨rfl, rfl⟩ ?_
        refine aw_aload_n hC dX9_carLine_59 rfl ?_
        refine aw_cVb hC dX9_carLine_60 cv_RX9_167 rfl rm_7_0_0 (A_X9_isGood _ (hC.2.2.2.2.2.2.2.2.2.2.2.2.1) _ _ _ q26) rfl rfl rfl rfl rfl ⟨rfl, rfl⟩ ?_
        refine aw_if_eq_b hC dX9_carLine_63 (tgt := 83) (by decide) ?_ ?_
        · refine aw_aload_n hC dX9_carLine_83 rfl ?_
          refine aw_bind rfl (fun q27 hq27 => ?_)
          refine aw_cVj hC dX9_carLine_84 cv_RX9_264 rfl rm_7_0_0 (am_some (inj := (fun r => (.inr (some (.long r.1)), r.2))) hq27 (A_X9_nameHere _ (hC.2.2.2.2.2.2.2.2.2.2.2.2.1) _ _ _ q26)) rfl rfl rfl rfl rfl ⟨rfl, rfl⟩ ?_
          refine aw_lstore_n hC dX9_carLine_87 (by decide) ?_
          refine aw_aload_n hC dX9_carLine_88 rfl ?_
          refine aw_iconst hC dX9_carLine_89 (v := 0) (by decide) ?_
          refine aw_iload_n hC dX9_carLine_90 rfl ?_
          refine aw_bind rfl (fun q28 hq28 => ?_)
          refine aw_cVi hC dX9_carLine_91 cv_RX9_268 rfl rm_7_0_0 (am_some (inj := (fun r => (.inr (some (.int r.1)), r.2))) hq28 (A_X9_number _ (hC.2.2.2.2.2.2.2.2.2.2.2.2.1) _ _ _ (0 : Int32) p1 q27.2)) rfl rfl rfl rfl rfl ⟨rfl, rfl⟩ ?_
          refine aw_istore hC dX9_carLine_94 (by decide) ?_
          refine aw_aload_n hC dX9_carLine_96 rfl ?_
          refine aw_cVb hC dX9_carLine_97 cv_RX9_167 rfl rm_7_0_0 (A_X9_isGood _ (hC.2.2.2.2.2.2.2.2.2.2.2.2.1) _ _ _ q28.2) rfl rfl rfl rfl rfl ⟨rfl, rfl⟩ ?_
          refine aw_if_ne_b hC dX9_carLine_100 (tgt := 104) (by decide) ?_ ?_
          · refine aw_aload_n hC dX9_carLine_104 rfl ?_
            refine aw_gfR hC dX9_carLine_105 fg_RX9_35 rfl rfl rm_7_0_0 ?_
            refine aw_aload_n hC dX9_carLine_108 rfl ?_
            refine aw_gfR hC dX9_carLine_109 fg_RX9_20 rfl rfl rm_7_0_0 ?_
            refine aw_iconst hC dX9_carLine_112 (v := 0) (by decide) ?_
            refine aw_iald hC dX9_carLine_113 rm_7_0_2 rfl rfl (by decide) (k := 0) (by decide) ?_
            refine aw_lload_n hC dX9_carLine_114 rfl ?_
            refine aw_guard rfl (fun g30 => ?_)
            refine aw_last hC dX9_carLine_115 rm_7_0_7 rfl rfl g30 rfl (fun h29 => ?_)
            refine aw_aload_n hC dX9_carLine_116 rfl ?_
            refine aw_gfR hC dX9_carLine_117 fg_RX9_20 rfl rfl rm_7_0_0 ?_
            refine aw_iconst hC dX9_carLine_120 (v := 2) (by decide) ?_
            refine aw_aload_n hC dX9_carLine_121 rfl ?_
            refine aw_gfR hC dX9_carLine_122 fg_RX9_20 rfl rfl rm_7_0_0 ?_
            refine aw_iconst hC dX9_carLine_125 (v := 0) (by decide) ?_
            refine aw_iald hC dX9_carLine_126 rm_7_0_2 rfl rfl (by decide) (k := 0) (by decide) ?_
            refine aw_iadd hC dX9_carLine_127 ?_
            refine aw_iload hC dX9_carLine_128 rfl ?_
            refine aw_guard rfl (fun g32 => ?_)
            refine aw_iast hC dX9_carLine_130 rm_7_0_2 rfl rfl g32 rfl (fun h31 => ?_)
            refine aw_aload_n hC dX9_carLine_131 rfl ?_
            refine aw_gfR hC dX9_carLine_132 fg_RX9_20 rfl rfl rm_7_0_0 ?_
            refine aw_iconst hC dX9_carLine_135 (v := 0) (by decide) ?_
            refine aw_dup2 hC dX9_carLine_136 rfl rfl ?_
            refine aw_iald hC dX9_carLine_137 rm_7_0_2 rfl rfl (by decide) (k := 0) (by decide) ?_
            refine aw_iconst hC dX9_carLine_138 (v := 1) (by decide) ?_
            refine aw_iadd hC dX9_carLine_139 ?_
            refine aw_iast hC dX9_carLine_140 rm_7_0_2 rfl rfl (by decide) (k := 0) (by decide) (fun h33 => ?_)
            exact aw_vret hC dX9_carLine_141 rfl rfl
          · exact aw_vret hC dX9_carLine_103 rfl rfl
        · refine aw_aload_n hC dX9_carLine_66 rfl ?_
          refine aw_aload_n hC dX9_carLine_67 rfl ?_
          refine aw_gfJ hC dX9_carLine_68 fg_RX9_147 rfl rm_7_0_0 ?_
          refine aw_bind rfl (fun q34 hq34 => ?_)
          refine aw_cVi hC dX9_carLine_71 cv_RX9_260 rfl rm_7_0_0 (am_some (inj := (fun r => (.inr (some (.int r)), q26))) hq34 (A_X9_carNamed _ (hC.2.2.2.2.2.2.2.2.2.2.2.2.1) _ _ _ (gJ q26 (7, 0, 0) 12) q26)) rfl rfl rfl rfl rfl ⟨rfl, rfl⟩ ?_
          refine aw_iconst hC dX9_carLine_74 (v := -1) (by decide) ?_
          refine aw_icmp_eq hC dX9_carLine_75 (tgt := 83) (by decide) ?_ ?_
          · refine aw_aload_n hC dX9_carLine_83 rfl ?_
            refine aw_bind rfl (fun q35 hq35 => ?_)
            refine aw_cVj hC dX9_carLine_84 cv_RX9_264 rfl rm_7_0_0 (am_some (inj := (fun r => (.inr (some (.long r.1)), r.2))) hq35 (A_X9_nameHere _ (hC.2.2.2.2.2.2.2.2.2.2.2.2.1) _ _ _ q26)) rfl rfl rfl rfl rfl ⟨rfl, rfl⟩ ?_
            refine aw_lstore_n hC dX9_carLine_87 (by decide) ?_
            refine aw_aload_n hC dX9_carLine_88 rfl ?_
            refine aw_iconst hC dX9_carLine_89 (v := 0) (by decide) ?_
            refine aw_iload_n hC dX9_carLine_90 rfl ?_
            refine aw_bind rfl (fun q36 hq36 => ?_)
            refine aw_cVi hC dX9_carLine_91 cv_RX9_268 rfl rm_7_0_0 (am_some (inj := (fun r => (.inr (some (.int r.1)), r.2))) hq36 (A_X9_number _ (hC.2.2.2.2.2.2.2.2.2.2.2.2.1) _ _ _ (0 : Int32) p1 q35.2)) rfl rfl rfl rfl rfl ⟨rfl, rfl⟩ ?_
            refine aw_istore hC dX9_carLine_94 (by decide) ?_
            refine aw_aload_n hC dX9_carLine_96 rfl ?_
            refine aw_cVb hC dX9_carLine_97 cv_RX9_167 rfl rm_7_0_0 (A_X9_isGood _ (hC.2.2.2.2.2.2.2.2.2.2.2.2.1) _ _ _ q36.2) rfl rfl rfl rfl rfl ⟨rfl, rfl⟩ ?_
            refine aw_if_ne_b hC dX9_carLine_100 (tgt := 104) (by decide) ?_ ?_
            · refine aw_aload_n hC dX9_carLine_104 rfl ?_
              refine aw_gfR hC dX9_carLine_105 fg_RX9_35 rfl rfl rm_7_0_0 ?_
              refine aw_aload_n hC dX9_carLine_108 rfl ?_
              refine aw_gfR hC dX9_carLine_109 fg_RX9_20 rfl rfl rm_7_0_0 ?_
              refine aw_iconst hC dX9_carLine_112 (v := 0) (by decide) ?_
              refine aw_iald hC dX9_carLine_113 rm_7_0_2 rfl rfl (by decide) (k := 0) (by decide) ?_
              refine aw_lload_n hC dX9_carLine_114 rfl ?_
              refine aw_guard rfl (fun g38 => ?_)
              refine aw_last hC dX9_carLine_115 rm_7_0_7 rfl rfl g38 rfl (fun h37 => ?_)
              refine aw_aload_n hC dX9_carLine_116 rfl ?_
              refine aw_gfR hC dX9_carLine_117 fg_RX9_20 rfl rfl rm_7_0_0 ?_
              refine aw_iconst hC dX9_carLine_120 (v := 2) (by decide) ?_
              refine aw_aload_n hC dX9_carLine_121 rfl ?_
              refine aw_gfR hC dX9_carLine_122 fg_RX9_20 rfl rfl rm_7_0_0 ?_
              refine aw_iconst hC dX9_carLine_125 (v := 0) (by decide) ?_
              refine aw_iald hC dX9_carLine_126 rm_7_0_2 rfl rfl (by decide) (k := 0) (by decide) ?_
              refine aw_iadd hC dX9_carLine_127 ?_
              refine aw_iload hC dX9_carLine_128 rfl ?_
              refine aw_guard rfl (fun g40 => ?_)
              refine aw_iast hC dX9_carLine_130 rm_7_0_2 rfl rfl g40 rfl (fun h39 => ?_)
              refine aw_aload_n hC dX9_carLine_131 rfl ?_
              refine aw_gfR hC dX9_carLine_132 fg_RX9_20 rfl rfl rm_7_0_0 ?_
              refine aw_iconst hC dX9_carLine_135 (v := 0) (by decide) ?_
              refine aw_dup2 hC dX9_carLine_136 rfl rfl ?_
              refine aw_iald hC dX9_carLine_137 rm_7_0_2 rfl rfl (by decide) (k := 0) (by decide) ?_
              refine aw_iconst hC dX9_carLine_138 (v := 1) (by decide) ?_
              refine aw_iadd hC dX9_carLine_139 ?_
              refine aw_iast hC dX9_carLine_140 rm_7_0_2 rfl rfl (by decide) (k := 0) (by decide) (fun h41 => ?_)
              exact aw_vret hC dX9_carLine_141 rfl rfl
            · exact aw_vret hC dX9_carLine_103 rfl rfl
          · refine aw_aload_n hC dX9_carLine_78 rfl ?_
            refine aw_iconst hC dX9_carLine_79 (v := 3) (by decide) ?_
            refine aw_bind rfl (fun q42 hq42 => ?_)
            refine aw_cVv hC dX9_carLine_80 cv_RX9_174 rfl rm_7_0_0 (am_some (inj := (fun r => (.inr (none), r))) hq42 (A_X9_wrong _ (hC.2.2.2.2.2.2.2.2.2.2.2.2.1) _ _ _ (3 : Int32) q26)) rfl rfl rfl rfl rfl ⟨rfl, rfl⟩ ?_
            refine aw_aload_n hC dX9_carLine_83 rfl ?_
            refine aw_bind rfl (fun q43 hq43 => ?_)
            refine aw_cVj hC dX9_carLine_84 cv_RX9_264 rfl rm_7_0_0 (am_some (inj := (fun r => (.inr (some (.long r.1)), r.2))) hq43 (A_X9_nameHere _ (hC.2.2.2.2.2.2.2.2.2.2.2.2.1) _ _ _ q42)) rfl rfl rfl rfl rfl ⟨rfl, rfl⟩ ?_
            refine aw_lstore_n hC dX9_carLine_87 (by decide) ?_
            refine aw_aload_n hC dX9_carLine_88 rfl ?_
            refine aw_iconst hC dX9_carLine_89 (v := 0) (by decide) ?_
            refine aw_iload_n hC dX9_carLine_90 rfl ?_
            refine aw_bind rfl (fun q44 hq44 => ?_)
            refine aw_cVi hC dX9_carLine_91 cv_RX9_268 rfl rm_7_0_0 (am_some (inj := (fun r => (.inr (some (.int r.1)), r.2))) hq44 (A_X9_number _ (hC.2.2.2.2.2.2.2.2.2.2.2.2.1) _ _ _ (0 : Int32) p1 q43.2)) rfl rfl rfl rfl rfl ⟨rfl, rfl⟩ ?_
            refine aw_istore hC dX9_carLine_94 (by decide) ?_
            refine aw_aload_n hC dX9_carLine_96 rfl ?_
            refine aw_cVb hC dX9_carLine_97 cv_RX9_167 rfl rm_7_0_0 (A_X9_isGood _ (hC.2.2.2.2.2.2.2.2.2.2.2.2.1) _ _ _ q44.2) rfl rfl rfl rfl rfl ⟨rfl, rfl⟩ ?_
            refine aw_if_ne_b hC dX9_carLine_100 (tgt := 104) (by decide) ?_ ?_
            · refine aw_aload_n hC dX9_carLine_104 rfl ?_
              refine aw_gfR hC dX9_carLine_105 fg_RX9_35 rfl rfl rm_7_0_0 ?_
              refine aw_aload_n hC dX9_carLine_108 rfl ?_
              refine aw_gfR hC dX9_carLine_109 fg_RX9_20 rfl rfl rm_7_0_0 ?_
              refine aw_iconst hC dX9_carLine_112 (v := 0) (by decide) ?_
              refine aw_iald hC dX9_carLine_113 rm_7_0_2 rfl rfl (by decide) (k := 0) (by decide) ?_
              refine aw_lload_n hC dX9_carLine_114 rfl ?_
              refine aw_guard rfl (fun g46 => ?_)
              refine aw_last hC dX9_carLine_115 rm_7_0_7 rfl rfl g46 rfl (fun h45 => ?_)
              refine aw_aload_n hC dX9_carLine_116 rfl ?_
              refine aw_gfR hC dX9_carLine_117 fg_RX9_20 rfl rfl rm_7_0_0 ?_
              refine aw_iconst hC dX9_carLine_120 (v := 2) (by decide) ?_
              refine aw_aload_n hC dX9_carLine_121 rfl ?_
              refine aw_gfR hC dX9_carLine_122 fg_RX9_20 rfl rfl rm_7_0_0 ?_
              refine aw_iconst hC dX9_carLine_125 (v := 0) (by decide) ?_
              refine aw_iald hC dX9_carLine_126 rm_7_0_2 rfl rfl (by decide) (k := 0) (by decide) ?_
              refine aw_iadd hC dX9_carLine_127 ?_
              refine aw_iload hC dX9_carLine_128 rfl ?_
              refine aw_guard rfl (fun g48 => ?_)
              refine aw_iast hC dX9_carLine_130 rm_7_0_2 rfl rfl g48 rfl (fun h47 => ?_)
              refine aw_aload_n hC dX9_carLine_131 rfl ?_
              refine aw_gfR hC dX9_carLine_132 fg_RX9_20 rfl rfl rm_7_0_0 ?_
              refine aw_iconst hC dX9_carLine_135 (v := 0) (by decide) ?_
              refine aw_dup2 hC dX9_carLine_136 rfl rfl ?_
              refine aw_iald hC dX9_carLine_137 rm_7_0_2 rfl rfl (by decide) (k := 0) (by decide) ?_
              refine aw_iconst hC dX9_carLine_138 (v := 1) (by decide) ?_
              refine aw_iadd hC dX9_carLine_139 ?_
              refine aw_iast hC dX9_carLine_140 rm_7_0_2 rfl rfl (by decide) (k := 0) (by decide) (fun h49 => ?_)
              exact aw_vret hC dX9_carLine_141 rfl rfl
            · exact aw_vret hC dX9_carLine_103 rfl rfl
    · refine aw_aload_n hC dX9_carLine_29 rfl ?_
      refine aw_gfR hC dX9_carLine_30 fg_RX9_20 rfl rfl rm_7_0_0 ?_
      refine aw_iconst hC dX9_carLine_33 (v := 0) (by decide) ?_
      refine aw_iald hC dX9_carLine_34 rm_7_0_2 rfl rfl (by decide) (k := 0) (by decide) ?_
      refine aw_iload_n hC dX9_carLine_35 rfl ?_
      refine aw_icmp_ne hC dX9_carLine_36 (tgt := 44) (by decide) ?_ ?_
      · refine aw_aload_n hC dX9_carLine_44 rfl ?_
        refine aw_cVb hC dX9_carLine_45 cv_RX9_167 rfl rm_7_0_0 (A_X9_isGood _ (hC.2.2.2.2.2.2.2.2.2.2.2.2.1) _ _ _ h) rfl rfl rfl rfl rfl ⟨rfl, rfl⟩ ?_
        refine aw_if_eq_b hC dX9_carLine_48 (tgt := 55) (by decide) ?_ ?_
        · refine aw_aload_n hC dX9_carLine_55 rfl ?_
          refine aw_bind rfl (fun q50 hq50 => ?_)
          refine aw_cVv hC dX9_carLine_56 cv_RX9_255 rfl rm_7_0_0 (am_some (inj := (fun r => (.inr (none), r))) hq50 (A_X9_mustName _ (hC.2.2.2.2.2.2.2.2.2.2.2.2.1) _ _ _ h)) rfl rfl rfl rfl rfl ⟨rfl, rfl⟩ ?_
          refine aw_aload_n hC dX9_carLine_59 rfl ?_
          refine aw_cVb hC dX9_carLine_60 cv_RX9_167 rfl rm_7_0_0 (A_X9_isGood _ (hC.2.2.2.2.2.2.2.2.2.2.2.2.1) _ _ _ q50) rfl rfl rfl rfl rfl ⟨rfl, rfl⟩ ?_
          refine aw_if_eq_b hC dX9_carLine_63 (tgt := 83) (by decide) ?_ ?_
          · refine aw_aload_n hC dX9_carLine_83 rfl ?_
            refine aw_bind rfl (fun q51 hq51 => ?_)
            refine aw_cVj hC dX9_carLine_84 cv_RX9_264 rfl rm_7_0_0 (am_some (inj := (fun r => (.inr (some (.long r.1)), r.2))) hq51 (A_X9_nameHere _ (hC.2.2.2.2.2.2.2.2.2.2.2.2.1) _ _ _ q50)) rfl rfl rfl rfl rfl ⟨rfl, rfl⟩ ?_
            refine aw_lstore_n hC dX9_carLine_87 (by decide) ?_
            refine aw_aload_n hC dX9_carLine_88 rfl ?_
            refine aw_iconst hC dX9_carLine_89 (v := 0) (by decide) ?_
            refine aw_iload_n hC dX9_carLine_90 rfl ?_
            refine aw_bind rfl (fun q52 hq52 => ?_)
            refine aw_cVi hC dX9_carLine_91 cv_RX9_268 rfl rm_7_0_0 (am_some (inj := (fun r => (.inr (some (.int r.1)), r.2))) hq52 (A_X9_number _ (hC.2.2.2.2.2.2.2.2.2.2.2.2.1) _ _ _ (0 : Int32) p1 q51.2)) rfl rfl rfl rfl rfl ⟨rfl, rfl⟩ ?_
            refine aw_istore hC dX9_carLine_94 (by decide) ?_
            refine aw_aload_n hC dX9_carLine_96 rfl ?_
            refine aw_cVb hC dX9_carLine_97 cv_RX9_167 rfl rm_7_0_0 (A_X9_isGood _ (hC.2.2.2.2.2.2.2.2.2.2.2.2.1) _ _ _ q52.2) rfl rfl rfl rfl rfl ⟨rfl, rfl⟩ ?_
            refine aw_if_ne_b hC dX9_carLine_100 (tgt := 104) (by decide) ?_ ?_
            · refine aw_aload_n hC dX9_carLine_104 rfl ?_
              refine aw_gfR hC dX9_carLine_105 fg_RX9_35 rfl rfl rm_7_0_0 ?_
              refine aw_aload_n hC dX9_carLine_108 rfl ?_
              refine aw_gfR hC dX9_carLine_109 fg_RX9_20 rfl rfl rm_7_0_0 ?_
              refine aw_iconst hC dX9_carLine_112 (v := 0) (by decide) ?_
              refine aw_iald hC dX9_carLine_113 rm_7_0_2 rfl rfl (by decide) (k := 0) (by decide) ?_
              refine aw_lload_n hC dX9_carLine_114 rfl ?_
              refine aw_guard rfl (fun g54 => ?_)
              refine aw_last hC dX9_carLine_115 rm_7_0_7 rfl rfl g54 rfl (fun h53 => ?_)
              refine aw_aload_n hC dX9_carLine_116 rfl ?_
              refine aw_gfR hC dX9_carLine_117 fg_RX9_20 rfl rfl rm_7_0_0 ?_
              refine aw_iconst hC dX9_carLine_120 (v := 2) (by decide) ?_
              refine aw_aload_n hC dX9_carLine_121 rfl ?_
              refine aw_gfR hC dX9_carLine_122 fg_RX9_20 rfl rfl rm_7_0_0 ?_
              refine aw_iconst hC dX9_carLine_125 (v := 0) (by decide) ?_
              refine aw_iald hC dX9_carLine_126 rm_7_0_2 rfl rfl (by decide) (k := 0) (by decide) ?_
              refine aw_iadd hC dX9_carLine_127 ?_
              refine aw_iload hC dX9_carLine_128 rfl ?_
              refine aw_guard rfl (fun g56 => ?_)
              refine aw_iast hC dX9_carLine_130 rm_7_0_2 rfl rfl g56 rfl (fun h55 => ?_)
              refine aw_aload_n hC dX9_carLine_131 rfl ?_
              refine aw_gfR hC dX9_carLine_132 fg_RX9_20 rfl rfl rm_7_0_0 ?_
              refine aw_iconst hC dX9_carLine_135 (v := 0) (by decide) ?_
              refine aw_dup2 hC dX9_carLine_136 rfl rfl ?_
              refine aw_iald hC dX9_carLine_137 rm_7_0_2 rfl rfl (by decide) (k := 0) (by decide) ?_
              refine aw_iconst hC dX9_carLine_138 (v := 1) (by decide) ?_
              refine aw_iadd hC dX9_carLine_139 ?_
              refine aw_iast hC dX9_carLine_140 rm_7_0_2 rfl rfl (by decide) (k := 0) (by decide) (fun h57 => ?_)
              exact aw_vret hC dX9_carLine_141 rfl rfl
            · exact aw_vret hC dX9_carLine_103 rfl rfl
          · refine aw_aload_n hC dX9_carLine_66 rfl ?_
            refine aw_aload_n hC dX9_carLine_67 rfl ?_
            refine aw_gfJ hC dX9_carLine_68 fg_RX9_147 rfl rm_7_0_0 ?_
            refine aw_bind rfl (fun q58 hq58 => ?_)
            refine aw_cVi hC dX9_carLine_71 cv_RX9_260 rfl rm_7_0_0 (am_some (inj := (fun r => (.inr (some (.int r)), q50))) hq58 (A_X9_carNamed _ (hC.2.2.2.2.2.2.2.2.2.2.2.2.1) _ _ _ (gJ q50 (7, 0, 0) 12) q50)) rfl rfl rfl rfl rfl ⟨rfl, rfl⟩ ?_
            refine aw_iconst hC dX9_carLine_74 (v := -1) (by decide) ?_
            refine aw_icmp_eq hC dX9_carLine_75 (tgt := 83) (by decide) ?_ ?_
            · refine aw_aload_n hC dX9_carLine_83 rfl ?_
              refine aw_bind rfl (fun q59 hq59 => ?_)
              refine aw_cVj hC dX9_carLine_84 cv_RX9_264 rfl rm_7_0_0 (am_some (inj := (fun r => (.inr (some (.long r.1)), r.2))) hq59 (A_X9_nameHere _ (hC.2.2.2.2.2.2.2.2.2.2.2.2.1) _ _ _ q50)) rfl rfl rfl rfl rfl ⟨rfl, rfl⟩ ?_
              refine aw_lstore_n hC dX9_carLine_87 (by decide) ?_
              refine aw_aload_n hC dX9_carLine_88 rfl ?_
              refine aw_iconst hC dX9_carLine_89 (v := 0) (by decide) ?_
              refine aw_iload_n hC dX9_carLine_90 rfl ?_
              refine aw_bind rfl (fun q60 hq60 => ?_)
              refine aw_cVi hC dX9_carLine_91 cv_RX9_268 rfl rm_7_0_0 (am_some (inj := (fun r => (.inr (some (.int r.1)), r.2))) hq60 (A_X9_number _ (hC.2.2.2.2.2.2.2.2.2.2.2.2.1) _ _ _ (0 : Int32) p1 q59.2)) rfl rfl rfl rfl rfl ⟨rfl, rfl⟩ ?_
              refine aw_istore hC dX9_carLine_94 (by decide) ?_
              refine aw_aload_n hC dX9_carLine_96 rfl ?_
              refine aw_cVb hC dX9_carLine_97 cv_RX9_167 rfl rm_7_0_0 (A_X9_isGood _ (hC.2.2.2.2.2.2.2.2.2.2.2.2.1) _ _ _ q60.2) rfl rfl rfl rfl rfl ⟨rfl, rfl⟩ ?_
              refine aw_if_ne_b hC dX9_carLine_100 (tgt := 104) (by decide) ?_ ?_
              · refine aw_aload_n hC dX9_carLine_104 rfl ?_
                refine aw_gfR hC dX9_carLine_105 fg_RX9_35 rfl rfl rm_7_0_0 ?_
                refine aw_aload_n hC dX9_carLine_108 rfl ?_
                refine aw_gfR hC dX9_carLine_109 fg_RX9_20 rfl rfl rm_7_0_0 ?_
                refine aw_iconst hC dX9_carLine_112 (v := 0) (by decide) ?_
                refine aw_iald hC dX9_carLine_113 rm_7_0_2 rfl rfl (by decide) (k := 0) (by decide) ?_
                refine aw_lload_n hC dX9_carLine_114 rfl ?_
                refine aw_guard rfl (fun g62 => ?_)
                refine aw_last hC dX9_carLine_115 rm_7_0_7 rfl rfl g62 rfl (fun h61 => ?_)
                refine aw_aload_n hC dX9_carLine_116 rfl ?_
                refine aw_gfR hC dX9_carLine_117 fg_RX9_20 rfl rfl rm_7_0_0 ?_
                refine aw_iconst hC dX9_carLine_120 (v := 2) (by decide) ?_
                refine aw_aload_n hC dX9_carLine_121 rfl ?_
                refine aw_gfR hC dX9_carLine_122 fg_RX9_20 rfl rfl rm_7_0_0 ?_
                refine aw_iconst hC dX9_carLine_125 (v := 0) (by decide) ?_
                refine aw_iald hC dX9_carLine_126 rm_7_0_2 rfl rfl (by decide) (k := 0) (by decide) ?_
                refine aw_iadd hC dX9_carLine_127 ?_
                refine aw_iload hC dX9_carLine_128 rfl ?_
                refine aw_guard rfl (fun g64 => ?_)
                refine aw_iast hC dX9_carLine_130 rm_7_0_2 rfl rfl g64 rfl (fun h63 => ?_)
                refine aw_aload_n hC dX9_carLine_131 rfl ?_
                refine aw_gfR hC dX9_carLine_132 fg_RX9_20 rfl rfl rm_7_0_0 ?_
                refine aw_iconst hC dX9_carLine_135 (v := 0) (by decide) ?_
                refine aw_dup2 hC dX9_carLine_136 rfl rfl ?_
                refine aw_iald hC dX9_carLine_137 rm_7_0_2 rfl rfl (by decide) (k := 0) (by decide) ?_
                refine aw_iconst hC dX9_carLine_138 (v := 1) (by decide) ?_
                refine aw_iadd hC dX9_carLine_139 ?_
                refine aw_iast hC dX9_carLine_140 rm_7_0_2 rfl rfl (by decide) (k := 0) (by decide) (fun h65 => ?_)
                exact aw_vret hC dX9_carLine_141 rfl rfl
              · exact aw_vret hC dX9_carLine_103 rfl rfl
            · refine aw_aload_n hC dX9_carLine_78 rfl ?_
              refine aw_iconst hC dX9_carLine_79 (v := 3) (by decide) ?_
              refine aw_bind rfl (fun q66 hq66 => ?_)
              refine aw_cVv hC dX9_carLine_80 cv_RX9_174 rfl rm_7_0_0 (am_some (inj := (fun r => (.inr (none), r))) hq66 (A_X9_wrong _ (hC.2.2.2.2.2.2.2.2.2.2.2.2.1) _ _ _ (3 : Int32) q50)) rfl rfl rfl rfl rfl ⟨rfl, rfl⟩ ?_
              refine aw_aload_n hC dX9_carLine_83 rfl ?_
              refine aw_bind rfl (fun q67 hq67 => ?_)
              refine aw_cVj hC dX9_carLine_84 cv_RX9_264 rfl rm_7_0_0 (am_some (inj := (fun r => (.inr (some (.long r.1)), r.2))) hq67 (A_X9_nameHere _ (hC.2.2.2.2.2.2.2.2.2.2.2.2.1) _ _ _ q66)) rfl rfl rfl rfl rfl ⟨rfl, rfl⟩ ?_
              refine aw_lstore_n hC dX9_carLine_87 (by decide) ?_
              refine aw_aload_n hC dX9_carLine_88 rfl ?_
              refine aw_iconst hC dX9_carLine_89 (v := 0) (by decide) ?_
              refine aw_iload_n hC dX9_carLine_90 rfl ?_
              refine aw_bind rfl (fun q68 hq68 => ?_)
              refine aw_cVi hC dX9_carLine_91 cv_RX9_268 rfl rm_7_0_0 (am_some (inj := (fun r => (.inr (some (.int r.1)), r.2))) hq68 (A_X9_number _ (hC.2.2.2.2.2.2.2.2.2.2.2.2.1) _ _ _ (0 : Int32) p1 q67.2)) rfl rfl rfl rfl rfl ⟨rfl, rfl⟩ ?_
              refine aw_istore hC dX9_carLine_94 (by decide) ?_
              refine aw_aload_n hC dX9_carLine_96 rfl ?_
              refine aw_cVb hC dX9_carLine_97 cv_RX9_167 rfl rm_7_0_0 (A_X9_isGood _ (hC.2.2.2.2.2.2.2.2.2.2.2.2.1) _ _ _ q68.2) rfl rfl rfl rfl rfl ⟨rfl, rfl⟩ ?_
              refine aw_if_ne_b hC dX9_carLine_100 (tgt := 104) (by decide) ?_ ?_
              · refine aw_aload_n hC dX9_carLine_104 rfl ?_
                refine aw_gfR hC dX9_carLine_105 fg_RX9_35 rfl rfl rm_7_0_0 ?_
                refine aw_aload_n hC dX9_carLine_108 rfl ?_
                refine aw_gfR hC dX9_carLine_109 fg_RX9_20 rfl rfl rm_7_0_0 ?_
                refine aw_iconst hC dX9_carLine_112 (v := 0) (by decide) ?_
                refine aw_iald hC dX9_carLine_113 rm_7_0_2 rfl rfl (by decide) (k := 0) (by decide) ?_
                refine aw_lload_n hC dX9_carLine_114 rfl ?_
                refine aw_guard rfl (fun g70 => ?_)
                refine aw_last hC dX9_carLine_115 rm_7_0_7 rfl rfl g70 rfl (fun h69 => ?_)
                refine aw_aload_n hC dX9_carLine_116 rfl ?_
                refine aw_gfR hC dX9_carLine_117 fg_RX9_20 rfl rfl rm_7_0_0 ?_
                refine aw_iconst hC dX9_carLine_120 (v := 2) (by decide) ?_
                refine aw_aload_n hC dX9_carLine_121 rfl ?_
                refine aw_gfR hC dX9_carLine_122 fg_RX9_20 rfl rfl rm_7_0_0 ?_
                refine aw_iconst hC dX9_carLine_125 (v := 0) (by decide) ?_
                refine aw_iald hC dX9_carLine_126 rm_7_0_2 rfl rfl (by decide) (k := 0) (by decide) ?_
                refine aw_iadd hC dX9_carLine_127 ?_
                refine aw_iload hC dX9_carLine_128 rfl ?_
                refine aw_guard rfl (fun g72 => ?_)
                refine aw_iast hC dX9_carLine_130 rm_7_0_2 rfl rfl g72 rfl (fun h71 => ?_)
                refine aw_aload_n hC dX9_carLine_131 rfl ?_
                refine aw_gfR hC dX9_carLine_132 fg_RX9_20 rfl rfl rm_7_0_0 ?_
                refine aw_iconst hC dX9_carLine_135 (v := 0) (by decide) ?_
                refine aw_dup2 hC dX9_carLine_136 rfl rfl ?_
                refine aw_iald hC dX9_carLine_137 rm_7_0_2 rfl rfl (by decide) (k := 0) (by decide) ?_
                refine aw_iconst hC dX9_carLine_138 (v := 1) (by decide) ?_
                refine aw_iadd hC dX9_carLine_139 ?_
                refine aw_iast hC dX9_carLine_140 rm_7_0_2 rfl rfl (by decide) (k := 0) (by decide) (fun h73 => ?_)
                exact aw_vret hC dX9_carLine_141 rfl rfl
              · exact aw_vret hC dX9_carLine_103 rfl rfl
        · refine aw_aload_n hC dX9_carLine_51 rfl ?_
          refine aw_bind rfl (fun q74 hq74 => ?_)
          refine aw_cVv hC dX9_carLine_52 cv_RX9_177 rfl rm_7_0_0 (am_some (inj := (fun r => (.inr (none), r))) hq74 (A_X9_goOnRead _ (hC.2.2.2.2.2.2.2.2.2.2.2.2.1) _ _ _ h)) rfl rfl rfl rfl rfl ⟨rfl, rfl⟩ ?_
          refine aw_aload_n hC dX9_carLine_55 rfl ?_
          refine aw_bind rfl (fun q75 hq75 => ?_)
          refine aw_cVv hC dX9_carLine_56 cv_RX9_255 rfl rm_7_0_0 (am_some (inj := (fun r => (.inr (none), r))) hq75 (A_X9_mustName _ (hC.2.2.2.2.2.2.2.2.2.2.2.2.1) _ _ _ q74)) rfl rfl rfl rfl rfl ⟨rfl, rfl⟩ ?_
          refine aw_aload_n hC dX9_carLine_59 rfl ?_
          refine aw_cVb hC dX9_carLine_60 cv_RX9_167 rfl rm_7_0_0 (A_X9_isGood _ (hC.2.2.2.2.2.2.2.2.2.2.2.2.1) _ _ _ q75) rfl rfl rfl rfl rfl ⟨rfl, rfl⟩ ?_
          refine aw_if_eq_b hC dX9_carLine_63 (tgt := 83) (by decide) ?_ ?_
          · refine aw_aload_n hC dX9_carLine_83 rfl ?_
            refine aw_bind rfl (fun q76 hq76 => ?_)
            refine aw_cVj hC dX9_carLine_84 cv_RX9_264 rfl rm_7_0_0 (am_some (inj := (fun r => (.inr (some (.long r.1)), r.2))) hq76 (A_X9_nameHere _ (hC.2.2.2.2.2.2.2.2.2.2.2.2.1) _ _ _ q75)) rfl rfl rfl rfl rfl ⟨rfl, rfl⟩ ?_
            refine aw_lstore_n hC dX9_carLine_87 (by decide) ?_
            refine aw_aload_n hC dX9_carLine_88 rfl ?_
            refine aw_iconst hC dX9_carLine_89 (v := 0) (by decide) ?_
            refine aw_iload_n hC dX9_carLine_90 rfl ?_
            refine aw_bind rfl (fun q77 hq77 => ?_)
            refine aw_cVi hC dX9_carLine_91 cv_RX9_268 rfl rm_7_0_0 (am_some (inj := (fun r => (.inr (some (.int r.1)), r.2))) hq77 (A_X9_number _ (hC.2.2.2.2.2.2.2.2.2.2.2.2.1) _ _ _ (0 : Int32) p1 q76.2)) rfl rfl rfl rfl rfl ⟨rfl, rfl⟩ ?_
            refine aw_istore hC dX9_carLine_94 (by decide) ?_
            refine aw_aload_n hC dX9_carLine_96 rfl ?_
            refine aw_cVb hC dX9_carLine_97 cv_RX9_167 rfl rm_7_0_0 (A_X9_isGood _ (hC.2.2.2.2.2.2.2.2.2.2.2.2.1) _ _ _ q77.2) rfl rfl rfl rfl rfl ⟨rfl, rfl⟩ ?_
            refine aw_if_ne_b hC dX9_carLine_100 (tgt := 104) (by decide) ?_ ?_
            · refine aw_aload_n hC dX9_carLine_104 rfl ?_
              refine aw_gfR hC dX9_carLine_105 fg_RX9_35 rfl rfl rm_7_0_0 ?_
              refine aw_aload_n hC dX9_carLine_108 rfl ?_
              refine aw_gfR hC dX9_carLine_109 fg_RX9_20 rfl rfl rm_7_0_0 ?_
              refine aw_iconst hC dX9_carLine_112 (v := 0) (by decide) ?_
              refine aw_iald hC dX9_carLine_113 rm_7_0_2 rfl rfl (by decide) (k := 0) (by decide) ?_
              refine aw_lload_n hC dX9_carLine_114 rfl ?_
              refine aw_guard rfl (fun g79 => ?_)
              refine aw_last hC dX9_carLine_115 rm_7_0_7 rfl rfl g79 rfl (fun h78 => ?_)
              refine aw_aload_n hC dX9_carLine_116 rfl ?_
              refine aw_gfR hC dX9_carLine_117 fg_RX9_20 rfl rfl rm_7_0_0 ?_
              refine aw_iconst hC dX9_carLine_120 (v := 2) (by decide) ?_
              refine aw_aload_n hC dX9_carLine_121 rfl ?_
              refine aw_gfR hC dX9_carLine_122 fg_RX9_20 rfl rfl rm_7_0_0 ?_
              refine aw_iconst hC dX9_carLine_125 (v := 0) (by decide) ?_
              refine aw_iald hC dX9_carLine_126 rm_7_0_2 rfl rfl (by decide) (k := 0) (by decide) ?_
              refine aw_iadd hC dX9_carLine_127 ?_
              refine aw_iload hC dX9_carLine_128 rfl ?_
              refine aw_guard rfl (fun g81 => ?_)
              refine aw_iast hC dX9_carLine_130 rm_7_0_2 rfl rfl g81 rfl (fun h80 => ?_)
              refine aw_aload_n hC dX9_carLine_131 rfl ?_
              refine aw_gfR hC dX9_carLine_132 fg_RX9_20 rfl rfl rm_7_0_0 ?_
              refine aw_iconst hC dX9_carLine_135 (v := 0) (by decide) ?_
              refine aw_dup2 hC dX9_carLine_136 rfl rfl ?_
              refine aw_iald hC dX9_carLine_137 rm_7_0_2 rfl rfl (by decide) (k := 0) (by decide) ?_
              refine aw_iconst hC dX9_carLine_138 (v := 1) (by decide) ?_
              refine aw_iadd hC dX9_carLine_139 ?_
              refine aw_iast hC dX9_carLine_140 rm_7_0_2 rfl rfl (by decide) (k := 0) (by decide) (fun h82 => ?_)
              exact aw_vret hC dX9_carLine_141 rfl rfl
            · exact aw_vret hC dX9_carLine_103 rfl rfl
          · refine aw_aload_n hC dX9_carLine_66 rfl ?_
            refine aw_aload_n hC dX9_carLine_67 rfl ?_
            refine aw_gfJ hC dX9_carLine_68 fg_RX9_147 rfl rm_7_0_0 ?_
            refine aw_bind rfl (fun q83 hq83 => ?_)
            refine aw_cVi hC dX9_carLine_71 cv_RX9_260 rfl rm_7_0_0 (am_some (inj := (fun r => (.inr (some (.int r)), q75))) hq83 (A_X9_carNamed _ (hC.2.2.2.2.2.2.2.2.2.2.2.2.1) _ _ _ (gJ q75 (7, 0, 0) 12) q75)) rfl rfl rfl rfl rfl ⟨rfl, rfl⟩ ?_
            refine aw_iconst hC dX9_carLine_74 (v := -1) (by decide) ?_
            refine aw_icmp_eq hC dX9_carLine_75 (tgt := 83) (by decide) ?_ ?_
            · refine aw_aload_n hC dX9_carLine_83 rfl ?_
              refine aw_bind rfl (fun q84 hq84 => ?_)
              refine aw_cVj hC dX9_carLine_84 cv_RX9_264 rfl rm_7_0_0 (am_some (inj := (fun r => (.inr (some (.long r.1)), r.2))) hq84 (A_X9_nameHere _ (hC.2.2.2.2.2.2.2.2.2.2.2.2.1) _ _ _ q75)) rfl rfl rfl rfl rfl ⟨rfl, rfl⟩ ?_
              refine aw_lstore_n hC dX9_carLine_87 (by decide) ?_
              refine aw_aload_n hC dX9_carLine_88 rfl ?_
              refine aw_iconst hC dX9_carLine_89 (v := 0) (by decide) ?_
              refine aw_iload_n hC dX9_carLine_90 rfl ?_
              refine aw_bind rfl (fun q85 hq85 => ?_)
              refine aw_cVi hC dX9_carLine_91 cv_RX9_268 rfl rm_7_0_0 (am_some (inj := (fun r => (.inr (some (.int r.1)), r.2))) hq85 (A_X9_number _ (hC.2.2.2.2.2.2.2.2.2.2.2.2.1) _ _ _ (0 : Int32) p1 q84.2)) rfl rfl rfl rfl rfl ⟨rfl, rfl⟩ ?_
              refine aw_istore hC dX9_carLine_94 (by decide) ?_
              refine aw_aload_n hC dX9_carLine_96 rfl ?_
              refine aw_cVb hC dX9_carLine_97 cv_RX9_167 rfl rm_7_0_0 (A_X9_isGood _ (hC.2.2.2.2.2.2.2.2.2.2.2.2.1) _ _ _ q85.2) rfl rfl rfl rfl rfl ⟨rfl, rfl⟩ ?_
              refine aw_if_ne_b hC dX9_carLine_100 (tgt := 104) (by decide) ?_ ?_
              · refine aw_aload_n hC dX9_carLine_104 rfl ?_
                refine aw_gfR hC dX9_carLine_105 fg_RX9_35 rfl rfl rm_7_0_0 ?_
                refine aw_aload_n hC dX9_carLine_108 rfl ?_
                refine aw_gfR hC dX9_carLine_109 fg_RX9_20 rfl rfl rm_7_0_0 ?_
                refine aw_iconst hC dX9_carLine_112 (v := 0) (by decide) ?_
                refine aw_iald hC dX9_carLine_113 rm_7_0_2 rfl rfl (by decide) (k := 0) (by decide) ?_
                refine aw_lload_n hC dX9_carLine_114 rfl ?_
                refine aw_guard rfl (fun g87 => ?_)
                refine aw_last hC dX9_carLine_115 rm_7_0_7 rfl rfl g87 rfl (fun h86 => ?_)
                refine aw_aload_n hC dX9_carLine_116 rfl ?_
                refine aw_gfR hC dX9_carLine_117 fg_RX9_20 rfl rfl rm_7_0_0 ?_
                refine aw_iconst hC dX9_carLine_120 (v := 2) (by decide) ?_
                refine aw_aload_n hC dX9_carLine_121 rfl ?_
                refine aw_gfR hC dX9_carLine_122 fg_RX9_20 rfl rfl rm_7_0_0 ?_
                refine aw_iconst hC dX9_carLine_125 (v := 0) (by decide) ?_
                refine aw_iald hC dX9_carLine_126 rm_7_0_2 rfl rfl (by decide) (k := 0) (by decide) ?_
                refine aw_iadd hC dX9_carLine_127 ?_
                refine aw_iload hC dX9_carLine_128 rfl ?_
                refine aw_guard rfl (fun g89 => ?_)
                refine aw_iast hC dX9_carLine_130 rm_7_0_2 rfl rfl g89 rfl (fun h88 => ?_)
                refine aw_aload_n hC dX9_carLine_131 rfl ?_
                refine aw_gfR hC dX9_carLine_132 fg_RX9_20 rfl rfl rm_7_0_0 ?_
                refine aw_iconst hC dX9_carLine_135 (v := 0) (by decide) ?_
                refine aw_dup2 hC dX9_carLine_136 rfl rfl ?_
                refine aw_iald hC dX9_carLine_137 rm_7_0_2 rfl rfl (by decide) (k := 0) (by decide) ?_
                refine aw_iconst hC dX9_carLine_138 (v := 1) (by decide) ?_
                refine aw_iadd hC dX9_carLine_139 ?_
                refine aw_iast hC dX9_carLine_140 rm_7_0_2 rfl rfl (by decide) (k := 0) (by decide) (fun h90 => ?_)
                exact aw_vret hC dX9_carLine_141 rfl rfl
              · exact aw_vret hC dX9_carLine_103 rfl rfl
            · refine aw_aload_n hC dX9_carLine_78 rfl ?_
              refine aw_iconst hC dX9_carLine_79 (v := 3) (by decide) ?_
              refine aw_bind rfl (fun q91 hq91 => ?_)
              refine aw_cVv hC dX9_carLine_80 cv_RX9_174 rfl rm_7_0_0 (am_some (inj := (fun r => (.inr (none), r))) hq91 (A_X9_wrong _ (hC.2.2.2.2.2.2.2.2.2.2.2.2.1) _ _ _ (3 : Int32) q75)) rfl rfl rfl rfl rfl ⟨rfl, rfl⟩ ?_
              refine aw_aload_n hC dX9_carLine_83 rfl ?_
              refine aw_bind rfl (fun q92 hq92 => ?_)
              refine aw_cVj hC dX9_carLine_84 cv_RX9_264 rfl rm_7_0_0 (am_some (inj := (fun r => (.inr (some (.long r.1)), r.2))) hq92 (A_X9_nameHere _ (hC.2.2.2.2.2.2.2.2.2.2.2.2.1) _ _ _ q91)) rfl rfl rfl rfl rfl ⟨rfl, rfl⟩ ?_
              refine aw_lstore_n hC dX9_carLine_87 (by decide) ?_
              refine aw_aload_n hC dX9_carLine_88 rfl ?_
              refine aw_iconst hC dX9_carLine_89 (v := 0) (by decide) ?_
              refine aw_iload_n hC dX9_carLine_90 rfl ?_
              refine aw_bind rfl (fun q93 hq93 => ?_)
              refine aw_cVi hC dX9_carLine_91 cv_RX9_268 rfl rm_7_0_0 (am_some (inj := (fun r => (.inr (some (.int r.1)), r.2))) hq93 (A_X9_number _ (hC.2.2.2.2.2.2.2.2.2.2.2.2.1) _ _ _ (0 : Int32) p1 q92.2)) rfl rfl rfl rfl rfl ⟨rfl, rfl⟩ ?_
              refine aw_istore hC dX9_carLine_94 (by decide) ?_
              refine aw_aload_n hC dX9_carLine_96 rfl ?_
              refine aw_cVb hC dX9_carLine_97 cv_RX9_167 rfl rm_7_0_0 (A_X9_isGood _ (hC.2.2.2.2.2.2.2.2.2.2.2.2.1) _ _ _ q93.2) rfl rfl rfl rfl rfl ⟨rfl, rfl⟩ ?_
              refine aw_if_ne_b hC dX9_carLine_100 (tgt := 104) (by decide) ?_ ?_
              · refine aw_aload_n hC dX9_carLine_104 rfl ?_
                refine aw_gfR hC dX9_carLine_105 fg_RX9_35 rfl rfl rm_7_0_0 ?_
                refine aw_aload_n hC dX9_carLine_108 rfl ?_
                refine aw_gfR hC dX9_carLine_109 fg_RX9_20 rfl rfl rm_7_0_0 ?_
                refine aw_iconst hC dX9_carLine_112 (v := 0) (by decide) ?_
                refine aw_iald hC dX9_carLine_113 rm_7_0_2 rfl rfl (by decide) (k := 0) (by decide) ?_
                refine aw_lload_n hC dX9_carLine_114 rfl ?_
                refine aw_guard rfl (fun g95 => ?_)
                refine aw_last hC dX9_carLine_115 rm_7_0_7 rfl rfl g95 rfl (fun h94 => ?_)
                refine aw_aload_n hC dX9_carLine_116 rfl ?_
                refine aw_gfR hC dX9_carLine_117 fg_RX9_20 rfl rfl rm_7_0_0 ?_
                refine aw_iconst hC dX9_carLine_120 (v := 2) (by decide) ?_
                refine aw_aload_n hC dX9_carLine_121 rfl ?_
                refine aw_gfR hC dX9_carLine_122 fg_RX9_20 rfl rfl rm_7_0_0 ?_
                refine aw_iconst hC dX9_carLine_125 (v := 0) (by decide) ?_
                refine aw_iald hC dX9_carLine_126 rm_7_0_2 rfl rfl (by decide) (k := 0) (by decide) ?_
                refine aw_iadd hC dX9_carLine_127 ?_
                refine aw_iload hC dX9_carLine_128 rfl ?_
                refine aw_guard rfl (fun g97 => ?_)
                refine aw_iast hC dX9_carLine_130 rm_7_0_2 rfl rfl g97 rfl (fun h96 => ?_)
                refine aw_aload_n hC dX9_carLine_131 rfl ?_
                refine aw_gfR hC dX9_carLine_132 fg_RX9_20 rfl rfl rm_7_0_0 ?_
                refine aw_iconst hC dX9_carLine_135 (v := 0) (by decide) ?_
                refine aw_dup2 hC dX9_carLine_136 rfl rfl ?_
                refine aw_iald hC dX9_carLine_137 rm_7_0_2 rfl rfl (by decide) (k := 0) (by decide) ?_
                refine aw_iconst hC dX9_carLine_138 (v := 1) (by decide) ?_
                refine aw_iadd hC dX9_carLine_139 ?_
                refine aw_iast hC dX9_carLine_140 rm_7_0_2 rfl rfl (by decide) (k := 0) (by decide) (fun h98 => ?_)
                exact aw_vret hC dX9_carLine_141 rfl rfl
              · exact aw_vret hC dX9_carLine_103 rfl rfl
      · refine aw_aload_n hC dX9_carLine_39 rfl ?_
        refine aw_iconst hC dX9_carLine_40 (v := 5) (by decide) ?_
        refine aw_bind rfl (fun q99 hq99 => ?_)
        refine aw_cVv hC dX9_carLine_41 cv_RX9_174 rfl rm_7_0_0 (am_some (inj := (fun r => (.inr (none), r))) hq99 (A_X9_wrong _ (hC.2.2.2.2.2.2.2.2.2.2.2.2.1) _ _ _ (5 : Int32) h)) rfl rfl rfl rfl rfl ⟨rfl, rfl⟩ ?_
        refine aw_aload_n hC dX9_carLine_44 rfl ?_
        refine aw_cVb hC dX9_carLine_45 cv_RX9_167 rfl rm_7_0_0 (A_X9_isGood _ (hC.2.2.2.2.2.2.2.2.2.2.2.2.1) _ _ _ q99) rfl rfl rfl rfl rfl ⟨rfl, rfl⟩ ?_
        refine aw_if_eq_b hC dX9_carLine_48 (tgt := 55) (by decide) ?_ ?_
        · refine aw_aload_n hC dX9_carLine_55 rfl ?_
          refine aw_bind rfl (fun q100 hq100 => ?_)
          refine aw_cVv hC dX9_carLine_56 cv_RX9_255 rfl rm_7_0_0 (am_some (inj := (fun r => (.inr (none), r))) hq100 (A_X9_mustName _ (hC.2.2.2.2.2.2.2.2.2.2.2.2.1) _ _ _ q99)) rfl rfl rfl rfl rfl ⟨rfl, rfl⟩ ?_
          refine aw_aload_n hC dX9_carLine_59 rfl ?_
          refine aw_cVb hC dX9_carLine_60 cv_RX9_167 rfl rm_7_0_0 (A_X9_isGood _ (hC.2.2.2.2.2.2.2.2.2.2.2.2.1) _ _ _ q100) rfl rfl rfl rfl rfl ⟨rfl, rfl⟩ ?_
          refine aw_if_eq_b hC dX9_carLine_63 (tgt := 83) (by decide) ?_ ?_
          · refine aw_aload_n hC dX9_carLine_83 rfl ?_
            refine aw_bind rfl (fun q101 hq101 => ?_)
            refine aw_cVj hC dX9_carLine_84 cv_RX9_264 rfl rm_7_0_0 (am_some (inj := (fun r => (.inr (some (.long r.1)), r.2))) hq101 (A_X9_nameHere _ (hC.2.2.2.2.2.2.2.2.2.2.2.2.1) _ _ _ q100)) rfl rfl rfl rfl rfl ⟨rfl, rfl⟩ ?_
            refine aw_lstore_n hC dX9_carLine_87 (by decide) ?_
            refine aw_aload_n hC dX9_carLine_88 rfl ?_
            refine aw_iconst hC dX9_carLine_89 (v := 0) (by decide) ?_
            refine aw_iload_n hC dX9_carLine_90 rfl ?_
            refine aw_bind rfl (fun q102 hq102 => ?_)
            refine aw_cVi hC dX9_carLine_91 cv_RX9_268 rfl rm_7_0_0 (am_some (inj := (fun r => (.inr (some (.int r.1)), r.2))) hq102 (A_X9_number _ (hC.2.2.2.2.2.2.2.2.2.2.2.2.1) _ _ _ (0 : Int32) p1 q101.2)) rfl rfl rfl rfl rfl ⟨rfl, rfl⟩ ?_
            refine aw_istore hC dX9_carLine_94 (by decide) ?_
            refine aw_aload_n hC dX9_carLine_96 rfl ?_
            refine aw_cVb hC dX9_carLine_97 cv_RX9_167 rfl rm_7_0_0 (A_X9_isGood _ (hC.2.2.2.2.2.2.2.2.2.2.2.2.1) _ _ _ q102.2) rfl rfl rfl rfl rfl ⟨rfl, rfl⟩ ?_
            refine aw_if_ne_b hC dX9_carLine_100 (tgt := 104) (by decide) ?_ ?_
            · refine aw_aload_n hC dX9_carLine_104 rfl ?_
              refine aw_gfR hC dX9_carLine_105 fg_RX9_35 rfl rfl rm_7_0_0 ?_
              refine aw_aload_n hC dX9_carLine_108 rfl ?_
              refine aw_gfR hC dX9_carLine_109 fg_RX9_20 rfl rfl rm_7_0_0 ?_
              refine aw_iconst hC dX9_carLine_112 (v := 0) (by decide) ?_
              refine aw_iald hC dX9_carLine_113 rm_7_0_2 rfl rfl (by decide) (k := 0) (by decide) ?_
              refine aw_lload_n hC dX9_carLine_114 rfl ?_
              refine aw_guard rfl (fun g104 => ?_)
              refine aw_last hC dX9_carLine_115 rm_7_0_7 rfl rfl g104 rfl (fun h103 => ?_)
              refine aw_aload_n hC dX9_carLine_116 rfl ?_
              refine aw_gfR hC dX9_carLine_117 fg_RX9_20 rfl rfl rm_7_0_0 ?_
              refine aw_iconst hC dX9_carLine_120 (v := 2) (by decide) ?_
              refine aw_aload_n hC dX9_carLine_121 rfl ?_
              refine aw_gfR hC dX9_carLine_122 fg_RX9_20 rfl rfl rm_7_0_0 ?_
              refine aw_iconst hC dX9_carLine_125 (v := 0) (by decide) ?_
              refine aw_iald hC dX9_carLine_126 rm_7_0_2 rfl rfl (by decide) (k := 0) (by decide) ?_
              refine aw_iadd hC dX9_carLine_127 ?_
              refine aw_iload hC dX9_carLine_128 rfl ?_
              refine aw_guard rfl (fun g106 => ?_)
              refine aw_iast hC dX9_carLine_130 rm_7_0_2 rfl rfl g106 rfl (fun h105 => ?_)
              refine aw_aload_n hC dX9_carLine_131 rfl ?_
              refine aw_gfR hC dX9_carLine_132 fg_RX9_20 rfl rfl rm_7_0_0 ?_
              refine aw_iconst hC dX9_carLine_135 (v := 0) (by decide) ?_
              refine aw_dup2 hC dX9_carLine_136 rfl rfl ?_
              refine aw_iald hC dX9_carLine_137 rm_7_0_2 rfl rfl (by decide) (k := 0) (by decide) ?_
              refine aw_iconst hC dX9_carLine_138 (v := 1) (by decide) ?_
              refine aw_iadd hC dX9_carLine_139 ?_
              refine aw_iast hC dX9_carLine_140 rm_7_0_2 rfl rfl (by decide) (k := 0) (by decide) (fun h107 => ?_)
              exact aw_vret hC dX9_carLine_141 rfl rfl
            · exact aw_vret hC dX9_carLine_103 rfl rfl
          · refine aw_aload_n hC dX9_carLine_66 rfl ?_
            refine aw_aload_n hC dX9_carLine_67 rfl ?_
            refine aw_gfJ hC dX9_carLine_68 fg_RX9_147 rfl rm_7_0_0 ?_
            refine aw_bind rfl (fun q108 hq108 => ?_)
            refine aw_cVi hC dX9_carLine_71 cv_RX9_260 rfl rm_7_0_0 (am_some (inj := (fun r => (.inr (some (.int r)), q100))) hq108 (A_X9_carNamed _ (hC.2.2.2.2.2.2.2.2.2.2.2.2.1) _ _ _ (gJ q100 (7, 0, 0) 12) q100)) rfl rfl rfl rfl rfl ⟨rfl, rfl⟩ ?_
            refine aw_iconst hC dX9_carLine_74 (v := -1) (by decide) ?_
            refine aw_icmp_eq hC dX9_carLine_75 (tgt := 83) (by decide) ?_ ?_
            · refine aw_aload_n hC dX9_carLine_83 rfl ?_
              refine aw_bind rfl (fun q109 hq109 => ?_)
              refine aw_cVj hC dX9_carLine_84 cv_RX9_264 rfl rm_7_0_0 (am_some (inj := (fun r => (.inr (some (.long r.1)), r.2))) hq109 (A_X9_nameHere _ (hC.2.2.2.2.2.2.2.2.2.2.2.2.1) _ _ _ q100)) rfl rfl rfl rfl rfl ⟨rfl, rfl⟩ ?_
              refine aw_lstore_n hC dX9_carLine_87 (by decide) ?_
              refine aw_aload_n hC dX9_carLine_88 rfl ?_
              refine aw_iconst hC dX9_carLine_89 (v := 0) (by decide) ?_
              refine aw_iload_n hC dX9_carLine_90 rfl ?_
              refine aw_bind rfl (fun q110 hq110 => ?_)
              refine aw_cVi hC dX9_carLine_91 cv_RX9_268 rfl rm_7_0_0 (am_some (inj := (fun r => (.inr (some (.int r.1)), r.2))) hq110 (A_X9_number _ (hC.2.2.2.2.2.2.2.2.2.2.2.2.1) _ _ _ (0 : Int32) p1 q109.2)) rfl rfl rfl rfl rfl ⟨rfl, rfl⟩ ?_
              refine aw_istore hC dX9_carLine_94 (by decide) ?_
              refine aw_aload_n hC dX9_carLine_96 rfl ?_
              refine aw_cVb hC dX9_carLine_97 cv_RX9_167 rfl rm_7_0_0 (A_X9_isGood _ (hC.2.2.2.2.2.2.2.2.2.2.2.2.1) _ _ _ q110.2) rfl rfl rfl rfl rfl ⟨rfl, rfl⟩ ?_
              refine aw_if_ne_b hC dX9_carLine_100 (tgt := 104) (by decide) ?_ ?_
              · refine aw_aload_n hC dX9_carLine_104 rfl ?_
                refine aw_gfR hC dX9_carLine_105 fg_RX9_35 rfl rfl rm_7_0_0 ?_
                refine aw_aload_n hC dX9_carLine_108 rfl ?_
                refine aw_gfR hC dX9_carLine_109 fg_RX9_20 rfl rfl rm_7_0_0 ?_
                refine aw_iconst hC dX9_carLine_112 (v := 0) (by decide) ?_
                refine aw_iald hC dX9_carLine_113 rm_7_0_2 rfl rfl (by decide) (k := 0) (by decide) ?_
                refine aw_lload_n hC dX9_carLine_114 rfl ?_
                refine aw_guard rfl (fun g112 => ?_)
                refine aw_last hC dX9_carLine_115 rm_7_0_7 rfl rfl g112 rfl (fun h111 => ?_)
                refine aw_aload_n hC dX9_carLine_116 rfl ?_
                refine aw_gfR hC dX9_carLine_117 fg_RX9_20 rfl rfl rm_7_0_0 ?_
                refine aw_iconst hC dX9_carLine_120 (v := 2) (by decide) ?_
                refine aw_aload_n hC dX9_carLine_121 rfl ?_
                refine aw_gfR hC dX9_carLine_122 fg_RX9_20 rfl rfl rm_7_0_0 ?_
                refine aw_iconst hC dX9_carLine_125 (v := 0) (by decide) ?_
                refine aw_iald hC dX9_carLine_126 rm_7_0_2 rfl rfl (by decide) (k := 0) (by decide) ?_
                refine aw_iadd hC dX9_carLine_127 ?_
                refine aw_iload hC dX9_carLine_128 rfl ?_
                refine aw_guard rfl (fun g114 => ?_)
                refine aw_iast hC dX9_carLine_130 rm_7_0_2 rfl rfl g114 rfl (fun h113 => ?_)
                refine aw_aload_n hC dX9_carLine_131 rfl ?_
                refine aw_gfR hC dX9_carLine_132 fg_RX9_20 rfl rfl rm_7_0_0 ?_
                refine aw_iconst hC dX9_carLine_135 (v := 0) (by decide) ?_
                refine aw_dup2 hC dX9_carLine_136 rfl rfl ?_
                refine aw_iald hC dX9_carLine_137 rm_7_0_2 rfl rfl (by decide) (k := 0) (by decide) ?_
                refine aw_iconst hC dX9_carLine_138 (v := 1) (by decide) ?_
                refine aw_iadd hC dX9_carLine_139 ?_
                refine aw_iast hC dX9_carLine_140 rm_7_0_2 rfl rfl (by decide) (k := 0) (by decide) (fun h115 => ?_)
                exact aw_vret hC dX9_carLine_141 rfl rfl
              · exact aw_vret hC dX9_carLine_103 rfl rfl
            · refine aw_aload_n hC dX9_carLine_78 rfl ?_
              refine aw_iconst hC dX9_carLine_79 (v := 3) (by decide) ?_
              refine aw_bind rfl (fun q116 hq116 => ?_)
              refine aw_cVv hC dX9_carLine_80 cv_RX9_174 rfl rm_7_0_0 (am_some (inj := (fun r => (.inr (none), r))) hq116 (A_X9_wrong _ (hC.2.2.2.2.2.2.2.2.2.2.2.2.1) _ _ _ (3 : Int32) q100)) rfl rfl rfl rfl rfl ⟨rfl, rfl⟩ ?_
              refine aw_aload_n hC dX9_carLine_83 rfl ?_
              refine aw_bind rfl (fun q117 hq117 => ?_)
              refine aw_cVj hC dX9_carLine_84 cv_RX9_264 rfl rm_7_0_0 (am_some (inj := (fun r => (.inr (some (.long r.1)), r.2))) hq117 (A_X9_nameHere _ (hC.2.2.2.2.2.2.2.2.2.2.2.2.1) _ _ _ q116)) rfl rfl rfl rfl rfl ⟨rfl, rfl⟩ ?_
              refine aw_lstore_n hC dX9_carLine_87 (by decide) ?_
              refine aw_aload_n hC dX9_carLine_88 rfl ?_
              refine aw_iconst hC dX9_carLine_89 (v := 0) (by decide) ?_
              refine aw_iload_n hC dX9_carLine_90 rfl ?_
              refine aw_bind rfl (fun q118 hq118 => ?_)
              refine aw_cVi hC dX9_carLine_91 cv_RX9_268 rfl rm_7_0_0 (am_some (inj := (fun r => (.inr (some (.int r.1)), r.2))) hq118 (A_X9_number _ (hC.2.2.2.2.2.2.2.2.2.2.2.2.1) _ _ _ (0 : Int32) p1 q117.2)) rfl rfl rfl rfl rfl ⟨rfl, rfl⟩ ?_
              refine aw_istore hC dX9_carLine_94 (by decide) ?_
              refine aw_aload_n hC dX9_carLine_96 rfl ?_
              refine aw_cVb hC dX9_carLine_97 cv_RX9_167 rfl rm_7_0_0 (A_X9_isGood _ (hC.2.2.2.2.2.2.2.2.2.2.2.2.1) _ _ _ q118.2) rfl rfl rfl rfl rfl ⟨rfl, rfl⟩ ?_
              refine aw_if_ne_b hC dX9_carLine_100 (tgt := 104) (by decide) ?_ ?_
              · refine aw_aload_n hC dX9_carLine_104 rfl ?_
                refine aw_gfR hC dX9_carLine_105 fg_RX9_35 rfl rfl rm_7_0_0 ?_
                refine aw_aload_n hC dX9_carLine_108 rfl ?_
                refine aw_gfR hC dX9_carLine_109 fg_RX9_20 rfl rfl rm_7_0_0 ?_
                refine aw_iconst hC dX9_carLine_112 (v := 0) (by decide) ?_
                refine aw_iald hC dX9_carLine_113 rm_7_0_2 rfl rfl (by decide) (k := 0) (by decide) ?_
                refine aw_lload_n hC dX9_carLine_114 rfl ?_
                refine aw_guard rfl (fun g120 => ?_)
                refine aw_last hC dX9_carLine_115 rm_7_0_7 rfl rfl g120 rfl (fun h119 => ?_)
                refine aw_aload_n hC dX9_carLine_116 rfl ?_
                refine aw_gfR hC dX9_carLine_117 fg_RX9_20 rfl rfl rm_7_0_0 ?_
                refine aw_iconst hC dX9_carLine_120 (v := 2) (by decide) ?_
                refine aw_aload_n hC dX9_carLine_121 rfl ?_
                refine aw_gfR hC dX9_carLine_122 fg_RX9_20 rfl rfl rm_7_0_0 ?_
                refine aw_iconst hC dX9_carLine_125 (v := 0) (by decide) ?_
                refine aw_iald hC dX9_carLine_126 rm_7_0_2 rfl rfl (by decide) (k := 0) (by decide) ?_
                refine aw_iadd hC dX9_carLine_127 ?_
                refine aw_iload hC dX9_carLine_128 rfl ?_
                refine aw_guard rfl (fun g122 => ?_)
                refine aw_iast hC dX9_carLine_130 rm_7_0_2 rfl rfl g122 rfl (fun h121 => ?_)
                refine aw_aload_n hC dX9_carLine_131 rfl ?_
                refine aw_gfR hC dX9_carLine_132 fg_RX9_20 rfl rfl rm_7_0_0 ?_
                refine aw_iconst hC dX9_carLine_135 (v := 0) (by decide) ?_
                refine aw_dup2 hC dX9_carLine_136 rfl rfl ?_
                refine aw_iald hC dX9_carLine_137 rm_7_0_2 rfl rfl (by decide) (k := 0) (by decide) ?_
                refine aw_iconst hC dX9_carLine_138 (v := 1) (by decide) ?_
                refine aw_iadd hC dX9_carLine_139 ?_
                refine aw_iast hC dX9_carLine_140 rm_7_0_2 rfl rfl (by decide) (k := 0) (by decide) (fun h123 => ?_)
                exact aw_vret hC dX9_carLine_141 rfl rfl
              · exact aw_vret hC dX9_carLine_103 rfl rfl
        · refine aw_aload_n hC dX9_carLine_51 rfl ?_
          refine aw_bind rfl (fun q124 hq124 => ?_)
          refine aw_cVv hC dX9_carLine_52 cv_RX9_177 rfl rm_7_0_0 (am_some (inj := (fun r => (.inr (none), r))) hq124 (A_X9_goOnRead _ (hC.2.2.2.2.2.2.2.2.2.2.2.2.1) _ _ _ q99)) rfl rfl rfl rfl rfl ⟨rfl, rfl⟩ ?_
          refine aw_aload_n hC dX9_carLine_55 rfl ?_
          refine aw_bind rfl (fun q125 hq125 => ?_)
          refine aw_cVv hC dX9_carLine_56 cv_RX9_255 rfl rm_7_0_0 (am_some (inj := (fun r => (.inr (none), r))) hq125 (A_X9_mustName _ (hC.2.2.2.2.2.2.2.2.2.2.2.2.1) _ _ _ q124)) rfl rfl rfl rfl rfl ⟨rfl, rfl⟩ ?_
          refine aw_aload_n hC dX9_carLine_59 rfl ?_
          refine aw_cVb hC dX9_carLine_60 cv_RX9_167 rfl rm_7_0_0 (A_X9_isGood _ (hC.2.2.2.2.2.2.2.2.2.2.2.2.1) _ _ _ q125) rfl rfl rfl rfl rfl ⟨rfl, rfl⟩ ?_
          refine aw_if_eq_b hC dX9_carLine_63 (tgt := 83) (by decide) ?_ ?_
          · refine aw_aload_n hC dX9_carLine_83 rfl ?_
            refine aw_bind rfl (fun q126 hq126 => ?_)
            refine aw_cVj hC dX9_carLine_84 cv_RX9_264 rfl rm_7_0_0 (am_some (inj := (fun r => (.inr (some (.long r.1)), r.2))) hq126 (A_X9_nameHere _ (hC.2.2.2.2.2.2.2.2.2.2.2.2.1) _ _ _ q125)) rfl rfl rfl rfl rfl ⟨rfl, rfl⟩ ?_
            refine aw_lstore_n hC dX9_carLine_87 (by decide) ?_
            refine aw_aload_n hC dX9_carLine_88 rfl ?_
            refine aw_iconst hC dX9_carLine_89 (v := 0) (by decide) ?_
            refine aw_iload_n hC dX9_carLine_90 rfl ?_
            refine aw_bind rfl (fun q127 hq127 => ?_)
            refine aw_cVi hC dX9_carLine_91 cv_RX9_268 rfl rm_7_0_0 (am_some (inj := (fun r => (.inr (some (.int r.1)), r.2))) hq127 (A_X9_number _ (hC.2.2.2.2.2.2.2.2.2.2.2.2.1) _ _ _ (0 : Int32) p1 q126.2)) rfl rfl rfl rfl rfl ⟨rfl, rfl⟩ ?_
            refine aw_istore hC dX9_carLine_94 (by decide) ?_
            refine aw_aload_n hC dX9_carLine_96 rfl ?_
            refine aw_cVb hC dX9_carLine_97 cv_RX9_167 rfl rm_7_0_0 (A_X9_isGood _ (hC.2.2.2.2.2.2.2.2.2.2.2.2.1) _ _ _ q127.2) rfl rfl rfl rfl rfl ⟨rfl, rfl⟩ ?_
            refine aw_if_ne_b hC dX9_carLine_100 (tgt := 104) (by decide) ?_ ?_
            · refine aw_aload_n hC dX9_carLine_104 rfl ?_
              refine aw_gfR hC dX9_carLine_105 fg_RX9_35 rfl rfl rm_7_0_0 ?_
              refine aw_aload_n hC dX9_carLine_108 rfl ?_
              refine aw_gfR hC dX9_carLine_109 fg_RX9_20 rfl rfl rm_7_0_0 ?_
              refine aw_iconst hC dX9_carLine_112 (v := 0) (by decide) ?_
              refine aw_iald hC dX9_carLine_113 rm_7_0_2 rfl rfl (by decide) (k := 0) (by decide) ?_
              refine aw_lload_n hC dX9_carLine_114 rfl ?_
              refine aw_guard rfl (fun g129 => ?_)
              refine aw_last hC dX9_carLine_115 rm_7_0_7 rfl rfl g129 rfl (fun h128 => ?_)
              refine aw_aload_n hC dX9_carLine_116 rfl ?_
              refine aw_gfR hC dX9_carLine_117 fg_RX9_20 rfl rfl rm_7_0_0 ?_
              refine aw_iconst hC dX9_carLine_120 (v := 2) (by decide) ?_
              refine aw_aload_n hC dX9_carLine_121 rfl ?_
              refine aw_gfR hC dX9_carLine_122 fg_RX9_20 rfl rfl rm_7_0_0 ?_
              refine aw_iconst hC dX9_carLine_125 (v := 0) (by decide) ?_
              refine aw_iald hC dX9_carLine_126 rm_7_0_2 rfl rfl (by decide) (k := 0) (by decide) ?_
              refine aw_iadd hC dX9_carLine_127 ?_
              refine aw_iload hC dX9_carLine_128 rfl ?_
              refine aw_guard rfl (fun g131 => ?_)
              refine aw_iast hC dX9_carLine_130 rm_7_0_2 rfl rfl g131 rfl (fun h130 => ?_)
              refine aw_aload_n hC dX9_carLine_131 rfl ?_
              refine aw_gfR hC dX9_carLine_132 fg_RX9_20 rfl rfl rm_7_0_0 ?_
              refine aw_iconst hC dX9_carLine_135 (v := 0) (by decide) ?_
              refine aw_dup2 hC dX9_carLine_136 rfl rfl ?_
              refine aw_iald hC dX9_carLine_137 rm_7_0_2 rfl rfl (by decide) (k := 0) (by decide) ?_
              refine aw_iconst hC dX9_carLine_138 (v := 1) (by decide) ?_
              refine aw_iadd hC dX9_carLine_139 ?_
              refine aw_iast hC dX9_carLine_140 rm_7_0_2 rfl rfl (by decide) (k := 0) (by decide) (fun h132 => ?_)
              exact aw_vret hC dX9_carLine_141 rfl rfl
            · exact aw_vret hC dX9_carLine_103 rfl rfl
          · refine aw_aload_n hC dX9_carLine_66 rfl ?_
            refine aw_aload_n hC dX9_carLine_67 rfl ?_
            refine aw_gfJ hC dX9_carLine_68 fg_RX9_147 rfl rm_7_0_0 ?_
            refine aw_bind rfl (fun q133 hq133 => ?_)
            refine aw_cVi hC dX9_carLine_71 cv_RX9_260 rfl rm_7_0_0 (am_some (inj := (fun r => (.inr (some (.int r)), q125))) hq133 (A_X9_carNamed _ (hC.2.2.2.2.2.2.2.2.2.2.2.2.1) _ _ _ (gJ q125 (7, 0, 0) 12) q125)) rfl rfl rfl rfl rfl ⟨rfl, rfl⟩ ?_
            refine aw_iconst hC dX9_carLine_74 (v := -1) (by decide) ?_
            refine aw_icmp_eq hC dX9_carLine_75 (tgt := 83) (by decide) ?_ ?_
            · refine aw_aload_n hC dX9_carLine_83 rfl ?_
              refine aw_bind rfl (fun q134 hq134 => ?_)
              refine aw_cVj hC dX9_carLine_84 cv_RX9_264 rfl rm_7_0_0 (am_some (inj := (fun r => (.inr (some (.long r.1)), r.2))) hq134 (A_X9_nameHere _ (hC.2.2.2.2.2.2.2.2.2.2.2.2.1) _ _ _ q125)) rfl rfl rfl rfl rfl ⟨rfl, rfl⟩ ?_
              refine aw_lstore_n hC dX9_carLine_87 (by decide) ?_
              refine aw_aload_n hC dX9_carLine_88 rfl ?_
              refine aw_iconst hC dX9_carLine_89 (v := 0) (by decide) ?_
              refine aw_iload_n hC dX9_carLine_90 rfl ?_
              refine aw_bind rfl (fun q135 hq135 => ?_)
              refine aw_cVi hC dX9_carLine_91 cv_RX9_268 rfl rm_7_0_0 (am_some (inj := (fun r => (.inr (some (.int r.1)), r.2))) hq135 (A_X9_number _ (hC.2.2.2.2.2.2.2.2.2.2.2.2.1) _ _ _ (0 : Int32) p1 q134.2)) rfl rfl rfl rfl rfl ⟨rfl, rfl⟩ ?_
              refine aw_istore hC dX9_carLine_94 (by decide) ?_
              refine aw_aload_n hC dX9_carLine_96 rfl ?_
              refine aw_cVb hC dX9_carLine_97 cv_RX9_167 rfl rm_7_0_0 (A_X9_isGood _ (hC.2.2.2.2.2.2.2.2.2.2.2.2.1) _ _ _ q135.2) rfl rfl rfl rfl rfl ⟨rfl, rfl⟩ ?_
              refine aw_if_ne_b hC dX9_carLine_100 (tgt := 104) (by decide) ?_ ?_
              · refine aw_aload_n hC dX9_carLine_104 rfl ?_
                refine aw_gfR hC dX9_carLine_105 fg_RX9_35 rfl rfl rm_7_0_0 ?_
                refine aw_aload_n hC dX9_carLine_108 rfl ?_
                refine aw_gfR hC dX9_carLine_109 fg_RX9_20 rfl rfl rm_7_0_0 ?_
                refine aw_iconst hC dX9_carLine_112 (v := 0) (by decide) ?_
                refine aw_iald hC dX9_carLine_113 rm_7_0_2 rfl rfl (by decide) (k := 0) (by decide) ?_
                refine aw_lload_n hC dX9_carLine_114 rfl ?_
                refine aw_guard rfl (fun g137 => ?_)
                refine aw_last hC dX9_carLine_115 rm_7_0_7 rfl rfl g137 rfl (fun h136 => ?_)
                refine aw_aload_n hC dX9_carLine_116 rfl ?_
                refine aw_gfR hC dX9_carLine_117 fg_RX9_20 rfl rfl rm_7_0_0 ?_
                refine aw_iconst hC dX9_carLine_120 (v := 2) (by decide) ?_
                refine aw_aload_n hC dX9_carLine_121 rfl ?_
                refine aw_gfR hC dX9_carLine_122 fg_RX9_20 rfl rfl rm_7_0_0 ?_
                refine aw_iconst hC dX9_carLine_125 (v := 0) (by decide) ?_
                refine aw_iald hC dX9_carLine_126 rm_7_0_2 rfl rfl (by decide) (k := 0) (by decide) ?_
                refine aw_iadd hC dX9_carLine_127 ?_
                refine aw_iload hC dX9_carLine_128 rfl ?_
                refine aw_guard rfl (fun g139 => ?_)
                refine aw_iast hC dX9_carLine_130 rm_7_0_2 rfl rfl g139 rfl (fun h138 => ?_)
                refine aw_aload_n hC dX9_carLine_131 rfl ?_
                refine aw_gfR hC dX9_carLine_132 fg_RX9_20 rfl rfl rm_7_0_0 ?_
                refine aw_iconst hC dX9_carLine_135 (v := 0) (by decide) ?_
                refine aw_dup2 hC dX9_carLine_136 rfl rfl ?_
                refine aw_iald hC dX9_carLine_137 rm_7_0_2 rfl rfl (by decide) (k := 0) (by decide) ?_
                refine aw_iconst hC dX9_carLine_138 (v := 1) (by decide) ?_
                refine aw_iadd hC dX9_carLine_139 ?_
                refine aw_iast hC dX9_carLine_140 rm_7_0_2 rfl rfl (by decide) (k := 0) (by decide) (fun h140 => ?_)
                exact aw_vret hC dX9_carLine_141 rfl rfl
              · exact aw_vret hC dX9_carLine_103 rfl rfl
            · refine aw_aload_n hC dX9_carLine_78 rfl ?_
              refine aw_iconst hC dX9_carLine_79 (v := 3) (by decide) ?_
              refine aw_bind rfl (fun q141 hq141 => ?_)
              refine aw_cVv hC dX9_carLine_80 cv_RX9_174 rfl rm_7_0_0 (am_some (inj := (fun r => (.inr (none), r))) hq141 (A_X9_wrong _ (hC.2.2.2.2.2.2.2.2.2.2.2.2.1) _ _ _ (3 : Int32) q125)) rfl rfl rfl rfl rfl ⟨rfl, rfl⟩ ?_
              refine aw_aload_n hC dX9_carLine_83 rfl ?_
              refine aw_bind rfl (fun q142 hq142 => ?_)
              refine aw_cVj hC dX9_carLine_84 cv_RX9_264 rfl rm_7_0_0 (am_some (inj := (fun r => (.inr (some (.long r.1)), r.2))) hq142 (A_X9_nameHere _ (hC.2.2.2.2.2.2.2.2.2.2.2.2.1) _ _ _ q141)) rfl rfl rfl rfl rfl ⟨rfl, rfl⟩ ?_
              refine aw_lstore_n hC dX9_carLine_87 (by decide) ?_
              refine aw_aload_n hC dX9_carLine_88 rfl ?_
              refine aw_iconst hC dX9_carLine_89 (v := 0) (by decide) ?_
              refine aw_iload_n hC dX9_carLine_90 rfl ?_
              refine aw_bind rfl (fun q143 hq143 => ?_)
              refine aw_cVi hC dX9_carLine_91 cv_RX9_268 rfl rm_7_0_0 (am_some (inj := (fun r => (.inr (some (.int r.1)), r.2))) hq143 (A_X9_number _ (hC.2.2.2.2.2.2.2.2.2.2.2.2.1) _ _ _ (0 : Int32) p1 q142.2)) rfl rfl rfl rfl rfl ⟨rfl, rfl⟩ ?_
              refine aw_istore hC dX9_carLine_94 (by decide) ?_
              refine aw_aload_n hC dX9_carLine_96 rfl ?_
              refine aw_cVb hC dX9_carLine_97 cv_RX9_167 rfl rm_7_0_0 (A_X9_isGood _ (hC.2.2.2.2.2.2.2.2.2.2.2.2.1) _ _ _ q143.2) rfl rfl rfl rfl rfl ⟨rfl, rfl⟩ ?_
              refine aw_if_ne_b hC dX9_carLine_100 (tgt := 104) (by decide) ?_ ?_
              · refine aw_aload_n hC dX9_carLine_104 rfl ?_
                refine aw_gfR hC dX9_carLine_105 fg_RX9_35 rfl rfl rm_7_0_0 ?_
                refine aw_aload_n hC dX9_carLine_108 rfl ?_
                refine aw_gfR hC dX9_carLine_109 fg_RX9_20 rfl rfl rm_7_0_0 ?_
                refine aw_iconst hC dX9_carLine_112 (v := 0) (by decide) ?_
                refine aw_iald hC dX9_carLine_113 rm_7_0_2 rfl rfl (by decide) (k := 0) (by decide) ?_
                refine aw_lload_n hC dX9_carLine_114 rfl ?_
                refine aw_guard rfl (fun g145 => ?_)
                refine aw_last hC dX9_carLine_115 rm_7_0_7 rfl rfl g145 rfl (fun h144 => ?_)
                refine aw_aload_n hC dX9_carLine_116 rfl ?_
                refine aw_gfR hC dX9_carLine_117 fg_RX9_20 rfl rfl rm_7_0_0 ?_
                refine aw_iconst hC dX9_carLine_120 (v := 2) (by decide) ?_
                refine aw_aload_n hC dX9_carLine_121 rfl ?_
                refine aw_gfR hC dX9_carLine_122 fg_RX9_20 rfl rfl rm_7_0_0 ?_
                refine aw_iconst hC dX9_carLine_125 (v := 0) (by decide) ?_
                refine aw_iald hC dX9_carLine_126 rm_7_0_2 rfl rfl (by decide) (k := 0) (by decide) ?_
                refine aw_iadd hC dX9_carLine_127 ?_
                refine aw_iload hC dX9_carLine_128 rfl ?_
                refine aw_guard rfl (fun g147 => ?_)
                refine aw_iast hC dX9_carLine_130 rm_7_0_2 rfl rfl g147 rfl (fun h146 => ?_)
                refine aw_aload_n hC dX9_carLine_131 rfl ?_
                refine aw_gfR hC dX9_carLine_132 fg_RX9_20 rfl rfl rm_7_0_0 ?_
                refine aw_iconst hC dX9_carLine_135 (v := 0) (by decide) ?_
                refine aw_dup2 hC dX9_carLine_136 rfl rfl ?_
                refine aw_iald hC dX9_carLine_137 rm_7_0_2 rfl rfl (by decide) (k := 0) (by decide) ?_
                refine aw_iconst hC dX9_carLine_138 (v := 1) (by decide) ?_
                refine aw_iadd hC dX9_carLine_139 ?_
                refine aw_iast hC dX9_carLine_140 rm_7_0_2 rfl rfl (by decide) (k := 0) (by decide) (fun h148 => ?_)
                exact aw_vret hC dX9_carLine_141 rfl rfl
              · exact aw_vret hC dX9_carLine_103 rfl rfl
  · refine aw_aload_n hC dX9_carLine_7 rfl ?_
    refine aw_ldc2 hC dX9_carLine_8 (v := 3122) tw7_235 ?_
    refine aw_cVb hC dX9_carLine_11 cv_RX9_180 rfl rm_7_0_0 (A_X9_isWord _ (hC.2.2.2.2.2.2.2.2.2.2.2.2.1) _ _ _ (3122 : Int64) h) rfl rfl rfl rfl rfl ⟨rfl, rfl⟩ ?_
    refine aw_if_ne_b hC dX9_carLine_14 (tgt := 22) (by decide) ?_ ?_
    · refine aw_aload_n hC dX9_carLine_22 rfl ?_
      refine aw_cVb hC dX9_carLine_23 cv_RX9_167 rfl rm_7_0_0 (A_X9_isGood _ (hC.2.2.2.2.2.2.2.2.2.2.2.2.1) _ _ _ h) rfl rfl rfl rfl rfl ⟨rfl, rfl⟩ ?_
      refine aw_if_eq_b hC dX9_carLine_26 (tgt := 44) (by decide) ?_ ?_
      · refine aw_aload_n hC dX9_carLine_44 rfl ?_
        refine aw_cVb hC dX9_carLine_45 cv_RX9_167 rfl rm_7_0_0 (A_X9_isGood _ (hC.2.2.2.2.2.2.2.2.2.2.2.2.1) _ _ _ h) rfl rfl rfl rfl rfl ⟨rfl, rfl⟩ ?_
        refine aw_if_eq_b hC dX9_carLine_48 (tgt := 55) (by decide) ?_ ?_
        · refine aw_aload_n hC dX9_carLine_55 rfl ?_
          refine aw_bind rfl (fun q149 hq149 => ?_)
          refine aw_cVv hC dX9_carLine_56 cv_RX9_255 rfl rm_7_0_0 (am_some (inj := (fun r => (.inr (none), r))) hq149 (A_X9_mustName _ (hC.2.2.2.2.2.2.2.2.2.2.2.2.1) _ _ _ h)) rfl rfl rfl rfl rfl ⟨rfl, rfl⟩ ?_
          refine aw_aload_n hC dX9_carLine_59 rfl ?_
          refine aw_cVb hC dX9_carLine_60 cv_RX9_167 rfl rm_7_0_0 (A_X9_isGood _ (hC.2.2.2.2.2.2.2.2.2.2.2.2.1) _ _ _ q149) rfl rfl rfl rfl rfl ⟨rfl, rfl⟩ ?_
          refine aw_if_eq_b hC dX9_carLine_63 (tgt := 83) (by decide) ?_ ?_
          · refine aw_aload_n hC dX9_carLine_83 rfl ?_
            refine aw_bind rfl (fun q150 hq150 => ?_)
            refine aw_cVj hC dX9_carLine_84 cv_RX9_264 rfl rm_7_0_0 (am_some (inj := (fun r => (.inr (some (.long r.1)), r.2))) hq150 (A_X9_nameHere _ (hC.2.2.2.2.2.2.2.2.2.2.2.2.1) _ _ _ q149)) rfl rfl rfl rfl rfl ⟨rfl, rfl⟩ ?_
            refine aw_lstore_n hC dX9_carLine_87 (by decide) ?_
            refine aw_aload_n hC dX9_carLine_88 rfl ?_
            refine aw_iconst hC dX9_carLine_89 (v := 0) (by decide) ?_
            refine aw_iload_n hC dX9_carLine_90 rfl ?_
            refine aw_bind rfl (fun q151 hq151 => ?_)
            refine aw_cVi hC dX9_carLine_91 cv_RX9_268 rfl rm_7_0_0 (am_some (inj := (fun r => (.inr (some (.int r.1)), r.2))) hq151 (A_X9_number _ (hC.2.2.2.2.2.2.2.2.2.2.2.2.1) _ _ _ (0 : Int32) p1 q150.2)) rfl rfl rfl rfl rfl ⟨rfl, rfl⟩ ?_
            refine aw_istore hC dX9_carLine_94 (by decide) ?_
            refine aw_aload_n hC dX9_carLine_96 rfl ?_
            refine aw_cVb hC dX9_carLine_97 cv_RX9_167 rfl rm_7_0_0 (A_X9_isGood _ (hC.2.2.2.2.2.2.2.2.2.2.2.2.1) _ _ _ q151.2) rfl rfl rfl rfl rfl ⟨rfl, rfl⟩ ?_
            refine aw_if_ne_b hC dX9_carLine_100 (tgt := 104) (by decide) ?_ ?_
            · refine aw_aload_n hC dX9_carLine_104 rfl ?_
              refine aw_gfR hC dX9_carLine_105 fg_RX9_35 rfl rfl rm_7_0_0 ?_
              refine aw_aload_n hC dX9_carLine_108 rfl ?_
              refine aw_gfR hC dX9_carLine_109 fg_RX9_20 rfl rfl rm_7_0_0 ?_
              refine aw_iconst hC dX9_carLine_112 (v := 0) (by decide) ?_
              refine aw_iald hC dX9_carLine_113 rm_7_0_2 rfl rfl (by decide) (k := 0) (by decide) ?_
              refine aw_lload_n hC dX9_carLine_114 rfl ?_
              refine aw_guard rfl (fun g153 => ?_)
              refine aw_last hC dX9_carLine_115 rm_7_0_7 rfl rfl g153 rfl (fun h152 => ?_)
              refine aw_aload_n hC dX9_carLine_116 rfl ?_
              refine aw_gfR hC dX9_carLine_117 fg_RX9_20 rfl rfl rm_7_0_0 ?_
              refine aw_iconst hC dX9_carLine_120 (v := 2) (by decide) ?_
              refine aw_aload_n hC dX9_carLine_121 rfl ?_
              refine aw_gfR hC dX9_carLine_122 fg_RX9_20 rfl rfl rm_7_0_0 ?_
              refine aw_iconst hC dX9_carLine_125 (v := 0) (by decide) ?_
              refine aw_iald hC dX9_carLine_126 rm_7_0_2 rfl rfl (by decide) (k := 0) (by decide) ?_
              refine aw_iadd hC dX9_carLine_127 ?_
              refine aw_iload hC dX9_carLine_128 rfl ?_
              refine aw_guard rfl (fun g155 => ?_)
              refine aw_iast hC dX9_carLine_130 rm_7_0_2 rfl rfl g155 rfl (fun h154 => ?_)
              refine aw_aload_n hC dX9_carLine_131 rfl ?_
              refine aw_gfR hC dX9_carLine_132 fg_RX9_20 rfl rfl rm_7_0_0 ?_
              refine aw_iconst hC dX9_carLine_135 (v := 0) (by decide) ?_
              refine aw_dup2 hC dX9_carLine_136 rfl rfl ?_
              refine aw_iald hC dX9_carLine_137 rm_7_0_2 rfl rfl (by decide) (k := 0) (by decide) ?_
              refine aw_iconst hC dX9_carLine_138 (v := 1) (by decide) ?_
              refine aw_iadd hC dX9_carLine_139 ?_
              refine aw_iast hC dX9_carLine_140 rm_7_0_2 rfl rfl (by decide) (k := 0) (by decide) (fun h156 => ?_)
              exact aw_vret hC dX9_carLine_141 rfl rfl
            · exact aw_vret hC dX9_carLine_103 rfl rfl
          · refine aw_aload_n hC dX9_carLine_66 rfl ?_
            refine aw_aload_n hC dX9_carLine_67 rfl ?_
            refine aw_gfJ hC dX9_carLine_68 fg_RX9_147 rfl rm_7_0_0 ?_
            refine aw_bind rfl (fun q157 hq157 => ?_)
            refine aw_cVi hC dX9_carLine_71 cv_RX9_260 rfl rm_7_0_0 (am_some (inj := (fun r => (.inr (some (.int r)), q149))) hq157 (A_X9_carNamed _ (hC.2.2.2.2.2.2.2.2.2.2.2.2.1) _ _ _ (gJ q149 (7, 0, 0) 12) q149)) rfl rfl rfl rfl rfl ⟨rfl, rfl⟩ ?_
            refine aw_iconst hC dX9_carLine_74 (v := -1) (by decide) ?_
            refine aw_icmp_eq hC dX9_carLine_75 (tgt := 83) (by decide) ?_ ?_
            · refine aw_aload_n hC dX9_carLine_83 rfl ?_
              refine aw_bind rfl (fun q158 hq158 => ?_)
              refine aw_cVj hC dX9_carLine_84 cv_RX9_264 rfl rm_7_0_0 (am_some (inj := (fun r => (.inr (some (.long r.1)), r.2))) hq158 (A_X9_nameHere _ (hC.2.2.2.2.2.2.2.2.2.2.2.2.1) _ _ _ q149)) rfl rfl rfl rfl rfl ⟨rfl, rfl⟩ ?_
              refine aw_lstore_n hC dX9_carLine_87 (by decide) ?_
              refine aw_aload_n hC dX9_carLine_88 rfl ?_
              refine aw_iconst hC dX9_carLine_89 (v := 0) (by decide) ?_
              refine aw_iload_n hC dX9_carLine_90 rfl ?_
              refine aw_bind rfl (fun q159 hq159 => ?_)
              refine aw_cVi hC dX9_carLine_91 cv_RX9_268 rfl rm_7_0_0 (am_some (inj := (fun r => (.inr (some (.int r.1)), r.2))) hq159 (A_X9_number _ (hC.2.2.2.2.2.2.2.2.2.2.2.2.1) _ _ _ (0 : Int32) p1 q158.2)) rfl rfl rfl rfl rfl ⟨rfl, rfl⟩ ?_
              refine aw_istore hC dX9_carLine_94 (by decide) ?_
              refine aw_aload_n hC dX9_carLine_96 rfl ?_
              refine aw_cVb hC dX9_carLine_97 cv_RX9_167 rfl rm_7_0_0 (A_X9_isGood _ (hC.2.2.2.2.2.2.2.2.2.2.2.2.1) _ _ _ q159.2) rfl rfl rfl rfl rfl ⟨rfl, rfl⟩ ?_
              refine aw_if_ne_b hC dX9_carLine_100 (tgt := 104) (by decide) ?_ ?_
              · refine aw_aload_n hC dX9_carLine_104 rfl ?_
                refine aw_gfR hC dX9_carLine_105 fg_RX9_35 rfl rfl rm_7_0_0 ?_
                refine aw_aload_n hC dX9_carLine_108 rfl ?_
                refine aw_gfR hC dX9_carLine_109 fg_RX9_20 rfl rfl rm_7_0_0 ?_
                refine aw_iconst hC dX9_carLine_112 (v := 0) (by decide) ?_
                refine aw_iald hC dX9_carLine_113 rm_7_0_2 rfl rfl (by decide) (k := 0) (by decide) ?_
                refine aw_lload_n hC dX9_carLine_114 rfl ?_
                refine aw_guard rfl (fun g161 => ?_)
                refine aw_last hC dX9_carLine_115 rm_7_0_7 rfl rfl g161 rfl (fun h160 => ?_)
                refine aw_aload_n hC dX9_carLine_116 rfl ?_
                refine aw_gfR hC dX9_carLine_117 fg_RX9_20 rfl rfl rm_7_0_0 ?_
                refine aw_iconst hC dX9_carLine_120 (v := 2) (by decide) ?_
                refine aw_aload_n hC dX9_carLine_121 rfl ?_
                refine aw_gfR hC dX9_carLine_122 fg_RX9_20 rfl rfl rm_7_0_0 ?_
                refine aw_iconst hC dX9_carLine_125 (v := 0) (by decide) ?_
                refine aw_iald hC dX9_carLine_126 rm_7_0_2 rfl rfl (by decide) (k := 0) (by decide) ?_
                refine aw_iadd hC dX9_carLine_127 ?_
                refine aw_iload hC dX9_carLine_128 rfl ?_
                refine aw_guard rfl (fun g163 => ?_)
                refine aw_iast hC dX9_carLine_130 rm_7_0_2 rfl rfl g163 rfl (fun h162 => ?_)
                refine aw_aload_n hC dX9_carLine_131 rfl ?_
                refine aw_gfR hC dX9_carLine_132 fg_RX9_20 rfl rfl rm_7_0_0 ?_
                refine aw_iconst hC dX9_carLine_135 (v := 0) (by decide) ?_
                refine aw_dup2 hC dX9_carLine_136 rfl rfl ?_
                refine aw_iald hC dX9_carLine_137 rm_7_0_2 rfl rfl (by decide) (k := 0) (by decide) ?_
                refine aw_iconst hC dX9_carLine_138 (v := 1) (by decide) ?_
                refine aw_iadd hC dX9_carLine_139 ?_
                refine aw_iast hC dX9_carLine_140 rm_7_0_2 rfl rfl (by decide) (k := 0) (by decide) (fun h164 => ?_)
                exact aw_vret hC dX9_carLine_141 rfl rfl
              · exact aw_vret hC dX9_carLine_103 rfl rfl
            · refine aw_aload_n hC dX9_carLine_78 rfl ?_
              refine aw_iconst hC dX9_carLine_79 (v := 3) (by decide) ?_
              refine aw_bind rfl (fun q165 hq165 => ?_)
              refine aw_cVv hC dX9_carLine_80 cv_RX9_174 rfl rm_7_0_0 (am_some (inj := (fun r => (.inr (none), r))) hq165 (A_X9_wrong _ (hC.2.2.2.2.2.2.2.2.2.2.2.2.1) _ _ _ (3 : Int32) q149)) rfl rfl rfl rfl rfl ⟨rfl, rfl⟩ ?_
              refine aw_aload_n hC dX9_carLine_83 rfl ?_
              refine aw_bind rfl (fun q166 hq166 => ?_)
              refine aw_cVj hC dX9_carLine_84 cv_RX9_264 rfl rm_7_0_0 (am_some (inj := (fun r => (.inr (some (.long r.1)), r.2))) hq166 (A_X9_nameHere _ (hC.2.2.2.2.2.2.2.2.2.2.2.2.1) _ _ _ q165)) rfl rfl rfl rfl rfl ⟨rfl, rfl⟩ ?_
              refine aw_lstore_n hC dX9_carLine_87 (by decide) ?_
              refine aw_aload_n hC dX9_carLine_88 rfl ?_
              refine aw_iconst hC dX9_carLine_89 (v := 0) (by decide) ?_
              refine aw_iload_n hC dX9_carLine_90 rfl ?_
              refine aw_bind rfl (fun q167 hq167 => ?_)
              refine aw_cVi hC dX9_carLine_91 cv_RX9_268 rfl rm_7_0_0 (am_some (inj := (fun r => (.inr (some (.int r.1)), r.2))) hq167 (A_X9_number _ (hC.2.2.2.2.2.2.2.2.2.2.2.2.1) _ _ _ (0 : Int32) p1 q166.2)) rfl rfl rfl rfl rfl ⟨rfl, rfl⟩ ?_
              refine aw_istore hC dX9_carLine_94 (by decide) ?_
              refine aw_aload_n hC dX9_carLine_96 rfl ?_
              refine aw_cVb hC dX9_carLine_97 cv_RX9_167 rfl rm_7_0_0 (A_X9_isGood _ (hC.2.2.2.2.2.2.2.2.2.2.2.2.1) _ _ _ q167.2) rfl rfl rfl rfl rfl ⟨rfl, rfl⟩ ?_
              refine aw_if_ne_b hC dX9_carLine_100 (tgt := 104) (by decide) ?_ ?_
              · refine aw_aload_n hC dX9_carLine_104 rfl ?_
                refine aw_gfR hC dX9_carLine_105 fg_RX9_35 rfl rfl rm_7_0_0 ?_
                refine aw_aload_n hC dX9_carLine_108 rfl ?_
                refine aw_gfR hC dX9_carLine_109 fg_RX9_20 rfl rfl rm_7_0_0 ?_
                refine aw_iconst hC dX9_carLine_112 (v := 0) (by decide) ?_
                refine aw_iald hC dX9_carLine_113 rm_7_0_2 rfl rfl (by decide) (k := 0) (by decide) ?_
                refine aw_lload_n hC dX9_carLine_114 rfl ?_
                refine aw_guard rfl (fun g169 => ?_)
                refine aw_last hC dX9_carLine_115 rm_7_0_7 rfl rfl g169 rfl (fun h168 => ?_)
                refine aw_aload_n hC dX9_carLine_116 rfl ?_
                refine aw_gfR hC dX9_carLine_117 fg_RX9_20 rfl rfl rm_7_0_0 ?_
                refine aw_iconst hC dX9_carLine_120 (v := 2) (by decide) ?_
                refine aw_aload_n hC dX9_carLine_121 rfl ?_
                refine aw_gfR hC dX9_carLine_122 fg_RX9_20 rfl rfl rm_7_0_0 ?_
                refine aw_iconst hC dX9_carLine_125 (v := 0) (by decide) ?_
                refine aw_iald hC dX9_carLine_126 rm_7_0_2 rfl rfl (by decide) (k := 0) (by decide) ?_
                refine aw_iadd hC dX9_carLine_127 ?_
                refine aw_iload hC dX9_carLine_128 rfl ?_
                refine aw_guard rfl (fun g171 => ?_)
                refine aw_iast hC dX9_carLine_130 rm_7_0_2 rfl rfl g171 rfl (fun h170 => ?_)
                refine aw_aload_n hC dX9_carLine_131 rfl ?_
                refine aw_gfR hC dX9_carLine_132 fg_RX9_20 rfl rfl rm_7_0_0 ?_
                refine aw_iconst hC dX9_carLine_135 (v := 0) (by decide) ?_
                refine aw_dup2 hC dX9_carLine_136 rfl rfl ?_
                refine aw_iald hC dX9_carLine_137 rm_7_0_2 rfl rfl (by decide) (k := 0) (by decide) ?_
                refine aw_iconst hC dX9_carLine_138 (v := 1) (by decide) ?_
                refine aw_iadd hC dX9_carLine_139 ?_
                refine aw_iast hC dX9_carLine_140 rm_7_0_2 rfl rfl (by decide) (k := 0) (by decide) (fun h172 => ?_)
                exact aw_vret hC dX9_carLine_141 rfl rfl
              · exact aw_vret hC dX9_carLine_103 rfl rfl
        · refine aw_aload_n hC dX9_carLine_51 rfl ?_
          refine aw_bind rfl (fun q173 hq173 => ?_)
          refine aw_cVv hC dX9_carLine_52 cv_RX9_177 rfl rm_7_0_0 (am_some (inj := (fun r => (.inr (none), r))) hq173 (A_X9_goOnRead _ (hC.2.2.2.2.2.2.2.2.2.2.2.2.1) _ _ _ h)) rfl rfl rfl rfl rfl ⟨rfl, rfl⟩ ?_
          refine aw_aload_n hC dX9_carLine_55 rfl ?_
          refine aw_bind rfl (fun q174 hq174 => ?_)
          refine aw_cVv hC dX9_carLine_56 cv_RX9_255 rfl rm_7_0_0 (am_some (inj := (fun r => (.inr (none), r))) hq174 (A_X9_mustName _ (hC.2.2.2.2.2.2.2.2.2.2.2.2.1) _ _ _ q173)) rfl rfl rfl rfl rfl ⟨rfl, rfl⟩ ?_
          refine aw_aload_n hC dX9_carLine_59 rfl ?_
          refine aw_cVb hC dX9_carLine_60 cv_RX9_167 rfl rm_7_0_0 (A_X9_isGood _ (hC.2.2.2.2.2.2.2.2.2.2.2.2.1) _ _ _ q174) rfl rfl rfl rfl rfl ⟨rfl, rfl⟩ ?_
          refine aw_if_eq_b hC dX9_carLine_63 (tgt := 83) (by decide) ?_ ?_
          · refine aw_aload_n hC dX9_carLine_83 rfl ?_
            refine aw_bind rfl (fun q175 hq175 => ?_)
            refine aw_cVj hC dX9_carLine_84 cv_RX9_264 rfl rm_7_0_0 (am_some (inj := (fun r => (.inr (some (.long r.1)), r.2))) hq175 (A_X9_nameHere _ (hC.2.2.2.2.2.2.2.2.2.2.2.2.1) _ _ _ q174)) rfl rfl rfl rfl rfl ⟨rfl, rfl⟩ ?_
            refine aw_lstore_n hC dX9_carLine_87 (by decide) ?_
            refine aw_aload_n hC dX9_carLine_88 rfl ?_
            refine aw_iconst hC dX9_carLine_89 (v := 0) (by decide) ?_
            refine aw_iload_n hC dX9_carLine_90 rfl ?_
            refine aw_bind rfl (fun q176 hq176 => ?_)
            refine aw_cVi hC dX9_carLine_91 cv_RX9_268 rfl rm_7_0_0 (am_some (inj := (fun r => (.inr (some (.int r.1)), r.2))) hq176 (A_X9_number _ (hC.2.2.2.2.2.2.2.2.2.2.2.2.1) _ _ _ (0 : Int32) p1 q175.2)) rfl rfl rfl rfl rfl ⟨rfl, rfl⟩ ?_
            refine aw_istore hC dX9_carLine_94 (by decide) ?_
            refine aw_aload_n hC dX9_carLine_96 rfl ?_
            refine aw_cVb hC dX9_carLine_97 cv_RX9_167 rfl rm_7_0_0 (A_X9_isGood _ (hC.2.2.2.2.2.2.2.2.2.2.2.2.1) _ _ _ q176.2) rfl rfl rfl rfl rfl ⟨rfl, rfl⟩ ?_
            refine aw_if_ne_b hC dX9_carLine_100 (tgt := 104) (by decide) ?_ ?_
            · refine aw_aload_n hC dX9_carLine_104 rfl ?_
              refine aw_gfR hC dX9_carLine_105 fg_RX9_35 rfl rfl rm_7_0_0 ?_
              refine aw_aload_n hC dX9_carLine_108 rfl ?_
              refine aw_gfR hC dX9_carLine_109 fg_RX9_20 rfl rfl rm_7_0_0 ?_
              refine aw_iconst hC dX9_carLine_112 (v := 0) (by decide) ?_
              refine aw_iald hC dX9_carLine_113 rm_7_0_2 rfl rfl (by decide) (k := 0) (by decide) ?_
              refine aw_lload_n hC dX9_carLine_114 rfl ?_
              refine aw_guard rfl (fun g178 => ?_)
              refine aw_last hC dX9_carLine_115 rm_7_0_7 rfl rfl g178 rfl (fun h177 => ?_)
              refine aw_aload_n hC dX9_carLine_116 rfl ?_
              refine aw_gfR hC dX9_carLine_117 fg_RX9_20 rfl rfl rm_7_0_0 ?_
              refine aw_iconst hC dX9_carLine_120 (v := 2) (by decide) ?_
              refine aw_aload_n hC dX9_carLine_121 rfl ?_
              refine aw_gfR hC dX9_carLine_122 fg_RX9_20 rfl rfl rm_7_0_0 ?_
              refine aw_iconst hC dX9_carLine_125 (v := 0) (by decide) ?_
              refine aw_iald hC dX9_carLine_126 rm_7_0_2 rfl rfl (by decide) (k := 0) (by decide) ?_
              refine aw_iadd hC dX9_carLine_127 ?_
              refine aw_iload hC dX9_carLine_128 rfl ?_
              refine aw_guard rfl (fun g180 => ?_)
              refine aw_iast hC dX9_carLine_130 rm_7_0_2 rfl rfl g180 rfl (fun h179 => ?_)
              refine aw_aload_n hC dX9_carLine_131 rfl ?_
              refine aw_gfR hC dX9_carLine_132 fg_RX9_20 rfl rfl rm_7_0_0 ?_
              refine aw_iconst hC dX9_carLine_135 (v := 0) (by decide) ?_
              refine aw_dup2 hC dX9_carLine_136 rfl rfl ?_
              refine aw_iald hC dX9_carLine_137 rm_7_0_2 rfl rfl (by decide) (k := 0) (by decide) ?_
              refine aw_iconst hC dX9_carLine_138 (v := 1) (by decide) ?_
              refine aw_iadd hC dX9_carLine_139 ?_
              refine aw_iast hC dX9_carLine_140 rm_7_0_2 rfl rfl (by decide) (k := 0) (by decide) (fun h181 => ?_)
              exact aw_vret hC dX9_carLine_141 rfl rfl
            · exact aw_vret hC dX9_carLine_103 rfl rfl
          · refine aw_aload_n hC dX9_carLine_66 rfl ?_
            refine aw_aload_n hC dX9_carLine_67 rfl ?_
            refine aw_gfJ hC dX9_carLine_68 fg_RX9_147 rfl rm_7_0_0 ?_
            refine aw_bind rfl (fun q182 hq182 => ?_)
            refine aw_cVi hC dX9_carLine_71 cv_RX9_260 rfl rm_7_0_0 (am_some (inj := (fun r => (.inr (some (.int r)), q174))) hq182 (A_X9_carNamed _ (hC.2.2.2.2.2.2.2.2.2.2.2.2.1) _ _ _ (gJ q174 (7, 0, 0) 12) q174)) rfl rfl rfl rfl rfl ⟨rfl, rfl⟩ ?_
            refine aw_iconst hC dX9_carLine_74 (v := -1) (by decide) ?_
            refine aw_icmp_eq hC dX9_carLine_75 (tgt := 83) (by decide) ?_ ?_
            · refine aw_aload_n hC dX9_carLine_83 rfl ?_
              refine aw_bind rfl (fun q183 hq183 => ?_)
              refine aw_cVj hC dX9_carLine_84 cv_RX9_264 rfl rm_7_0_0 (am_some (inj := (fun r => (.inr (some (.long r.1)), r.2))) hq183 (A_X9_nameHere _ (hC.2.2.2.2.2.2.2.2.2.2.2.2.1) _ _ _ q174)) rfl rfl rfl rfl rfl ⟨rfl, rfl⟩ ?_
              refine aw_lstore_n hC dX9_carLine_87 (by decide) ?_
              refine aw_aload_n hC dX9_carLine_88 rfl ?_
              refine aw_iconst hC dX9_carLine_89 (v := 0) (by decide) ?_
              refine aw_iload_n hC dX9_carLine_90 rfl ?_
              refine aw_bind rfl (fun q184 hq184 => ?_)
              refine aw_cVi hC dX9_carLine_91 cv_RX9_268 rfl rm_7_0_0 (am_some (inj := (fun r => (.inr (some (.int r.1)), r.2))) hq184 (A_X9_number _ (hC.2.2.2.2.2.2.2.2.2.2.2.2.1) _ _ _ (0 : Int32) p1 q183.2)) rfl rfl rfl rfl rfl ⟨rfl, rfl⟩ ?_
              refine aw_istore hC dX9_carLine_94 (by decide) ?_
              refine aw_aload_n hC dX9_carLine_96 rfl ?_
              refine aw_cVb hC dX9_carLine_97 cv_RX9_167 rfl rm_7_0_0 (A_X9_isGood _ (hC.2.2.2.2.2.2.2.2.2.2.2.2.1) _ _ _ q184.2) rfl rfl rfl rfl rfl ⟨rfl, rfl⟩ ?_
              refine aw_if_ne_b hC dX9_carLine_100 (tgt := 104) (by decide) ?_ ?_
              · refine aw_aload_n hC dX9_carLine_104 rfl ?_
                refine aw_gfR hC dX9_carLine_105 fg_RX9_35 rfl rfl rm_7_0_0 ?_
                refine aw_aload_n hC dX9_carLine_108 rfl ?_
                refine aw_gfR hC dX9_carLine_109 fg_RX9_20 rfl rfl rm_7_0_0 ?_
                refine aw_iconst hC dX9_carLine_112 (v := 0) (by decide) ?_
                refine aw_iald hC dX9_carLine_113 rm_7_0_2 rfl rfl (by decide) (k := 0) (by decide) ?_
                refine aw_lload_n hC dX9_carLine_114 rfl ?_
                refine aw_guard rfl (fun g186 => ?_)
                refine aw_last hC dX9_carLine_115 rm_7_0_7 rfl rfl g186 rfl (fun h185 => ?_)
                refine aw_aload_n hC dX9_carLine_116 rfl ?_
                refine aw_gfR hC dX9_carLine_117 fg_RX9_20 rfl rfl rm_7_0_0 ?_
                refine aw_iconst hC dX9_carLine_120 (v := 2) (by decide) ?_
                refine aw_aload_n hC dX9_carLine_121 rfl ?_
                refine aw_gfR hC dX9_carLine_122 fg_RX9_20 rfl rfl rm_7_0_0 ?_
                refine aw_iconst hC dX9_carLine_125 (v := 0) (by decide) ?_
                refine aw_iald hC dX9_carLine_126 rm_7_0_2 rfl rfl (by decide) (k := 0) (by decide) ?_
                refine aw_iadd hC dX9_carLine_127 ?_
                refine aw_iload hC dX9_carLine_128 rfl ?_
                refine aw_guard rfl (fun g188 => ?_)
                refine aw_iast hC dX9_carLine_130 rm_7_0_2 rfl rfl g188 rfl (fun h187 => ?_)
                refine aw_aload_n hC dX9_carLine_131 rfl ?_
                refine aw_gfR hC dX9_carLine_132 fg_RX9_20 rfl rfl rm_7_0_0 ?_
                refine aw_iconst hC dX9_carLine_135 (v := 0) (by decide) ?_
                refine aw_dup2 hC dX9_carLine_136 rfl rfl ?_
                refine aw_iald hC dX9_carLine_137 rm_7_0_2 rfl rfl (by decide) (k := 0) (by decide) ?_
                refine aw_iconst hC dX9_carLine_138 (v := 1) (by decide) ?_
                refine aw_iadd hC dX9_carLine_139 ?_
                refine aw_iast hC dX9_carLine_140 rm_7_0_2 rfl rfl (by decide) (k := 0) (by decide) (fun h189 => ?_)
                exact aw_vret hC dX9_carLine_141 rfl rfl
              · exact aw_vret hC dX9_carLine_103 rfl rfl
            · refine aw_aload_n hC dX9_carLine_78 rfl ?_
              refine aw_iconst hC dX9_carLine_79 (v := 3) (by decide) ?_
              refine aw_bind rfl (fun q190 hq190 => ?_)
              refine aw_cVv hC dX9_carLine_80 cv_RX9_174 rfl rm_7_0_0 (am_some (inj := (fun r => (.inr (none), r))) hq190 (A_X9_wrong _ (hC.2.2.2.2.2.2.2.2.2.2.2.2.1) _ _ _ (3 : Int32) q174)) rfl rfl rfl rfl rfl ⟨rfl, rfl⟩ ?_
              refine aw_aload_n hC dX9_carLine_83 rfl ?_
              refine aw_bind rfl (fun q191 hq191 => ?_)
              refine aw_cVj hC dX9_carLine_84 cv_RX9_264 rfl rm_7_0_0 (am_some (inj := (fun r => (.inr (some (.long r.1)), r.2))) hq191 (A_X9_nameHere _ (hC.2.2.2.2.2.2.2.2.2.2.2.2.1) _ _ _ q190)) rfl rfl rfl rfl rfl ⟨rfl, rfl⟩ ?_
              refine aw_lstore_n hC dX9_carLine_87 (by decide) ?_
              refine aw_aload_n hC dX9_carLine_88 rfl ?_
              refine aw_iconst hC dX9_carLine_89 (v := 0) (by decide) ?_
              refine aw_iload_n hC dX9_carLine_90 rfl ?_
              refine aw_bind rfl (fun q192 hq192 => ?_)
              refine aw_cVi hC dX9_carLine_91 cv_RX9_268 rfl rm_7_0_0 (am_some (inj := (fun r => (.inr (some (.int r.1)), r.2))) hq192 (A_X9_number _ (hC.2.2.2.2.2.2.2.2.2.2.2.2.1) _ _ _ (0 : Int32) p1 q191.2)) rfl rfl rfl rfl rfl ⟨rfl, rfl⟩ ?_
              refine aw_istore hC dX9_carLine_94 (by decide) ?_
              refine aw_aload_n hC dX9_carLine_96 rfl ?_
              refine aw_cVb hC dX9_carLine_97 cv_RX9_167 rfl rm_7_0_0 (A_X9_isGood _ (hC.2.2.2.2.2.2.2.2.2.2.2.2.1) _ _ _ q192.2) rfl rfl rfl rfl rfl ⟨rfl, rfl⟩ ?_
              refine aw_if_ne_b hC dX9_carLine_100 (tgt := 104) (by decide) ?_ ?_
              · refine aw_aload_n hC dX9_carLine_104 rfl ?_
                refine aw_gfR hC dX9_carLine_105 fg_RX9_35 rfl rfl rm_7_0_0 ?_
                refine aw_aload_n hC dX9_carLine_108 rfl ?_
                refine aw_gfR hC dX9_carLine_109 fg_RX9_20 rfl rfl rm_7_0_0 ?_
                refine aw_iconst hC dX9_carLine_112 (v := 0) (by decide) ?_
                refine aw_iald hC dX9_carLine_113 rm_7_0_2 rfl rfl (by decide) (k := 0) (by decide) ?_
                refine aw_lload_n hC dX9_carLine_114 rfl ?_
                refine aw_guard rfl (fun g194 => ?_)
                refine aw_last hC dX9_carLine_115 rm_7_0_7 rfl rfl g194 rfl (fun h193 => ?_)
                refine aw_aload_n hC dX9_carLine_116 rfl ?_
                refine aw_gfR hC dX9_carLine_117 fg_RX9_20 rfl rfl rm_7_0_0 ?_
                refine aw_iconst hC dX9_carLine_120 (v := 2) (by decide) ?_
                refine aw_aload_n hC dX9_carLine_121 rfl ?_
                refine aw_gfR hC dX9_carLine_122 fg_RX9_20 rfl rfl rm_7_0_0 ?_
                refine aw_iconst hC dX9_carLine_125 (v := 0) (by decide) ?_
                refine aw_iald hC dX9_carLine_126 rm_7_0_2 rfl rfl (by decide) (k := 0) (by decide) ?_
                refine aw_iadd hC dX9_carLine_127 ?_
                refine aw_iload hC dX9_carLine_128 rfl ?_
                refine aw_guard rfl (fun g196 => ?_)
                refine aw_iast hC dX9_carLine_130 rm_7_0_2 rfl rfl g196 rfl (fun h195 => ?_)
                refine aw_aload_n hC dX9_carLine_131 rfl ?_
                refine aw_gfR hC dX9_carLine_132 fg_RX9_20 rfl rfl rm_7_0_0 ?_
                refine aw_iconst hC dX9_carLine_135 (v := 0) (by decide) ?_
                refine aw_dup2 hC dX9_carLine_136 rfl rfl ?_
                refine aw_iald hC dX9_carLine_137 rm_7_0_2 rfl rfl (by decide) (k := 0) (by decide) ?_
                refine aw_iconst hC dX9_carLine_138 (v := 1) (by decide) ?_
                refine aw_iadd hC dX9_carLine_139 ?_
                refine aw_iast hC dX9_carLine_140 rm_7_0_2 rfl rfl (by decide) (k := 0) (by decide) (fun h197 => ?_)
                exact aw_vret hC dX9_carLine_141 rfl rfl
              · exact aw_vret hC dX9_carLine_103 rfl rfl
      · refine aw_aload_n hC dX9_carLine_29 rfl ?_
        refine aw_gfR hC dX9_carLine_30 fg_RX9_20 rfl rfl rm_7_0_0 ?_
        refine aw_iconst hC dX9_carLine_33 (v := 0) (by decide) ?_
        refine aw_iald hC dX9_carLine_34 rm_7_0_2 rfl rfl (by decide) (k := 0) (by decide) ?_
        refine aw_iload_n hC dX9_carLine_35 rfl ?_
        refine aw_icmp_ne hC dX9_carLine_36 (tgt := 44) (by decide) ?_ ?_
        · refine aw_aload_n hC dX9_carLine_44 rfl ?_
          refine aw_cVb hC dX9_carLine_45 cv_RX9_167 rfl rm_7_0_0 (A_X9_isGood _ (hC.2.2.2.2.2.2.2.2.2.2.2.2.1) _ _ _ h) rfl rfl rfl rfl rfl ⟨rfl, rfl⟩ ?_
          refine aw_if_eq_b hC dX9_carLine_48 (tgt := 55) (by decide) ?_ ?_
          · refine aw_aload_n hC dX9_carLine_55 rfl ?_
            refine aw_bind rfl (fun q198 hq198 => ?_)
            refine aw_cVv hC dX9_carLine_56 cv_RX9_255 rfl rm_7_0_0 (am_some (inj := (fun r => (.inr (none), r))) hq198 (A_X9_mustName _ (hC.2.2.2.2.2.2.2.2.2.2.2.2.1) _ _ _ h)) rfl rfl rfl rfl rfl ⟨rfl, rfl⟩ ?_
            refine aw_aload_n hC dX9_carLine_59 rfl ?_
            refine aw_cVb hC dX9_carLine_60 cv_RX9_167 rfl rm_7_0_0 (A_X9_isGood _ (hC.2.2.2.2.2.2.2.2.2.2.2.2.1) _ _ _ q198) rfl rfl rfl rfl rfl ⟨rfl, rfl⟩ ?_
            refine aw_if_eq_b hC dX9_carLine_63 (tgt := 83) (by decide) ?_ ?_
            · refine aw_aload_n hC dX9_carLine_83 rfl ?_
              refine aw_bind rfl (fun q199 hq199 => ?_)
              refine aw_cVj hC dX9_carLine_84 cv_RX9_264 rfl rm_7_0_0 (am_some (inj := (fun r => (.inr (some (.long r.1)), r.2))) hq199 (A_X9_nameHere _ (hC.2.2.2.2.2.2.2.2.2.2.2.2.1) _ _ _ q198)) rfl rfl rfl rfl rfl ⟨rfl, rfl⟩ ?_
              refine aw_lstore_n hC dX9_carLine_87 (by decide) ?_
              refine aw_aload_n hC dX9_carLine_88 rfl ?_
              refine aw_iconst hC dX9_carLine_89 (v := 0) (by decide) ?_
              refine aw_iload_n hC dX9_carLine_90 rfl ?_
              refine aw_bind rfl (fun q200 hq200 => ?_)
              refine aw_cVi hC dX9_carLine_91 cv_RX9_268 rfl rm_7_0_0 (am_some (inj := (fun r => (.inr (some (.int r.1)), r.2))) hq200 (A_X9_number _ (hC.2.2.2.2.2.2.2.2.2.2.2.2.1) _ _ _ (0 : Int32) p1 q199.2)) rfl rfl rfl rfl rfl ⟨rfl, rfl⟩ ?_
              refine aw_istore hC dX9_carLine_94 (by decide) ?_
              refine aw_aload_n hC dX9_carLine_96 rfl ?_
              refine aw_cVb hC dX9_carLine_97 cv_RX9_167 rfl rm_7_0_0 (A_X9_isGood _ (hC.2.2.2.2.2.2.2.2.2.2.2.2.1) _ _ _ q200.2) rfl rfl rfl rfl rfl ⟨rfl, rfl⟩ ?_
              refine aw_if_ne_b hC dX9_carLine_100 (tgt := 104) (by decide) ?_ ?_
              · refine aw_aload_n hC dX9_carLine_104 rfl ?_
                refine aw_gfR hC dX9_carLine_105 fg_RX9_35 rfl rfl rm_7_0_0 ?_
                refine aw_aload_n hC dX9_carLine_108 rfl ?_
                refine aw_gfR hC dX9_carLine_109 fg_RX9_20 rfl rfl rm_7_0_0 ?_
                refine aw_iconst hC dX9_carLine_112 (v := 0) (by decide) ?_
                refine aw_iald hC dX9_carLine_113 rm_7_0_2 rfl rfl (by decide) (k := 0) (by decide) ?_
                refine aw_lload_n hC dX9_carLine_114 rfl ?_
                refine aw_guard rfl (fun g202 => ?_)
                refine aw_last hC dX9_carLine_115 rm_7_0_7 rfl rfl g202 rfl (fun h201 => ?_)
                refine aw_aload_n hC dX9_carLine_116 rfl ?_
                refine aw_gfR hC dX9_carLine_117 fg_RX9_20 rfl rfl rm_7_0_0 ?_
                refine aw_iconst hC dX9_carLine_120 (v := 2) (by decide) ?_
                refine aw_aload_n hC dX9_carLine_121 rfl ?_
                refine aw_gfR hC dX9_carLine_122 fg_RX9_20 rfl rfl rm_7_0_0 ?_
                refine aw_iconst hC dX9_carLine_125 (v := 0) (by decide) ?_
                refine aw_iald hC dX9_carLine_126 rm_7_0_2 rfl rfl (by decide) (k := 0) (by decide) ?_
                refine aw_iadd hC dX9_carLine_127 ?_
                refine aw_iload hC dX9_carLine_128 rfl ?_
                refine aw_guard rfl (fun g204 => ?_)
                refine aw_iast hC dX9_carLine_130 rm_7_0_2 rfl rfl g204 rfl (fun h203 => ?_)
                refine aw_aload_n hC dX9_carLine_131 rfl ?_
                refine aw_gfR hC dX9_carLine_132 fg_RX9_20 rfl rfl rm_7_0_0 ?_
                refine aw_iconst hC dX9_carLine_135 (v := 0) (by decide) ?_
                refine aw_dup2 hC dX9_carLine_136 rfl rfl ?_
                refine aw_iald hC dX9_carLine_137 rm_7_0_2 rfl rfl (by decide) (k := 0) (by decide) ?_
                refine aw_iconst hC dX9_carLine_138 (v := 1) (by decide) ?_
                refine aw_iadd hC dX9_carLine_139 ?_
                refine aw_iast hC dX9_carLine_140 rm_7_0_2 rfl rfl (by decide) (k := 0) (by decide) (fun h205 => ?_)
                exact aw_vret hC dX9_carLine_141 rfl rfl
              · exact aw_vret hC dX9_carLine_103 rfl rfl
            · refine aw_aload_n hC dX9_carLine_66 rfl ?_
              refine aw_aload_n hC dX9_carLine_67 rfl ?_
              refine aw_gfJ hC dX9_carLine_68 fg_RX9_147 rfl rm_7_0_0 ?_
              refine aw_bind rfl (fun q206 hq206 => ?_)
              refine aw_cVi hC dX9_carLine_71 cv_RX9_260 rfl rm_7_0_0 (am_some (inj := (fun r => (.inr (some (.int r)), q198))) hq206 (A_X9_carNamed _ (hC.2.2.2.2.2.2.2.2.2.2.2.2.1) _ _ _ (gJ q198 (7, 0, 0) 12) q198)) rfl rfl rfl rfl rfl ⟨rfl, rfl⟩ ?_
              refine aw_iconst hC dX9_carLine_74 (v := -1) (by decide) ?_
              refine aw_icmp_eq hC dX9_carLine_75 (tgt := 83) (by decide) ?_ ?_
              · refine aw_aload_n hC dX9_carLine_83 rfl ?_
                refine aw_bind rfl (fun q207 hq207 => ?_)
                refine aw_cVj hC dX9_carLine_84 cv_RX9_264 rfl rm_7_0_0 (am_some (inj := (fun r => (.inr (some (.long r.1)), r.2))) hq207 (A_X9_nameHere _ (hC.2.2.2.2.2.2.2.2.2.2.2.2.1) _ _ _ q198)) rfl rfl rfl rfl rfl ⟨rfl, rfl⟩ ?_
                refine aw_lstore_n hC dX9_carLine_87 (by decide) ?_
                refine aw_aload_n hC dX9_carLine_88 rfl ?_
                refine aw_iconst hC dX9_carLine_89 (v := 0) (by decide) ?_
                refine aw_iload_n hC dX9_carLine_90 rfl ?_
                refine aw_bind rfl (fun q208 hq208 => ?_)
                refine aw_cVi hC dX9_carLine_91 cv_RX9_268 rfl rm_7_0_0 (am_some (inj := (fun r => (.inr (some (.int r.1)), r.2))) hq208 (A_X9_number _ (hC.2.2.2.2.2.2.2.2.2.2.2.2.1) _ _ _ (0 : Int32) p1 q207.2)) rfl rfl rfl rfl rfl ⟨rfl, rfl⟩ ?_
                refine aw_istore hC dX9_carLine_94 (by decide) ?_
                refine aw_aload_n hC dX9_carLine_96 rfl ?_
                refine aw_cVb hC dX9_carLine_97 cv_RX9_167 rfl rm_7_0_0 (A_X9_isGood _ (hC.2.2.2.2.2.2.2.2.2.2.2.2.1) _ _ _ q208.2) rfl rfl rfl rfl rfl ⟨rfl, rfl⟩ ?_
                refine aw_if_ne_b hC dX9_carLine_100 (tgt := 104) (by decide) ?_ ?_
                · refine aw_aload_n hC dX9_carLine_104 rfl ?_
                  refine aw_gfR hC dX9_carLine_105 fg_RX9_35 rfl rfl rm_7_0_0 ?_
                  refine aw_aload_n hC dX9_carLine_108 rfl ?_
                  refine aw_gfR hC dX9_carLine_109 fg_RX9_20 rfl rfl rm_7_0_0 ?_
                  refine aw_iconst hC dX9_carLine_112 (v := 0) (by decide) ?_
                  refine aw_iald hC dX9_carLine_113 rm_7_0_2 rfl rfl (by decide) (k := 0) (by decide) ?_
                  refine aw_lload_n hC dX9_carLine_114 rfl ?_
                  refine aw_guard rfl (fun g210 => ?_)
                  refine aw_last hC dX9_carLine_115 rm_7_0_7 rfl rfl g210 rfl (fun h209 => ?_)
                  refine aw_aload_n hC dX9_carLine_116 rfl ?_
                  refine aw_gfR hC dX9_carLine_117 fg_RX9_20 rfl rfl rm_7_0_0 ?_
                  refine aw_iconst hC dX9_carLine_120 (v := 2) (by decide) ?_
                  refine aw_aload_n hC dX9_carLine_121 rfl ?_
                  refine aw_gfR hC dX9_carLine_122 fg_RX9_20 rfl rfl rm_7_0_0 ?_
                  refine aw_iconst hC dX9_carLine_125 (v := 0) (by decide) ?_
                  refine aw_iald hC dX9_carLine_126 rm_7_0_2 rfl rfl (by decide) (k := 0) (by decide) ?_
                  refine aw_iadd hC dX9_carLine_127 ?_
                  refine aw_iload hC dX9_carLine_128 rfl ?_
                  refine aw_guard rfl (fun g212 => ?_)
                  refine aw_iast hC dX9_carLine_130 rm_7_0_2 rfl rfl g212 rfl (fun h211 => ?_)
                  refine aw_aload_n hC dX9_carLine_131 rfl ?_
                  refine aw_gfR hC dX9_carLine_132 fg_RX9_20 rfl rfl rm_7_0_0 ?_
                  refine aw_iconst hC dX9_carLine_135 (v := 0) (by decide) ?_
                  refine aw_dup2 hC dX9_carLine_136 rfl rfl ?_
                  refine aw_iald hC dX9_carLine_137 rm_7_0_2 rfl rfl (by decide) (k := 0) (by decide) ?_
                  refine aw_iconst hC dX9_carLine_138 (v := 1) (by decide) ?_
                  refine aw_iadd hC dX9_carLine_139 ?_
                  refine aw_iast hC dX9_carLine_140 rm_7_0_2 rfl rfl (by decide) (k := 0) (by decide) (fun h213 => ?_)
                  exact aw_vret hC dX9_carLine_141 rfl rfl
                · exact aw_vret hC dX9_carLine_103 rfl rfl
              · refine aw_aload_n hC dX9_carLine_78 rfl ?_
                refine aw_iconst hC dX9_carLine_79 (v := 3) (by decide) ?_
                refine aw_bind rfl (fun q214 hq214 => ?_)
                refine aw_cVv hC dX9_carLine_80 cv_RX9_174 rfl rm_7_0_0 (am_some (inj := (fun r => (.inr (none), r))) hq214 (A_X9_wrong _ (hC.2.2.2.2.2.2.2.2.2.2.2.2.1) _ _ _ (3 : Int32) q198)) rfl rfl rfl rfl rfl ⟨rfl, rfl⟩ ?_
                refine aw_aload_n hC dX9_carLine_83 rfl ?_
                refine aw_bind rfl (fun q215 hq215 => ?_)
                refine aw_cVj hC dX9_carLine_84 cv_RX9_264 rfl rm_7_0_0 (am_some (inj := (fun r => (.inr (some (.long r.1)), r.2))) hq215 (A_X9_nameHere _ (hC.2.2.2.2.2.2.2.2.2.2.2.2.1) _ _ _ q214)) rfl rfl rfl rfl rfl ⟨rfl, rfl⟩ ?_
                refine aw_lstore_n hC dX9_carLine_87 (by decide) ?_
                refine aw_aload_n hC dX9_carLine_88 rfl ?_
                refine aw_iconst hC dX9_carLine_89 (v := 0) (by decide) ?_
                refine aw_iload_n hC dX9_carLine_90 rfl ?_
                refine aw_bind rfl (fun q216 hq216 => ?_)
                refine aw_cVi hC dX9_carLine_91 cv_RX9_268 rfl rm_7_0_0 (am_some (inj := (fun r => (.inr (some (.int r.1)), r.2))) hq216 (A_X9_number _ (hC.2.2.2.2.2.2.2.2.2.2.2.2.1) _ _ _ (0 : Int32) p1 q215.2)) rfl rfl rfl rfl rfl ⟨rfl, rfl⟩ ?_
                refine aw_istore hC dX9_carLine_94 (by decide) ?_
                refine aw_aload_n hC dX9_carLine_96 rfl ?_
                refine aw_cVb hC dX9_carLine_97 cv_RX9_167 rfl rm_7_0_0 (A_X9_isGood _ (hC.2.2.2.2.2.2.2.2.2.2.2.2.1) _ _ _ q216.2) rfl rfl rfl rfl rfl ⟨rfl, rfl⟩ ?_
                refine aw_if_ne_b hC dX9_carLine_100 (tgt := 104) (by decide) ?_ ?_
                · refine aw_aload_n hC dX9_carLine_104 rfl ?_
                  refine aw_gfR hC dX9_carLine_105 fg_RX9_35 rfl rfl rm_7_0_0 ?_
                  refine aw_aload_n hC dX9_carLine_108 rfl ?_
                  refine aw_gfR hC dX9_carLine_109 fg_RX9_20 rfl rfl rm_7_0_0 ?_
                  refine aw_iconst hC dX9_carLine_112 (v := 0) (by decide) ?_
                  refine aw_iald hC dX9_carLine_113 rm_7_0_2 rfl rfl (by decide) (k := 0) (by decide) ?_
                  refine aw_lload_n hC dX9_carLine_114 rfl ?_
                  refine aw_guard rfl (fun g218 => ?_)
                  refine aw_last hC dX9_carLine_115 rm_7_0_7 rfl rfl g218 rfl (fun h217 => ?_)
                  refine aw_aload_n hC dX9_carLine_116 rfl ?_
                  refine aw_gfR hC dX9_carLine_117 fg_RX9_20 rfl rfl rm_7_0_0 ?_
                  refine aw_iconst hC dX9_carLine_120 (v := 2) (by decide) ?_
                  refine aw_aload_n hC dX9_carLine_121 rfl ?_
                  refine aw_gfR hC dX9_carLine_122 fg_RX9_20 rfl rfl rm_7_0_0 ?_
                  refine aw_iconst hC dX9_carLine_125 (v := 0) (by decide) ?_
                  refine aw_iald hC dX9_carLine_126 rm_7_0_2 rfl rfl (by decide) (k := 0) (by decide) ?_
                  refine aw_iadd hC dX9_carLine_127 ?_
                  refine aw_iload hC dX9_carLine_128 rfl ?_
                  refine aw_guard rfl (fun g220 => ?_)
                  refine aw_iast hC dX9_carLine_130 rm_7_0_2 rfl rfl g220 rfl (fun h219 => ?_)
                  refine aw_aload_n hC dX9_carLine_131 rfl ?_
                  refine aw_gfR hC dX9_carLine_132 fg_RX9_20 rfl rfl rm_7_0_0 ?_
                  refine aw_iconst hC dX9_carLine_135 (v := 0) (by decide) ?_
                  refine aw_dup2 hC dX9_carLine_136 rfl rfl ?_
                  refine aw_iald hC dX9_carLine_137 rm_7_0_2 rfl rfl (by decide) (k := 0) (by decide) ?_
                  refine aw_iconst hC dX9_carLine_138 (v := 1) (by decide) ?_
                  refine aw_iadd hC dX9_carLine_139 ?_
                  refine aw_iast hC dX9_carLine_140 rm_7_0_2 rfl rfl (by decide) (k := 0) (by decide) (fun h221 => ?_)
                  exact aw_vret hC dX9_carLine_141 rfl rfl
                · exact aw_vret hC dX9_carLine_103 rfl rfl
          · refine aw_aload_n hC dX9_carLine_51 rfl ?_
            refine aw_bind rfl (fun q222 hq222 => ?_)
            refine aw_cVv hC dX9_carLine_52 cv_RX9_177 rfl rm_7_0_0 (am_some (inj := (fun r => (.inr (none), r))) hq222 (A_X9_goOnRead _ (hC.2.2.2.2.2.2.2.2.2.2.2.2.1) _ _ _ h)) rfl rfl rfl rfl rfl ⟨rfl, rfl⟩ ?_
            refine aw_aload_n hC dX9_carLine_55 rfl ?_
            refine aw_bind rfl (fun q223 hq223 => ?_)
            refine aw_cVv hC dX9_carLine_56 cv_RX9_255 rfl rm_7_0_0 (am_some (inj := (fun r => (.inr (none), r))) hq223 (A_X9_mustName _ (hC.2.2.2.2.2.2.2.2.2.2.2.2.1) _ _ _ q222)) rfl rfl rfl rfl rfl ⟨rfl, rfl⟩ ?_
            refine aw_aload_n hC dX9_carLine_59 rfl ?_
            refine aw_cVb hC dX9_carLine_60 cv_RX9_167 rfl rm_7_0_0 (A_X9_isGood _ (hC.2.2.2.2.2.2.2.2.2.2.2.2.1) _ _ _ q223) rfl rfl rfl rfl rfl ⟨rfl, rfl⟩ ?_
            refine aw_if_eq_b hC dX9_carLine_63 (tgt := 83) (by decide) ?_ ?_
            · refine aw_aload_n hC dX9_carLine_83 rfl ?_
              refine aw_bind rfl (fun q224 hq224 => ?_)
              refine aw_cVj hC dX9_carLine_84 cv_RX9_264 rfl rm_7_0_0 (am_some (inj := (fun r => (.inr (some (.long r.1)), r.2))) hq224 (A_X9_nameHere _ (hC.2.2.2.2.2.2.2.2.2.2.2.2.1) _ _ _ q223)) rfl rfl rfl rfl rfl ⟨rfl, rfl⟩ ?_
              refine aw_lstore_n hC dX9_carLine_87 (by decide) ?_
              refine aw_aload_n hC dX9_carLine_88 rfl ?_
              refine aw_iconst hC dX9_carLine_89 (v := 0) (by decide) ?_
              refine aw_iload_n hC dX9_carLine_90 rfl ?_
              refine aw_bind rfl (fun q225 hq225 => ?_)
              refine aw_cVi hC dX9_carLine_91 cv_RX9_268 rfl rm_7_0_0 (am_some (inj := (fun r => (.inr (some (.int r.1)), r.2))) hq225 (A_X9_number _ (hC.2.2.2.2.2.2.2.2.2.2.2.2.1) _ _ _ (0 : Int32) p1 q224.2)) rfl rfl rfl rfl rfl ⟨rfl, rfl⟩ ?_
              refine aw_istore hC dX9_carLine_94 (by decide) ?_
              refine aw_aload_n hC dX9_carLine_96 rfl ?_
              refine aw_cVb hC dX9_carLine_97 cv_RX9_167 rfl rm_7_0_0 (A_X9_isGood _ (hC.2.2.2.2.2.2.2.2.2.2.2.2.1) _ _ _ q225.2) rfl rfl rfl rfl rfl ⟨rfl, rfl⟩ ?_
              refine aw_if_ne_b hC dX9_carLine_100 (tgt := 104) (by decide) ?_ ?_
              · refine aw_aload_n hC dX9_carLine_104 rfl ?_
                refine aw_gfR hC dX9_carLine_105 fg_RX9_35 rfl rfl rm_7_0_0 ?_
                refine aw_aload_n hC dX9_carLine_108 rfl ?_
                refine aw_gfR hC dX9_carLine_109 fg_RX9_20 rfl rfl rm_7_0_0 ?_
                refine aw_iconst hC dX9_carLine_112 (v := 0) (by decide) ?_
                refine aw_iald hC dX9_carLine_113 rm_7_0_2 rfl rfl (by decide) (k := 0) (by decide) ?_
                refine aw_lload_n hC dX9_carLine_114 rfl ?_
                refine aw_guard rfl (fun g227 => ?_)
                refine aw_last hC dX9_carLine_115 rm_7_0_7 rfl rfl g227 rfl (fun h226 => ?_)
                refine aw_aload_n hC dX9_carLine_116 rfl ?_
                refine aw_gfR hC dX9_carLine_117 fg_RX9_20 rfl rfl rm_7_0_0 ?_
                refine aw_iconst hC dX9_carLine_120 (v := 2) (by decide) ?_
                refine aw_aload_n hC dX9_carLine_121 rfl ?_
                refine aw_gfR hC dX9_carLine_122 fg_RX9_20 rfl rfl rm_7_0_0 ?_
                refine aw_iconst hC dX9_carLine_125 (v := 0) (by decide) ?_
                refine aw_iald hC dX9_carLine_126 rm_7_0_2 rfl rfl (by decide) (k := 0) (by decide) ?_
                refine aw_iadd hC dX9_carLine_127 ?_
                refine aw_iload hC dX9_carLine_128 rfl ?_
                refine aw_guard rfl (fun g229 => ?_)
                refine aw_iast hC dX9_carLine_130 rm_7_0_2 rfl rfl g229 rfl (fun h228 => ?_)
                refine aw_aload_n hC dX9_carLine_131 rfl ?_
                refine aw_gfR hC dX9_carLine_132 fg_RX9_20 rfl rfl rm_7_0_0 ?_
                refine aw_iconst hC dX9_carLine_135 (v := 0) (by decide) ?_
                refine aw_dup2 hC dX9_carLine_136 rfl rfl ?_
                refine aw_iald hC dX9_carLine_137 rm_7_0_2 rfl rfl (by decide) (k := 0) (by decide) ?_
                refine aw_iconst hC dX9_carLine_138 (v := 1) (by decide) ?_
                refine aw_iadd hC dX9_carLine_139 ?_
                refine aw_iast hC dX9_carLine_140 rm_7_0_2 rfl rfl (by decide) (k := 0) (by decide) (fun h230 => ?_)
                exact aw_vret hC dX9_carLine_141 rfl rfl
              · exact aw_vret hC dX9_carLine_103 rfl rfl
            · refine aw_aload_n hC dX9_carLine_66 rfl ?_
              refine aw_aload_n hC dX9_carLine_67 rfl ?_
              refine aw_gfJ hC dX9_carLine_68 fg_RX9_147 rfl rm_7_0_0 ?_
              refine aw_bind rfl (fun q231 hq231 => ?_)
              refine aw_cVi hC dX9_carLine_71 cv_RX9_260 rfl rm_7_0_0 (am_some (inj := (fun r => (.inr (some (.int r)), q223))) hq231 (A_X9_carNamed _ (hC.2.2.2.2.2.2.2.2.2.2.2.2.1) _ _ _ (gJ q223 (7, 0, 0) 12) q223)) rfl rfl rfl rfl rfl ⟨rfl, rfl⟩ ?_
              refine aw_iconst hC dX9_carLine_74 (v := -1) (by decide) ?_
              refine aw_icmp_eq hC dX9_carLine_75 (tgt := 83) (by decide) ?_ ?_
              · refine aw_aload_n hC dX9_carLine_83 rfl ?_
                refine aw_bind rfl (fun q232 hq232 => ?_)
                refine aw_cVj hC dX9_carLine_84 cv_RX9_264 rfl rm_7_0_0 (am_some (inj := (fun r => (.inr (some (.long r.1)), r.2))) hq232 (A_X9_nameHere _ (hC.2.2.2.2.2.2.2.2.2.2.2.2.1) _ _ _ q223)) rfl rfl rfl rfl rfl ⟨rfl, rfl⟩ ?_
                refine aw_lstore_n hC dX9_carLine_87 (by decide) ?_
                refine aw_aload_n hC dX9_carLine_88 rfl ?_
                refine aw_iconst hC dX9_carLine_89 (v := 0) (by decide) ?_
                refine aw_iload_n hC dX9_carLine_90 rfl ?_
                refine aw_bind rfl (fun q233 hq233 => ?_)
                refine aw_cVi hC dX9_carLine_91 cv_RX9_268 rfl rm_7_0_0 (am_some (inj := (fun r => (.inr (some (.int r.1)), r.2))) hq233 (A_X9_number _ (hC.2.2.2.2.2.2.2.2.2.2.2.2.1) _ _ _ (0 : Int32) p1 q232.2)) rfl rfl rfl rfl rfl ⟨rfl, rfl⟩ ?_
                refine aw_istore hC dX9_carLine_94 (by decide) ?_
                refine aw_aload_n hC dX9_carLine_96 rfl ?_
                refine aw_cVb hC dX9_carLine_97 cv_RX9_167 rfl rm_7_0_0 (A_X9_isGood _ (hC.2.2.2.2.2.2.2.2.2.2.2.2.1) _ _ _ q233.2) rfl rfl rfl rfl rfl ⟨rfl, rfl⟩ ?_
                refine aw_if_ne_b hC dX9_carLine_100 (tgt := 104) (by decide) ?_ ?_
                · refine aw_aload_n hC dX9_carLine_104 rfl ?_
                  refine aw_gfR hC dX9_carLine_105 fg_RX9_35 rfl rfl rm_7_0_0 ?_
                  refine aw_aload_n hC dX9_carLine_108 rfl ?_
                  refine aw_gfR hC dX9_carLine_109 fg_RX9_20 rfl rfl rm_7_0_0 ?_
                  refine aw_iconst hC dX9_carLine_112 (v := 0) (by decide) ?_
                  refine aw_iald hC dX9_carLine_113 rm_7_0_2 rfl rfl (by decide) (k := 0) (by decide) ?_
                  refine aw_lload_n hC dX9_carLine_114 rfl ?_
                  refine aw_guard rfl (fun g235 => ?_)
                  refine aw_last hC dX9_carLine_115 rm_7_0_7 rfl rfl g235 rfl (fun h234 => ?_)
                  refine aw_aload_n hC dX9_carLine_116 rfl ?_
                  refine aw_gfR hC dX9_carLine_117 fg_RX9_20 rfl rfl rm_7_0_0 ?_
                  refine aw_iconst hC dX9_carLine_120 (v := 2) (by decide) ?_
                  refine aw_aload_n hC dX9_carLine_121 rfl ?_
                  refine aw_gfR hC dX9_carLine_122 fg_RX9_20 rfl rfl rm_7_0_0 ?_
                  refine aw_iconst hC dX9_carLine_125 (v := 0) (by decide) ?_
                  refine aw_iald hC dX9_carLine_126 rm_7_0_2 rfl rfl (by decide) (k := 0) (by decide) ?_
                  refine aw_iadd hC dX9_carLine_127 ?_
                  refine aw_iload hC dX9_carLine_128 rfl ?_
                  refine aw_guard rfl (fun g237 => ?_)
                  refine aw_iast hC dX9_carLine_130 rm_7_0_2 rfl rfl g237 rfl (fun h236 => ?_)
                  refine aw_aload_n hC dX9_carLine_131 rfl ?_
                  refine aw_gfR hC dX9_carLine_132 fg_RX9_20 rfl rfl rm_7_0_0 ?_
                  refine aw_iconst hC dX9_carLine_135 (v := 0) (by decide) ?_
                  refine aw_dup2 hC dX9_carLine_136 rfl rfl ?_
                  refine aw_iald hC dX9_carLine_137 rm_7_0_2 rfl rfl (by decide) (k := 0) (by decide) ?_
                  refine aw_iconst hC dX9_carLine_138 (v := 1) (by decide) ?_
                  refine aw_iadd hC dX9_carLine_139 ?_
                  refine aw_iast hC dX9_carLine_140 rm_7_0_2 rfl rfl (by decide) (k := 0) (by decide) (fun h238 => ?_)
                  exact aw_vret hC dX9_carLine_141 rfl rfl
                · exact aw_vret hC dX9_carLine_103 rfl rfl
              · refine aw_aload_n hC dX9_carLine_78 rfl ?_
                refine aw_iconst hC dX9_carLine_79 (v := 3) (by decide) ?_
                refine aw_bind rfl (fun q239 hq239 => ?_)
                refine aw_cVv hC dX9_carLine_80 cv_RX9_174 rfl rm_7_0_0 (am_some (inj := (fun r => (.inr (none), r))) hq239 (A_X9_wrong _ (hC.2.2.2.2.2.2.2.2.2.2.2.2.1) _ _ _ (3 : Int32) q223)) rfl rfl rfl rfl rfl ⟨rfl, rfl⟩ ?_
                refine aw_aload_n hC dX9_carLine_83 rfl ?_
                refine aw_bind rfl (fun q240 hq240 => ?_)
                refine aw_cVj hC dX9_carLine_84 cv_RX9_264 rfl rm_7_0_0 (am_some (inj := (fun r => (.inr (some (.long r.1)), r.2))) hq240 (A_X9_nameHere _ (hC.2.2.2.2.2.2.2.2.2.2.2.2.1) _ _ _ q239)) rfl rfl rfl rfl rfl ⟨rfl, rfl⟩ ?_
                refine aw_lstore_n hC dX9_carLine_87 (by decide) ?_
                refine aw_aload_n hC dX9_carLine_88 rfl ?_
                refine aw_iconst hC dX9_carLine_89 (v := 0) (by decide) ?_
                refine aw_iload_n hC dX9_carLine_90 rfl ?_
                refine aw_bind rfl (fun q241 hq241 => ?_)
                refine aw_cVi hC dX9_carLine_91 cv_RX9_268 rfl rm_7_0_0 (am_some (inj := (fun r => (.inr (some (.int r.1)), r.2))) hq241 (A_X9_number _ (hC.2.2.2.2.2.2.2.2.2.2.2.2.1) _ _ _ (0 : Int32) p1 q240.2)) rfl rfl rfl rfl rfl ⟨rfl, rfl⟩ ?_
                refine aw_istore hC dX9_carLine_94 (by decide) ?_
                refine aw_aload_n hC dX9_carLine_96 rfl ?_
                refine aw_cVb hC dX9_carLine_97 cv_RX9_167 rfl rm_7_0_0 (A_X9_isGood _ (hC.2.2.2.2.2.2.2.2.2.2.2.2.1) _ _ _ q241.2) rfl rfl rfl rfl rfl ⟨rfl, rfl⟩ ?_
                refine aw_if_ne_b hC dX9_carLine_100 (tgt := 104) (by decide) ?_ ?_
                · refine aw_aload_n hC dX9_carLine_104 rfl ?_
                  refine aw_gfR hC dX9_carLine_105 fg_RX9_35 rfl rfl rm_7_0_0 ?_
                  refine aw_aload_n hC dX9_carLine_108 rfl ?_
                  refine aw_gfR hC dX9_carLine_109 fg_RX9_20 rfl rfl rm_7_0_0 ?_
                  refine aw_iconst hC dX9_carLine_112 (v := 0) (by decide) ?_
                  refine aw_iald hC dX9_carLine_113 rm_7_0_2 rfl rfl (by decide) (k := 0) (by decide) ?_
                  refine aw_lload_n hC dX9_carLine_114 rfl ?_
                  refine aw_guard rfl (fun g243 => ?_)
                  refine aw_last hC dX9_carLine_115 rm_7_0_7 rfl rfl g243 rfl (fun h242 => ?_)
                  refine aw_aload_n hC dX9_carLine_116 rfl ?_
                  refine aw_gfR hC dX9_carLine_117 fg_RX9_20 rfl rfl rm_7_0_0 ?_
                  refine aw_iconst hC dX9_carLine_120 (v := 2) (by decide) ?_
                  refine aw_aload_n hC dX9_carLine_121 rfl ?_
                  refine aw_gfR hC dX9_carLine_122 fg_RX9_20 rfl rfl rm_7_0_0 ?_
                  refine aw_iconst hC dX9_carLine_125 (v := 0) (by decide) ?_
                  refine aw_iald hC dX9_carLine_126 rm_7_0_2 rfl rfl (by decide) (k := 0) (by decide) ?_
                  refine aw_iadd hC dX9_carLine_127 ?_
                  refine aw_iload hC dX9_carLine_128 rfl ?_
                  refine aw_guard rfl (fun g245 => ?_)
                  refine aw_iast hC dX9_carLine_130 rm_7_0_2 rfl rfl g245 rfl (fun h244 => ?_)
                  refine aw_aload_n hC dX9_carLine_131 rfl ?_
                  refine aw_gfR hC dX9_carLine_132 fg_RX9_20 rfl rfl rm_7_0_0 ?_
                  refine aw_iconst hC dX9_carLine_135 (v := 0) (by decide) ?_
                  refine aw_dup2 hC dX9_carLine_136 rfl rfl ?_
                  refine aw_iald hC dX9_carLine_137 rm_7_0_2 rfl rfl (by decide) (k := 0) (by decide) ?_
                  refine aw_iconst hC dX9_carLine_138 (v := 1) (by decide) ?_
                  refine aw_iadd hC dX9_carLine_139 ?_
                  refine aw_iast hC dX9_carLine_140 rm_7_0_2 rfl rfl (by decide) (k := 0) (by decide) (fun h246 => ?_)
                  exact aw_vret hC dX9_carLine_141 rfl rfl
                · exact aw_vret hC dX9_carLine_103 rfl rfl
        · refine aw_aload_n hC dX9_carLine_39 rfl ?_
          refine aw_iconst hC dX9_carLine_40 (v := 5) (by decide) ?_
          refine aw_bind rfl (fun q247 hq247 => ?_)
          refine aw_cVv hC dX9_carLine_41 cv_RX9_174 rfl rm_7_0_0 (am_some (inj := (fun r => (.inr (none), r))) hq247 (A_X9_wrong _ (hC.2.2.2.2.2.2.2.2.2.2.2.2.1) _ _ _ (5 : Int32) h)) rfl rfl rfl rfl rfl ⟨rfl, rfl⟩ ?_
          refine aw_aload_n hC dX9_carLine_44 rfl ?_
          refine aw_cVb hC dX9_carLine_45 cv_RX9_167 rfl rm_7_0_0 (A_X9_isGood _ (hC.2.2.2.2.2.2.2.2.2.2.2.2.1) _ _ _ q247) rfl rfl rfl rfl rfl ⟨rfl, rfl⟩ ?_
          refine aw_if_eq_b hC dX9_carLine_48 (tgt := 55) (by decide) ?_ ?_
          · refine aw_aload_n hC dX9_carLine_55 rfl ?_
            refine aw_bind rfl (fun q248 hq248 => ?_)
            refine aw_cVv hC dX9_carLine_56 cv_RX9_255 rfl rm_7_0_0 (am_some (inj := (fun r => (.inr (none), r))) hq248 (A_X9_mustName _ (hC.2.2.2.2.2.2.2.2.2.2.2.2.1) _ _ _ q247)) rfl rfl rfl rfl rfl ⟨rfl, rfl⟩ ?_
            refine aw_aload_n hC dX9_carLine_59 rfl ?_
            refine aw_cVb hC dX9_carLine_60 cv_RX9_167 rfl rm_7_0_0 (A_X9_isGood _ (hC.2.2.2.2.2.2.2.2.2.2.2.2.1) _ _ _ q248) rfl rfl rfl rfl rfl ⟨rfl, rfl⟩ ?_
            refine aw_if_eq_b hC dX9_carLine_63 (tgt := 83) (by decide) ?_ ?_
            · refine aw_aload_n hC dX9_carLine_83 rfl ?_
              refine aw_bind rfl (fun q249 hq249 => ?_)
              refine aw_cVj hC dX9_carLine_84 cv_RX9_264 rfl rm_7_0_0 (am_some (inj := (fun r => (.inr (some (.long r.1)), r.2))) hq249 (A_X9_nameHere _ (hC.2.2.2.2.2.2.2.2.2.2.2.2.1) _ _ _ q248)) rfl rfl rfl rfl rfl ⟨rfl, rfl⟩ ?_
              refine aw_lstore_n hC dX9_carLine_87 (by decide) ?_
              refine aw_aload_n hC dX9_carLine_88 rfl ?_
              refine aw_iconst hC dX9_carLine_89 (v := 0) (by decide) ?_
              refine aw_iload_n hC dX9_carLine_90 rfl ?_
              refine aw_bind rfl (fun q250 hq250 => ?_)
              refine aw_cVi hC dX9_carLine_91 cv_RX9_268 rfl rm_7_0_0 (am_some (inj := (fun r => (.inr (some (.int r.1)), r.2))) hq250 (A_X9_number _ (hC.2.2.2.2.2.2.2.2.2.2.2.2.1) _ _ _ (0 : Int32) p1 q249.2)) rfl rfl rfl rfl rfl ⟨rfl, rfl⟩ ?_
              refine aw_istore hC dX9_carLine_94 (by decide) ?_
              refine aw_aload_n hC dX9_carLine_96 rfl ?_
              refine aw_cVb hC dX9_carLine_97 cv_RX9_167 rfl rm_7_0_0 (A_X9_isGood _ (hC.2.2.2.2.2.2.2.2.2.2.2.2.1) _ _ _ q250.2) rfl rfl rfl rfl rfl ⟨rfl, rfl⟩ ?_
              refine aw_if_ne_b hC dX9_carLine_100 (tgt := 104) (by decide) ?_ ?_
              · refine aw_aload_n hC dX9_carLine_104 rfl ?_
                refine aw_gfR hC dX9_carLine_105 fg_RX9_35 rfl rfl rm_7_0_0 ?_
                refine aw_aload_n hC dX9_carLine_108 rfl ?_
                refine aw_gfR hC dX9_carLine_109 fg_RX9_20 rfl rfl rm_7_0_0 ?_
                refine aw_iconst hC dX9_carLine_112 (v := 0) (by decide) ?_
                refine aw_iald hC dX9_carLine_113 rm_7_0_2 rfl rfl (by decide) (k := 0) (by decide) ?_
                refine aw_lload_n hC dX9_carLine_114 rfl ?_
                refine aw_guard rfl (fun g252 => ?_)
                refine aw_last hC dX9_carLine_115 rm_7_0_7 rfl rfl g252 rfl (fun h251 => ?_)
                refine aw_aload_n hC dX9_carLine_116 rfl ?_
                refine aw_gfR hC dX9_carLine_117 fg_RX9_20 rfl rfl rm_7_0_0 ?_
                refine aw_iconst hC dX9_carLine_120 (v := 2) (by decide) ?_
                refine aw_aload_n hC dX9_carLine_121 rfl ?_
                refine aw_gfR hC dX9_carLine_122 fg_RX9_20 rfl rfl rm_7_0_0 ?_
                refine aw_iconst hC dX9_carLine_125 (v := 0) (by decide) ?_
                refine aw_iald hC dX9_carLine_126 rm_7_0_2 rfl rfl (by decide) (k := 0) (by decide) ?_
                refine aw_iadd hC dX9_carLine_127 ?_
                refine aw_iload hC dX9_carLine_128 rfl ?_
                refine aw_guard rfl (fun g254 => ?_)
                refine aw_iast hC dX9_carLine_130 rm_7_0_2 rfl rfl g254 rfl (fun h253 => ?_)
                refine aw_aload_n hC dX9_carLine_131 rfl ?_
                refine aw_gfR hC dX9_carLine_132 fg_RX9_20 rfl rfl rm_7_0_0 ?_
                refine aw_iconst hC dX9_carLine_135 (v := 0) (by decide) ?_
                refine aw_dup2 hC dX9_carLine_136 rfl rfl ?_
                refine aw_iald hC dX9_carLine_137 rm_7_0_2 rfl rfl (by decide) (k := 0) (by decide) ?_
                refine aw_iconst hC dX9_carLine_138 (v := 1) (by decide) ?_
                refine aw_iadd hC dX9_carLine_139 ?_
                refine aw_iast hC dX9_carLine_140 rm_7_0_2 rfl rfl (by decide) (k := 0) (by decide) (fun h255 => ?_)
                exact aw_vret hC dX9_carLine_141 rfl rfl
              · exact aw_vret hC dX9_carLine_103 rfl rfl
            · refine aw_aload_n hC dX9_carLine_66 rfl ?_
              refine aw_aload_n hC dX9_carLine_67 rfl ?_
              refine aw_gfJ hC dX9_carLine_68 fg_RX9_147 rfl rm_7_0_0 ?_
              refine aw_bind rfl (fun q256 hq256 => ?_)
              refine aw_cVi hC dX9_carLine_71 cv_RX9_260 rfl rm_7_0_0 (am_some (inj := (fun r => (.inr (some (.int r)), q248))) hq256 (A_X9_carNamed _ (hC.2.2.2.2.2.2.2.2.2.2.2.2.1) _ _ _ (gJ q248 (7, 0, 0) 12) q248)) rfl rfl rfl rfl rfl ⟨rfl, rfl⟩ ?_
              refine aw_iconst hC dX9_carLine_74 (v := -1) (by decide) ?_
              refine aw_icmp_eq hC dX9_carLine_75 (tgt := 83) (by decide) ?_ ?_
              · refine aw_aload_n hC dX9_carLine_83 rfl ?_
                refine aw_bind rfl (fun q257 hq257 => ?_)
                refine aw_cVj hC dX9_carLine_84 cv_RX9_264 rfl rm_7_0_0 (am_some (inj := (fun r => (.inr (some (.long r.1)), r.2))) hq257 (A_X9_nameHere _ (hC.2.2.2.2.2.2.2.2.2.2.2.2.1) _ _ _ q248)) rfl rfl rfl rfl rfl ⟨rfl, rfl⟩ ?_
                refine aw_lstore_n hC dX9_carLine_87 (by decide) ?_
                refine aw_aload_n hC dX9_carLine_88 rfl ?_
                refine aw_iconst hC dX9_carLine_89 (v := 0) (by decide) ?_
                refine aw_iload_n hC dX9_carLine_90 rfl ?_
                refine aw_bind rfl (fun q258 hq258 => ?_)
                refine aw_cVi hC dX9_carLine_91 cv_RX9_268 rfl rm_7_0_0 (am_some (inj := (fun r => (.inr (some (.int r.1)), r.2))) hq258 (A_X9_number _ (hC.2.2.2.2.2.2.2.2.2.2.2.2.1) _ _ _ (0 : Int32) p1 q257.2)) rfl rfl rfl rfl rfl ⟨rfl, rfl⟩ ?_
                refine aw_istore hC dX9_carLine_94 (by decide) ?_
                refine aw_aload_n hC dX9_carLine_96 rfl ?_
                refine aw_cVb hC dX9_carLine_97 cv_RX9_167 rfl rm_7_0_0 (A_X9_isGood _ (hC.2.2.2.2.2.2.2.2.2.2.2.2.1) _ _ _ q258.2) rfl rfl rfl rfl rfl ⟨rfl, rfl⟩ ?_
                refine aw_if_ne_b hC dX9_carLine_100 (tgt := 104) (by decide) ?_ ?_
                · refine aw_aload_n hC dX9_carLine_104 rfl ?_
                  refine aw_gfR hC dX9_carLine_105 fg_RX9_35 rfl rfl rm_7_0_0 ?_
                  refine aw_aload_n hC dX9_carLine_108 rfl ?_
                  refine aw_gfR hC dX9_carLine_109 fg_RX9_20 rfl rfl rm_7_0_0 ?_
                  refine aw_iconst hC dX9_carLine_112 (v := 0) (by decide) ?_
                  refine aw_iald hC dX9_carLine_113 rm_7_0_2 rfl rfl (by decide) (k := 0) (by decide) ?_
                  refine aw_lload_n hC dX9_carLine_114 rfl ?_
                  refine aw_guard rfl (fun g260 => ?_)
                  refine aw_last hC dX9_carLine_115 rm_7_0_7 rfl rfl g260 rfl (fun h259 => ?_)
                  refine aw_aload_n hC dX9_carLine_116 rfl ?_
                  refine aw_gfR hC dX9_carLine_117 fg_RX9_20 rfl rfl rm_7_0_0 ?_
                  refine aw_iconst hC dX9_carLine_120 (v := 2) (by decide) ?_
                  refine aw_aload_n hC dX9_carLine_121 rfl ?_
                  refine aw_gfR hC dX9_carLine_122 fg_RX9_20 rfl rfl rm_7_0_0 ?_
                  refine aw_iconst hC dX9_carLine_125 (v := 0) (by decide) ?_
                  refine aw_iald hC dX9_carLine_126 rm_7_0_2 rfl rfl (by decide) (k := 0) (by decide) ?_
                  refine aw_iadd hC dX9_carLine_127 ?_
                  refine aw_iload hC dX9_carLine_128 rfl ?_
                  refine aw_guard rfl (fun g262 => ?_)
                  refine aw_iast hC dX9_carLine_130 rm_7_0_2 rfl rfl g262 rfl (fun h261 => ?_)
                  refine aw_aload_n hC dX9_carLine_131 rfl ?_
                  refine aw_gfR hC dX9_carLine_132 fg_RX9_20 rfl rfl rm_7_0_0 ?_
                  refine aw_iconst hC dX9_carLine_135 (v := 0) (by decide) ?_
                  refine aw_dup2 hC dX9_carLine_136 rfl rfl ?_
                  refine aw_iald hC dX9_carLine_137 rm_7_0_2 rfl rfl (by decide) (k := 0) (by decide) ?_
                  refine aw_iconst hC dX9_carLine_138 (v := 1) (by decide) ?_
                  refine aw_iadd hC dX9_carLine_139 ?_
                  refine aw_iast hC dX9_carLine_140 rm_7_0_2 rfl rfl (by decide) (k := 0) (by decide) (fun h263 => ?_)
                  exact aw_vret hC dX9_carLine_141 rfl rfl
                · exact aw_vret hC dX9_carLine_103 rfl rfl
              · refine aw_aload_n hC dX9_carLine_78 rfl ?_
                refine aw_iconst hC dX9_carLine_79 (v := 3) (by decide) ?_
                refine aw_bind rfl (fun q264 hq264 => ?_)
                refine aw_cVv hC dX9_carLine_80 cv_RX9_174 rfl rm_7_0_0 (am_some (inj := (fun r => (.inr (none), r))) hq264 (A_X9_wrong _ (hC.2.2.2.2.2.2.2.2.2.2.2.2.1) _ _ _ (3 : Int32) q248)) rfl rfl rfl rfl rfl ⟨rfl, rfl⟩ ?_
                refine aw_aload_n hC dX9_carLine_83 rfl ?_
                refine aw_bind rfl (fun q265 hq265 => ?_)
                refine aw_cVj hC dX9_carLine_84 cv_RX9_264 rfl rm_7_0_0 (am_some (inj := (fun r => (.inr (some (.long r.1)), r.2))) hq265 (A_X9_nameHere _ (hC.2.2.2.2.2.2.2.2.2.2.2.2.1) _ _ _ q264)) rfl rfl rfl rfl rfl ⟨rfl, rfl⟩ ?_
                refine aw_lstore_n hC dX9_carLine_87 (by decide) ?_
                refine aw_aload_n hC dX9_carLine_88 rfl ?_
                refine aw_iconst hC dX9_carLine_89 (v := 0) (by decide) ?_
                refine aw_iload_n hC dX9_carLine_90 rfl ?_
                refine aw_bind rfl (fun q266 hq266 => ?_)
                refine aw_cVi hC dX9_carLine_91 cv_RX9_268 rfl rm_7_0_0 (am_some (inj := (fun r => (.inr (some (.int r.1)), r.2))) hq266 (A_X9_number _ (hC.2.2.2.2.2.2.2.2.2.2.2.2.1) _ _ _ (0 : Int32) p1 q265.2)) rfl rfl rfl rfl rfl ⟨rfl, rfl⟩ ?_
                refine aw_istore hC dX9_carLine_94 (by decide) ?_
                refine aw_aload_n hC dX9_carLine_96 rfl ?_
                refine aw_cVb hC dX9_carLine_97 cv_RX9_167 rfl rm_7_0_0 (A_X9_isGood _ (hC.2.2.2.2.2.2.2.2.2.2.2.2.1) _ _ _ q266.2) rfl rfl rfl rfl rfl ⟨rfl, rfl⟩ ?_
                refine aw_if_ne_b hC dX9_carLine_100 (tgt := 104) (by decide) ?_ ?_
                · refine aw_aload_n hC dX9_carLine_104 rfl ?_
                  refine aw_gfR hC dX9_carLine_105 fg_RX9_35 rfl rfl rm_7_0_0 ?_
                  refine aw_aload_n hC dX9_carLine_108 rfl ?_
                  refine aw_gfR hC dX9_carLine_109 fg_RX9_20 rfl rfl rm_7_0_0 ?_
                  refine aw_iconst hC dX9_carLine_112 (v := 0) (by decide) ?_
                  refine aw_iald hC dX9_carLine_113 rm_7_0_2 rfl rfl (by decide) (k := 0) (by decide) ?_
                  refine aw_lload_n hC dX9_carLine_114 rfl ?_
                  refine aw_guard rfl (fun g268 => ?_)
                  refine aw_last hC dX9_carLine_115 rm_7_0_7 rfl rfl g268 rfl (fun h267 => ?_)
                  refine aw_aload_n hC dX9_carLine_116 rfl ?_
                  refine aw_gfR hC dX9_carLine_117 fg_RX9_20 rfl rfl rm_7_0_0 ?_
                  refine aw_iconst hC dX9_carLine_120 (v := 2) (by decide) ?_
                  refine aw_aload_n hC dX9_carLine_121 rfl ?_
                  refine aw_gfR hC dX9_carLine_122 fg_RX9_20 rfl rfl rm_7_0_0 ?_
                  refine aw_iconst hC dX9_carLine_125 (v := 0) (by decide) ?_
                  refine aw_iald hC dX9_carLine_126 rm_7_0_2 rfl rfl (by decide) (k := 0) (by decide) ?_
                  refine aw_iadd hC dX9_carLine_127 ?_
                  refine aw_iload hC dX9_carLine_128 rfl ?_
                  refine aw_guard rfl (fun g270 => ?_)
                  refine aw_iast hC dX9_carLine_130 rm_7_0_2 rfl rfl g270 rfl (fun h269 => ?_)
                  refine aw_aload_n hC dX9_carLine_131 rfl ?_
                  refine aw_gfR hC dX9_carLine_132 fg_RX9_20 rfl rfl rm_7_0_0 ?_
                  refine aw_iconst hC dX9_carLine_135 (v := 0) (by decide) ?_
                  refine aw_dup2 hC dX9_carLine_136 rfl rfl ?_
                  refine aw_iald hC dX9_carLine_137 rm_7_0_2 rfl rfl (by decide) (k := 0) (by decide) ?_
                  refine aw_iconst hC dX9_carLine_138 (v := 1) (by decide) ?_
                  refine aw_iadd hC dX9_carLine_139 ?_
                  refine aw_iast hC dX9_carLine_140 rm_7_0_2 rfl rfl (by decide) (k := 0) (by decide) (fun h271 => ?_)
                  exact aw_vret hC dX9_carLine_141 rfl rfl
                · exact aw_vret hC dX9_carLine_103 rfl rfl
          · refine aw_aload_n hC dX9_carLine_51 rfl ?_
            refine aw_bind rfl (fun q272 hq272 => ?_)
            refine aw_cVv hC dX9_carLine_52 cv_RX9_177 rfl rm_7_0_0 (am_some (inj := (fun r => (.inr (none), r))) hq272 (A_X9_goOnRead _ (hC.2.2.2.2.2.2.2.2.2.2.2.2.1) _ _ _ q247)) rfl rfl rfl rfl rfl ⟨rfl, rfl⟩ ?_
            refine aw_aload_n hC dX9_carLine_55 rfl ?_
            refine aw_bind rfl (fun q273 hq273 => ?_)
            refine aw_cVv hC dX9_carLine_56 cv_RX9_255 rfl rm_7_0_0 (am_some (inj := (fun r => (.inr (none), r))) hq273 (A_X9_mustName _ (hC.2.2.2.2.2.2.2.2.2.2.2.2.1) _ _ _ q272)) rfl rfl rfl rfl rfl ⟨rfl, rfl⟩ ?_
            refine aw_aload_n hC dX9_carLine_59 rfl ?_
            refine aw_cVb hC dX9_carLine_60 cv_RX9_167 rfl rm_7_0_0 (A_X9_isGood _ (hC.2.2.2.2.2.2.2.2.2.2.2.2.1) _ _ _ q273) rfl rfl rfl rfl rfl ⟨rfl, rfl⟩ ?_
            refine aw_if_eq_b hC dX9_carLine_63 (tgt := 83) (by decide) ?_ ?_
            · refine aw_aload_n hC dX9_carLine_83 rfl ?_
              refine aw_bind rfl (fun q274 hq274 => ?_)
              refine aw_cVj hC dX9_carLine_84 cv_RX9_264 rfl rm_7_0_0 (am_some (inj := (fun r => (.inr (some (.long r.1)), r.2))) hq274 (A_X9_nameHere _ (hC.2.2.2.2.2.2.2.2.2.2.2.2.1) _ _ _ q273)) rfl rfl rfl rfl rfl ⟨rfl, rfl⟩ ?_
              refine aw_lstore_n hC dX9_carLine_87 (by decide) ?_
              refine aw_aload_n hC dX9_carLine_88 rfl ?_
              refine aw_iconst hC dX9_carLine_89 (v := 0) (by decide) ?_
              refine aw_iload_n hC dX9_carLine_90 rfl ?_
              refine aw_bind rfl (fun q275 hq275 => ?_)
              refine aw_cVi hC dX9_carLine_91 cv_RX9_268 rfl rm_7_0_0 (am_some (inj := (fun r => (.inr (some (.int r.1)), r.2))) hq275 (A_X9_number _ (hC.2.2.2.2.2.2.2.2.2.2.2.2.1) _ _ _ (0 : Int32) p1 q274.2)) rfl rfl rfl rfl rfl ⟨rfl, rfl⟩ ?_
              refine aw_istore hC dX9_carLine_94 (by decide) ?_
              refine aw_aload_n hC dX9_carLine_96 rfl ?_
              refine aw_cVb hC dX9_carLine_97 cv_RX9_167 rfl rm_7_0_0 (A_X9_isGood _ (hC.2.2.2.2.2.2.2.2.2.2.2.2.1) _ _ _ q275.2) rfl rfl rfl rfl rfl ⟨rfl, rfl⟩ ?_
              refine aw_if_ne_b hC dX9_carLine_100 (tgt := 104) (by decide) ?_ ?_
              · refine aw_aload_n hC dX9_carLine_104 rfl ?_
                refine aw_gfR hC dX9_carLine_105 fg_RX9_35 rfl rfl rm_7_0_0 ?_
                refine aw_aload_n hC dX9_carLine_108 rfl ?_
                refine aw_gfR hC dX9_carLine_109 fg_RX9_20 rfl rfl rm_7_0_0 ?_
                refine aw_iconst hC dX9_carLine_112 (v := 0) (by decide) ?_
                refine aw_iald hC dX9_carLine_113 rm_7_0_2 rfl rfl (by decide) (k := 0) (by decide) ?_
                refine aw_lload_n hC dX9_carLine_114 rfl ?_
                refine aw_guard rfl (fun g277 => ?_)
                refine aw_last hC dX9_carLine_115 rm_7_0_7 rfl rfl g277 rfl (fun h276 => ?_)
                refine aw_aload_n hC dX9_carLine_116 rfl ?_
                refine aw_gfR hC dX9_carLine_117 fg_RX9_20 rfl rfl rm_7_0_0 ?_
                refine aw_iconst hC dX9_carLine_120 (v := 2) (by decide) ?_
                refine aw_aload_n hC dX9_carLine_121 rfl ?_
                refine aw_gfR hC dX9_carLine_122 fg_RX9_20 rfl rfl rm_7_0_0 ?_
                refine aw_iconst hC dX9_carLine_125 (v := 0) (by decide) ?_
                refine aw_iald hC dX9_carLine_126 rm_7_0_2 rfl rfl (by decide) (k := 0) (by decide) ?_
                refine aw_iadd hC dX9_carLine_127 ?_
                refine aw_iload hC dX9_carLine_128 rfl ?_
                refine aw_guard rfl (fun g279 => ?_)
                refine aw_iast hC dX9_carLine_130 rm_7_0_2 rfl rfl g279 rfl (fun h278 => ?_)
                refine aw_aload_n hC dX9_carLine_131 rfl ?_
                refine aw_gfR hC dX9_carLine_132 fg_RX9_20 rfl rfl rm_7_0_0 ?_
                refine aw_iconst hC dX9_carLine_135 (v := 0) (by decide) ?_
                refine aw_dup2 hC dX9_carLine_136 rfl rfl ?_
                refine aw_iald hC dX9_carLine_137 rm_7_0_2 rfl rfl (by decide) (k := 0) (by decide) ?_
                refine aw_iconst hC dX9_carLine_138 (v := 1) (by decide) ?_
                refine aw_iadd hC dX9_carLine_139 ?_
                refine aw_iast hC dX9_carLine_140 rm_7_0_2 rfl rfl (by decide) (k := 0) (by decide) (fun h280 => ?_)
                exact aw_vret hC dX9_carLine_141 rfl rfl
              · exact aw_vret hC dX9_carLine_103 rfl rfl
            · refine aw_aload_n hC dX9_carLine_66 rfl ?_
              refine aw_aload_n hC dX9_carLine_67 rfl ?_
              refine aw_gfJ hC dX9_carLine_68 fg_RX9_147 rfl rm_7_0_0 ?_
              refine aw_bind rfl (fun q281 hq281 => ?_)
              refine aw_cVi hC dX9_carLine_71 cv_RX9_260 rfl rm_7_0_0 (am_some (inj := (fun r => (.inr (some (.int r)), q273))) hq281 (A_X9_carNamed _ (hC.2.2.2.2.2.2.2.2.2.2.2.2.1) _ _ _ (gJ q273 (7, 0, 0) 12) q273)) rfl rfl rfl rfl rfl ⟨rfl, rfl⟩ ?_
              refine aw_iconst hC dX9_carLine_74 (v := -1) (by decide) ?_
              refine aw_icmp_eq hC dX9_carLine_75 (tgt := 83) (by decide) ?_ ?_
              · refine aw_aload_n hC dX9_carLine_83 rfl ?_
                refine aw_bind rfl (fun q282 hq282 => ?_)
                refine aw_cVj hC dX9_carLine_84 cv_RX9_264 rfl rm_7_0_0 (am_some (inj := (fun r => (.inr (some (.long r.1)), r.2))) hq282 (A_X9_nameHere _ (hC.2.2.2.2.2.2.2.2.2.2.2.2.1) _ _ _ q273)) rfl rfl rfl rfl rfl ⟨rfl, rfl⟩ ?_
                refine aw_lstore_n hC dX9_carLine_87 (by decide) ?_
                refine aw_aload_n hC dX9_carLine_88 rfl ?_
                refine aw_iconst hC dX9_carLine_89 (v := 0) (by decide) ?_
                refine aw_iload_n hC dX9_carLine_90 rfl ?_
                refine aw_bind rfl (fun q283 hq283 => ?_)
                refine aw_cVi hC dX9_carLine_91 cv_RX9_268 rfl rm_7_0_0 (am_some (inj := (fun r => (.inr (some (.int r.1)), r.2))) hq283 (A_X9_number _ (hC.2.2.2.2.2.2.2.2.2.2.2.2.1) _ _ _ (0 : Int32) p1 q282.2)) rfl rfl rfl rfl rfl ⟨rfl, rfl⟩ ?_
                refine aw_istore hC dX9_carLine_94 (by decide) ?_
                refine aw_aload_n hC dX9_carLine_96 rfl ?_
                refine aw_cVb hC dX9_carLine_97 cv_RX9_167 rfl rm_7_0_0 (A_X9_isGood _ (hC.2.2.2.2.2.2.2.2.2.2.2.2.1) _ _ _ q283.2) rfl rfl rfl rfl rfl ⟨rfl, rfl⟩ ?_
                refine aw_if_ne_b hC dX9_carLine_100 (tgt := 104) (by decide) ?_ ?_
                · refine aw_aload_n hC dX9_carLine_104 rfl ?_
                  refine aw_gfR hC dX9_carLine_105 fg_RX9_35 rfl rfl rm_7_0_0 ?_
                  refine aw_aload_n hC dX9_carLine_108 rfl ?_
                  refine aw_gfR hC dX9_carLine_109 fg_RX9_20 rfl rfl rm_7_0_0 ?_
                  refine aw_iconst hC dX9_carLine_112 (v := 0) (by decide) ?_
                  refine aw_iald hC dX9_carLine_113 rm_7_0_2 rfl rfl (by decide) (k := 0) (by decide) ?_
                  refine aw_lload_n hC dX9_carLine_114 rfl ?_
                  refine aw_guard rfl (fun g285 => ?_)
                  refine aw_last hC dX9_carLine_115 rm_7_0_7 rfl rfl g285 rfl (fun h284 => ?_)
                  refine aw_aload_n hC dX9_carLine_116 rfl ?_
                  refine aw_gfR hC dX9_carLine_117 fg_RX9_20 rfl rfl rm_7_0_0 ?_
                  refine aw_iconst hC dX9_carLine_120 (v := 2) (by decide) ?_
                  refine aw_aload_n hC dX9_carLine_121 rfl ?_
                  refine aw_gfR hC dX9_carLine_122 fg_RX9_20 rfl rfl rm_7_0_0 ?_
                  refine aw_iconst hC dX9_carLine_125 (v := 0) (by decide) ?_
                  refine aw_iald hC dX9_carLine_126 rm_7_0_2 rfl rfl (by decide) (k := 0) (by decide) ?_
                  refine aw_iadd hC dX9_carLine_127 ?_
                  refine aw_iload hC dX9_carLine_128 rfl ?_
                  refine aw_guard rfl (fun g287 => ?_)
                  refine aw_iast hC dX9_carLine_130 rm_7_0_2 rfl rfl g287 rfl (fun h286 => ?_)
                  refine aw_aload_n hC dX9_carLine_131 rfl ?_
                  refine aw_gfR hC dX9_carLine_132 fg_RX9_20 rfl rfl rm_7_0_0 ?_
                  refine aw_iconst hC dX9_carLine_135 (v := 0) (by decide) ?_
                  refine aw_dup2 hC dX9_carLine_136 rfl rfl ?_
                  refine aw_iald hC dX9_carLine_137 rm_7_0_2 rfl rfl (by decide) (k := 0) (by decide) ?_
                  refine aw_iconst hC dX9_carLine_138 (v := 1) (by decide) ?_
                  refine aw_iadd hC dX9_carLine_139 ?_
                  refine aw_iast hC dX9_carLine_140 rm_7_0_2 rfl rfl (by decide) (k := 0) (by decide) (fun h288 => ?_)
                  exact aw_vret hC dX9_carLine_141 rfl rfl
                · exact aw_vret hC dX9_carLine_103 rfl rfl
              · refine aw_aload_n hC dX9_carLine_78 rfl ?_
                refine aw_iconst hC dX9_carLine_79 (v := 3) (by decide) ?_
                refine aw_bind rfl (fun q289 hq289 => ?_)
                refine aw_cVv hC dX9_carLine_80 cv_RX9_174 rfl rm_7_0_0 (am_some (inj := (fun r => (.inr (none), r))) hq289 (A_X9_wrong _ (hC.2.2.2.2.2.2.2.2.2.2.2.2.1) _ _ _ (3 : Int32) q273)) rfl rfl rfl rfl rfl ⟨rfl, rfl⟩ ?_
                refine aw_aload_n hC dX9_carLine_83 rfl ?_
                refine aw_bind rfl (fun q290 hq290 => ?_)
                refine aw_cVj hC dX9_carLine_84 cv_RX9_264 rfl rm_7_0_0 (am_some (inj := (fun r => (.inr (some (.long r.1)), r.2))) hq290 (A_X9_nameHere _ (hC.2.2.2.2.2.2.2.2.2.2.2.2.1) _ _ _ q289)) rfl rfl rfl rfl rfl ⟨rfl, rfl⟩ ?_
                refine aw_lstore_n hC dX9_carLine_87 (by decide) ?_
                refine aw_aload_n hC dX9_carLine_88 rfl ?_
                refine aw_iconst hC dX9_carLine_89 (v := 0) (by decide) ?_
                refine aw_iload_n hC dX9_carLine_90 rfl ?_
                refine aw_bind rfl (fun q291 hq291 => ?_)
                refine aw_cVi hC dX9_carLine_91 cv_RX9_268 rfl rm_7_0_0 (am_some (inj := (fun r => (.inr (some (.int r.1)), r.2))) hq291 (A_X9_number _ (hC.2.2.2.2.2.2.2.2.2.2.2.2.1) _ _ _ (0 : Int32) p1 q290.2)) rfl rfl rfl rfl rfl ⟨rfl, rfl⟩ ?_
                refine aw_istore hC dX9_carLine_94 (by decide) ?_
                refine aw_aload_n hC dX9_carLine_96 rfl ?_
                refine aw_cVb hC dX9_carLine_97 cv_RX9_167 rfl rm_7_0_0 (A_X9_isGood _ (hC.2.2.2.2.2.2.2.2.2.2.2.2.1) _ _ _ q291.2) rfl rfl rfl rfl rfl ⟨rfl, rfl⟩ ?_
                refine aw_if_ne_b hC dX9_carLine_100 (tgt := 104) (by decide) ?_ ?_
                · refine aw_aload_n hC dX9_carLine_104 rfl ?_
                  refine aw_gfR hC dX9_carLine_105 fg_RX9_35 rfl rfl rm_7_0_0 ?_
                  refine aw_aload_n hC dX9_carLine_108 rfl ?_
                  refine aw_gfR hC dX9_carLine_109 fg_RX9_20 rfl rfl rm_7_0_0 ?_
                  refine aw_iconst hC dX9_carLine_112 (v := 0) (by decide) ?_
                  refine aw_iald hC dX9_carLine_113 rm_7_0_2 rfl rfl (by decide) (k := 0) (by decide) ?_
                  refine aw_lload_n hC dX9_carLine_114 rfl ?_
                  refine aw_guard rfl (fun g293 => ?_)
                  refine aw_last hC dX9_carLine_115 rm_7_0_7 rfl rfl g293 rfl (fun h292 => ?_)
                  refine aw_aload_n hC dX9_carLine_116 rfl ?_
                  refine aw_gfR hC dX9_carLine_117 fg_RX9_20 rfl rfl rm_7_0_0 ?_
                  refine aw_iconst hC dX9_carLine_120 (v := 2) (by decide) ?_
                  refine aw_aload_n hC dX9_carLine_121 rfl ?_
                  refine aw_gfR hC dX9_carLine_122 fg_RX9_20 rfl rfl rm_7_0_0 ?_
                  refine aw_iconst hC dX9_carLine_125 (v := 0) (by decide) ?_
                  refine aw_iald hC dX9_carLine_126 rm_7_0_2 rfl rfl (by decide) (k := 0) (by decide) ?_
                  refine aw_iadd hC dX9_carLine_127 ?_
                  refine aw_iload hC dX9_carLine_128 rfl ?_
                  refine aw_guard rfl (fun g295 => ?_)
                  refine aw_iast hC dX9_carLine_130 rm_7_0_2 rfl rfl g295 rfl (fun h294 => ?_)
                  refine aw_aload_n hC dX9_carLine_131 rfl ?_
                  refine aw_gfR hC dX9_carLine_132 fg_RX9_20 rfl rfl rm_7_0_0 ?_
                  refine aw_iconst hC dX9_carLine_135 (v := 0) (by decide) ?_
                  refine aw_dup2 hC dX9_carLine_136 rfl rfl ?_
                  refine aw_iald hC dX9_carLine_137 rm_7_0_2 rfl rfl (by decide) (k := 0) (by decide) ?_
                  refine aw_iconst hC dX9_carLine_138 (v := 1) (by decide) ?_
                  refine aw_iadd hC dX9_carLine_139 ?_
                  refine aw_iast hC dX9_carLine_140 rm_7_0_2 rfl rfl (by decide) (k := 0) (by decide) (fun h296 => ?_)
                  exact aw_vret hC dX9_carLine_141 rfl rfl
                · exact aw_vret hC dX9_carLine_103 rfl rfl
    · refine aw_aload_n hC dX9_carLine_17 rfl ?_
      refine aw_iconst hC dX9_carLine_18 (v := 1) (by decide) ?_
      refine aw_bind rfl (fun q297 hq297 => ?_)
      refine aw_cVv hC dX9_carLine_19 cv_RX9_174 rfl rm_7_0_0 (am_some (inj := (fun r => (.inr (none), r))) hq297 (A_X9_wrong _ (hC.2.2.2.2.2.2.2.2.2.2.2.2.1) _ _ _ (1 : Int32) h)) rfl rfl rfl rfl rfl ⟨rfl, rfl⟩ ?_
      refine aw_aload_n hC dX9_carLine_22 rfl ?_
      refine aw_cVb hC dX9_carLine_23 cv_RX9_167 rfl rm_7_0_0 (A_X9_isGood _ (hC.2.2.2.2.2.2.2.2.2.2.2.2.1) _ _ _ q297) rfl rfl rfl rfl rfl ⟨rfl, rfl⟩ ?_
      refine aw_if_eq_b hC dX9_carLine_26 (tgt := 44) (by decide) ?_ ?_
      · refine aw_aload_n hC dX9_carLine_44 rfl ?_
        refine aw_cVb hC dX9_carLine_45 cv_RX9_167 rfl rm_7_0_0 (A_X9_isGood _ (hC.2.2.2.2.2.2.2.2.2.2.2.2.1) _ _ _ q297) rfl rfl rfl rfl rfl ⟨rfl, rfl⟩ ?_
        refine aw_if_eq_b hC dX9_carLine_48 (tgt := 55) (by decide) ?_ ?_
        · refine aw_aload_n hC dX9_carLine_55 rfl ?_
          refine aw_bind rfl (fun q298 hq298 => ?_)
          refine aw_cVv hC dX9_carLine_56 cv_RX9_255 rfl rm_7_0_0 (am_some (inj := (fun r => (.inr (none), r))) hq298 (A_X9_mustName _ (hC.2.2.2.2.2.2.2.2.2.2.2.2.1) _ _ _ q297)) rfl rfl rfl rfl rfl ⟨rfl, rfl⟩ ?_
          refine aw_aload_n hC dX9_carLine_59 rfl ?_
          refine aw_cVb hC dX9_carLine_60 cv_RX9_167 rfl rm_7_0_0 (A_X9_isGood _ (hC.2.2.2.2.2.2.2.2.2.2.2.2.1) _ _ _ q298) rfl rfl rfl rfl rfl ⟨rfl, rfl⟩ ?_
          refine aw_if_eq_b hC dX9_carLine_63 (tgt := 83) (by decide) ?_ ?_
          · refine aw_aload_n hC dX9_carLine_83 rfl ?_
            refine aw_bind rfl (fun q299 hq299 => ?_)
            refine aw_cVj hC dX9_carLine_84 cv_RX9_264 rfl rm_7_0_0 (am_some (inj := (fun r => (.inr (some (.long r.1)), r.2))) hq299 (A_X9_nameHere _ (hC.2.2.2.2.2.2.2.2.2.2.2.2.1) _ _ _ q298)) rfl rfl rfl rfl rfl ⟨rfl, rfl⟩ ?_
            refine aw_lstore_n hC dX9_carLine_87 (by decide) ?_
            refine aw_aload_n hC dX9_carLine_88 rfl ?_
            refine aw_iconst hC dX9_carLine_89 (v := 0) (by decide) ?_
            refine aw_iload_n hC dX9_carLine_90 rfl ?_
            refine aw_bind rfl (fun q300 hq300 => ?_)
            refine aw_cVi hC dX9_carLine_91 cv_RX9_268 rfl rm_7_0_0 (am_some (inj := (fun r => (.inr (some (.int r.1)), r.2))) hq300 (A_X9_number _ (hC.2.2.2.2.2.2.2.2.2.2.2.2.1) _ _ _ (0 : Int32) p1 q299.2)) rfl rfl rfl rfl rfl ⟨rfl, rfl⟩ ?_
            refine aw_istore hC dX9_carLine_94 (by decide) ?_
            refine aw_aload_n hC dX9_carLine_96 rfl ?_
            refine aw_cVb hC dX9_carLine_97 cv_RX9_167 rfl rm_7_0_0 (A_X9_isGood _ (hC.2.2.2.2.2.2.2.2.2.2.2.2.1) _ _ _ q300.2) rfl rfl rfl rfl rfl ⟨rfl, rfl⟩ ?_
            refine aw_if_ne_b hC dX9_carLine_100 (tgt := 104) (by decide) ?_ ?_
            · refine aw_aload_n hC dX9_carLine_104 rfl ?_
              refine aw_gfR hC dX9_carLine_105 fg_RX9_35 rfl rfl rm_7_0_0 ?_
              refine aw_aload_n hC dX9_carLine_108 rfl ?_
              refine aw_gfR hC dX9_carLine_109 fg_RX9_20 rfl rfl rm_7_0_0 ?_
              refine aw_iconst hC dX9_carLine_112 (v := 0) (by decide) ?_
              refine aw_iald hC dX9_carLine_113 rm_7_0_2 rfl rfl (by decide) (k := 0) (by decide) ?_
              refine aw_lload_n hC dX9_carLine_114 rfl ?_
              refine aw_guard rfl (fun g302 => ?_)
              refine aw_last hC dX9_carLine_115 rm_7_0_7 rfl rfl g302 rfl (fun h301 => ?_)
              refine aw_aload_n hC dX9_carLine_116 rfl ?_
              refine aw_gfR hC dX9_carLine_117 fg_RX9_20 rfl rfl rm_7_0_0 ?_
              refine aw_iconst hC dX9_carLine_120 (v := 2) (by decide) ?_
              refine aw_aload_n hC dX9_carLine_121 rfl ?_
              refine aw_gfR hC dX9_carLine_122 fg_RX9_20 rfl rfl rm_7_0_0 ?_
              refine aw_iconst hC dX9_carLine_125 (v := 0) (by decide) ?_
              refine aw_iald hC dX9_carLine_126 rm_7_0_2 rfl rfl (by decide) (k := 0) (by decide) ?_
              refine aw_iadd hC dX9_carLine_127 ?_
              refine aw_iload hC dX9_carLine_128 rfl ?_
              refine aw_guard rfl (fun g304 => ?_)
              refine aw_iast hC dX9_carLine_130 rm_7_0_2 rfl rfl g304 rfl (fun h303 => ?_)
              refine aw_aload_n hC dX9_carLine_131 rfl ?_
              refine aw_gfR hC dX9_carLine_132 fg_RX9_20 rfl rfl rm_7_0_0 ?_
              refine aw_iconst hC dX9_carLine_135 (v := 0) (by decide) ?_
              refine aw_dup2 hC dX9_carLine_136 rfl rfl ?_
              refine aw_iald hC dX9_carLine_137 rm_7_0_2 rfl rfl (by decide) (k := 0) (by decide) ?_
              refine aw_iconst hC dX9_carLine_138 (v := 1) (by decide) ?_
              refine aw_iadd hC dX9_carLine_139 ?_
              refine aw_iast hC dX9_carLine_140 rm_7_0_2 rfl rfl (by decide) (k := 0) (by decide) (fun h305 => ?_)
              exact aw_vret hC dX9_carLine_141 rfl rfl
            · exact aw_vret hC dX9_carLine_103 rfl rfl
          · refine aw_aload_n hC dX9_carLine_66 rfl ?_
            refine aw_aload_n hC dX9_carLine_67 rfl ?_
            refine aw_gfJ hC dX9_carLine_68 fg_RX9_147 rfl rm_7_0_0 ?_
            refine aw_bind rfl (fun q306 hq306 => ?_)
            refine aw_cVi hC dX9_carLine_71 cv_RX9_260 rfl rm_7_0_0 (am_some (inj := (fun r => (.inr (some (.int r)), q298))) hq306 (A_X9_carNamed _ (hC.2.2.2.2.2.2.2.2.2.2.2.2.1) _ _ _ (gJ q298 (7, 0, 0) 12) q298)) rfl rfl rfl rfl rfl ⟨rfl, rfl⟩ ?_
            refine aw_iconst hC dX9_carLine_74 (v := -1) (by decide) ?_
            refine aw_icmp_eq hC dX9_carLine_75 (tgt := 83) (by decide) ?_ ?_
            · refine aw_aload_n hC dX9_carLine_83 rfl ?_
              refine aw_bind rfl (fun q307 hq307 => ?_)
              refine aw_cVj hC dX9_carLine_84 cv_RX9_264 rfl rm_7_0_0 (am_some (inj := (fun r => (.inr (some (.long r.1)), r.2))) hq307 (A_X9_nameHere _ (hC.2.2.2.2.2.2.2.2.2.2.2.2.1) _ _ _ q298)) rfl rfl rfl rfl rfl ⟨rfl, rfl⟩ ?_
              refine aw_lstore_n hC dX9_carLine_87 (by decide) ?_
              refine aw_aload_n hC dX9_carLine_88 rfl ?_
              refine aw_iconst hC dX9_carLine_89 (v := 0) (by decide) ?_
              refine aw_iload_n hC dX9_carLine_90 rfl ?_
              refine aw_bind rfl (fun q308 hq308 => ?_)
              refine aw_cVi hC dX9_carLine_91 cv_RX9_268 rfl rm_7_0_0 (am_some (inj := (fun r => (.inr (some (.int r.1)), r.2))) hq308 (A_X9_number _ (hC.2.2.2.2.2.2.2.2.2.2.2.2.1) _ _ _ (0 : Int32) p1 q307.2)) rfl rfl rfl rfl rfl ⟨rfl, rfl⟩ ?_
              refine aw_istore hC dX9_carLine_94 (by decide) ?_
              refine aw_aload_n hC dX9_carLine_96 rfl ?_
              refine aw_cVb hC dX9_carLine_97 cv_RX9_167 rfl rm_7_0_0 (A_X9_isGood _ (hC.2.2.2.2.2.2.2.2.2.2.2.2.1) _ _ _ q308.2) rfl rfl rfl rfl rfl ⟨rfl, rfl⟩ ?_
              refine aw_if_ne_b hC dX9_carLine_100 (tgt := 104) (by decide) ?_ ?_
              · refine aw_aload_n hC dX9_carLine_104 rfl ?_
                refine aw_gfR hC dX9_carLine_105 fg_RX9_35 rfl rfl rm_7_0_0 ?_
                refine aw_aload_n hC dX9_carLine_108 rfl ?_
                refine aw_gfR hC dX9_carLine_109 fg_RX9_20 rfl rfl rm_7_0_0 ?_
                refine aw_iconst hC dX9_carLine_112 (v := 0) (by decide) ?_
                refine aw_iald hC dX9_carLine_113 rm_7_0_2 rfl rfl (by decide) (k := 0) (by decide) ?_
                refine aw_lload_n hC dX9_carLine_114 rfl ?_
                refine aw_guard rfl (fun g310 => ?_)
                refine aw_last hC dX9_carLine_115 rm_7_0_7 rfl rfl g310 rfl (fun h309 => ?_)
                refine aw_aload_n hC dX9_carLine_116 rfl ?_
                refine aw_gfR hC dX9_carLine_117 fg_RX9_20 rfl rfl rm_7_0_0 ?_
                refine aw_iconst hC dX9_carLine_120 (v := 2) (by decide) ?_
                refine aw_aload_n hC dX9_carLine_121 rfl ?_
                refine aw_gfR hC dX9_carLine_122 fg_RX9_20 rfl rfl rm_7_0_0 ?_
                refine aw_iconst hC dX9_carLine_125 (v := 0) (by decide) ?_
                refine aw_iald hC dX9_carLine_126 rm_7_0_2 rfl rfl (by decide) (k := 0) (by decide) ?_
                refine aw_iadd hC dX9_carLine_127 ?_
                refine aw_iload hC dX9_carLine_128 rfl ?_
                refine aw_guard rfl (fun g312 => ?_)
                refine aw_iast hC dX9_carLine_130 rm_7_0_2 rfl rfl g312 rfl (fun h311 => ?_)
                refine aw_aload_n hC dX9_carLine_131 rfl ?_
                refine aw_gfR hC dX9_carLine_132 fg_RX9_20 rfl rfl rm_7_0_0 ?_
                refine aw_iconst hC dX9_carLine_135 (v := 0) (by decide) ?_
                refine aw_dup2 hC dX9_carLine_136 rfl rfl ?_
                refine aw_iald hC dX9_carLine_137 rm_7_0_2 rfl rfl (by decide) (k := 0) (by decide) ?_
                refine aw_iconst hC dX9_carLine_138 (v := 1) (by decide) ?_
                refine aw_iadd hC dX9_carLine_139 ?_
                refine aw_iast hC dX9_carLine_140 rm_7_0_2 rfl rfl (by decide) (k := 0) (by decide) (fun h313 => ?_)
                exact aw_vret hC dX9_carLine_141 rfl rfl
              · exact aw_vret hC dX9_carLine_103 rfl rfl
            · refine aw_aload_n hC dX9_carLine_78 rfl ?_
              refine aw_iconst hC dX9_carLine_79 (v := 3) (by decide) ?_
              refine aw_bind rfl (fun q314 hq314 => ?_)
              refine aw_cVv hC dX9_carLine_80 cv_RX9_174 rfl rm_7_0_0 (am_some (inj := (fun r => (.inr (none), r))) hq314 (A_X9_wrong _ (hC.2.2.2.2.2.2.2.2.2.2.2.2.1) _ _ _ (3 : Int32) q298)) rfl rfl rfl rfl rfl ⟨rfl, rfl⟩ ?_
              refine aw_aload_n hC dX9_carLine_83 rfl ?_
              refine aw_bind rfl (fun q315 hq315 => ?_)
              refine aw_cVj hC dX9_carLine_84 cv_RX9_264 rfl rm_7_0_0 (am_some (inj := (fun r => (.inr (some (.long r.1)), r.2))) hq315 (A_X9_nameHere _ (hC.2.2.2.2.2.2.2.2.2.2.2.2.1) _ _ _ q314)) rfl rfl rfl rfl rfl ⟨rfl, rfl⟩ ?_
              refine aw_lstore_n hC dX9_carLine_87 (by decide) ?_
              refine aw_aload_n hC dX9_carLine_88 rfl ?_
              refine aw_iconst hC dX9_carLine_89 (v := 0) (by decide) ?_
              refine aw_iload_n hC dX9_carLine_90 rfl ?_
              refine aw_bind rfl (fun q316 hq316 => ?_)
              refine aw_cVi hC dX9_carLine_91 cv_RX9_268 rfl rm_7_0_0 (am_some (inj := (fun r => (.inr (some (.int r.1)), r.2))) hq316 (A_X9_number _ (hC.2.2.2.2.2.2.2.2.2.2.2.2.1) _ _ _ (0 : Int32) p1 q315.2)) rfl rfl rfl rfl rfl ⟨rfl, rfl⟩ ?_
              refine aw_istore hC dX9_carLine_94 (by decide) ?_
              refine aw_aload_n hC dX9_carLine_96 rfl ?_
              refine aw_cVb hC dX9_carLine_97 cv_RX9_167 rfl rm_7_0_0 (A_X9_isGood _ (hC.2.2.2.2.2.2.2.2.2.2.2.2.1) _ _ _ q316.2) rfl rfl rfl rfl rfl ⟨rfl, rfl⟩ ?_
              refine aw_if_ne_b hC dX9_carLine_100 (tgt := 104) (by decide) ?_ ?_
              · refine aw_aload_n hC dX9_carLine_104 rfl ?_
                refine aw_gfR hC dX9_carLine_105 fg_RX9_35 rfl rfl rm_7_0_0 ?_
                refine aw_aload_n hC dX9_carLine_108 rfl ?_
                refine aw_gfR hC dX9_carLine_109 fg_RX9_20 rfl rfl rm_7_0_0 ?_
                refine aw_iconst hC dX9_carLine_112 (v := 0) (by decide) ?_
                refine aw_iald hC dX9_carLine_113 rm_7_0_2 rfl rfl (by decide) (k := 0) (by decide) ?_
                refine aw_lload_n hC dX9_carLine_114 rfl ?_
                refine aw_guard rfl (fun g318 => ?_)
                refine aw_last hC dX9_carLine_115 rm_7_0_7 rfl rfl g318 rfl (fun h317 => ?_)
                refine aw_aload_n hC dX9_carLine_116 rfl ?_
                refine aw_gfR hC dX9_carLine_117 fg_RX9_20 rfl rfl rm_7_0_0 ?_
                refine aw_iconst hC dX9_carLine_120 (v := 2) (by decide) ?_
                refine aw_aload_n hC dX9_carLine_121 rfl ?_
                refine aw_gfR hC dX9_carLine_122 fg_RX9_20 rfl rfl rm_7_0_0 ?_
                refine aw_iconst hC dX9_carLine_125 (v := 0) (by decide) ?_
                refine aw_iald hC dX9_carLine_126 rm_7_0_2 rfl rfl (by decide) (k := 0) (by decide) ?_
                refine aw_iadd hC dX9_carLine_127 ?_
                refine aw_iload hC dX9_carLine_128 rfl ?_
                refine aw_guard rfl (fun g320 => ?_)
                refine aw_iast hC dX9_carLine_130 rm_7_0_2 rfl rfl g320 rfl (fun h319 => ?_)
                refine aw_aload_n hC dX9_carLine_131 rfl ?_
                refine aw_gfR hC dX9_carLine_132 fg_RX9_20 rfl rfl rm_7_0_0 ?_
                refine aw_iconst hC dX9_carLine_135 (v := 0) (by decide) ?_
                refine aw_dup2 hC dX9_carLine_136 rfl rfl ?_
                refine aw_iald hC dX9_carLine_137 rm_7_0_2 rfl rfl (by decide) (k := 0) (by decide) ?_
                refine aw_iconst hC dX9_carLine_138 (v := 1) (by decide) ?_
                refine aw_iadd hC dX9_carLine_139 ?_
                refine aw_iast hC dX9_carLine_140 rm_7_0_2 rfl rfl (by decide) (k := 0) (by decide) (fun h321 => ?_)
                exact aw_vret hC dX9_carLine_141 rfl rfl
              · exact aw_vret hC dX9_carLine_103 rfl rfl
        · refine aw_aload_n hC dX9_carLine_51 rfl ?_
          refine aw_bind rfl (fun q322 hq322 => ?_)
          refine aw_cVv hC dX9_carLine_52 cv_RX9_177 rfl rm_7_0_0 (am_some (inj := (fun r => (.inr (none), r))) hq322 (A_X9_goOnRead _ (hC.2.2.2.2.2.2.2.2.2.2.2.2.1) _ _ _ q297)) rfl rfl rfl rfl rfl ⟨rfl, rfl⟩ ?_
          refine aw_aload_n hC dX9_carLine_55 rfl ?_
          refine aw_bind rfl (fun q323 hq323 => ?_)
          refine aw_cVv hC dX9_carLine_56 cv_RX9_255 rfl rm_7_0_0 (am_some (inj := (fun r => (.inr (none), r))) hq323 (A_X9_mustName _ (hC.2.2.2.2.2.2.2.2.2.2.2.2.1) _ _ _ q322)) rfl rfl rfl rfl rfl ⟨rfl, rfl⟩ ?_
          refine aw_aload_n hC dX9_carLine_59 rfl ?_
          refine aw_cVb hC dX9_carLine_60 cv_RX9_167 rfl rm_7_0_0 (A_X9_isGood _ (hC.2.2.2.2.2.2.2.2.2.2.2.2.1) _ _ _ q323) rfl rfl rfl rfl rfl ⟨rfl, rfl⟩ ?_
          refine aw_if_eq_b hC dX9_carLine_63 (tgt := 83) (by decide) ?_ ?_
          · refine aw_aload_n hC dX9_carLine_83 rfl ?_
            refine aw_bind rfl (fun q324 hq324 => ?_)
            refine aw_cVj hC dX9_carLine_84 cv_RX9_264 rfl rm_7_0_0 (am_some (inj := (fun r => (.inr (some (.long r.1)), r.2))) hq324 (A_X9_nameHere _ (hC.2.2.2.2.2.2.2.2.2.2.2.2.1) _ _ _ q323)) rfl rfl rfl rfl rfl ⟨rfl, rfl⟩ ?_
            refine aw_lstore_n hC dX9_carLine_87 (by decide) ?_
            refine aw_aload_n hC dX9_carLine_88 rfl ?_
            refine aw_iconst hC dX9_carLine_89 (v := 0) (by decide) ?_
            refine aw_iload_n hC dX9_carLine_90 rfl ?_
            refine aw_bind rfl (fun q325 hq325 => ?_)
            refine aw_cVi hC dX9_carLine_91 cv_RX9_268 rfl rm_7_0_0 (am_some (inj := (fun r => (.inr (some (.int r.1)), r.2))) hq325 (A_X9_number _ (hC.2.2.2.2.2.2.2.2.2.2.2.2.1) _ _ _ (0 : Int32) p1 q324.2)) rfl rfl rfl rfl rfl ⟨rfl, rfl⟩ ?_
            refine aw_istore hC dX9_carLine_94 (by decide) ?_
            refine aw_aload_n hC dX9_carLine_96 rfl ?_
            refine aw_cVb hC dX9_carLine_97 cv_RX9_167 rfl rm_7_0_0 (A_X9_isGood _ (hC.2.2.2.2.2.2.2.2.2.2.2.2.1) _ _ _ q325.2) rfl rfl rfl rfl rfl ⟨rfl, rfl⟩ ?_
            refine aw_if_ne_b hC dX9_carLine_100 (tgt := 104) (by decide) ?_ ?_
            · refine aw_aload_n hC dX9_carLine_104 rfl ?_
              refine aw_gfR hC dX9_carLine_105 fg_RX9_35 rfl rfl rm_7_0_0 ?_
              refine aw_aload_n hC dX9_carLine_108 rfl ?_
              refine aw_gfR hC dX9_carLine_109 fg_RX9_20 rfl rfl rm_7_0_0 ?_
              refine aw_iconst hC dX9_carLine_112 (v := 0) (by decide) ?_
              refine aw_iald hC dX9_carLine_113 rm_7_0_2 rfl rfl (by decide) (k := 0) (by decide) ?_
              refine aw_lload_n hC dX9_carLine_114 rfl ?_
              refine aw_guard rfl (fun g327 => ?_)
              refine aw_last hC dX9_carLine_115 rm_7_0_7 rfl rfl g327 rfl (fun h326 => ?_)
              refine aw_aload_n hC dX9_carLine_116 rfl ?_
              refine aw_gfR hC dX9_carLine_117 fg_RX9_20 rfl rfl rm_7_0_0 ?_
              refine aw_iconst hC dX9_carLine_120 (v := 2) (by decide) ?_
              refine aw_aload_n hC dX9_carLine_121 rfl ?_
              refine aw_gfR hC dX9_carLine_122 fg_RX9_20 rfl rfl rm_7_0_0 ?_
              refine aw_iconst hC dX9_carLine_125 (v := 0) (by decide) ?_
              refine aw_iald hC dX9_carLine_126 rm_7_0_2 rfl rfl (by decide) (k := 0) (by decide) ?_
              refine aw_iadd hC dX9_carLine_127 ?_
              refine aw_iload hC dX9_carLine_128 rfl ?_
              refine aw_guard rfl (fun g329 => ?_)
              refine aw_iast hC dX9_carLine_130 rm_7_0_2 rfl rfl g329 rfl (fun h328 => ?_)
              refine aw_aload_n hC dX9_carLine_131 rfl ?_
              refine aw_gfR hC dX9_carLine_132 fg_RX9_20 rfl rfl rm_7_0_0 ?_
              refine aw_iconst hC dX9_carLine_135 (v := 0) (by decide) ?_
              refine aw_dup2 hC dX9_carLine_136 rfl rfl ?_
              refine aw_iald hC dX9_carLine_137 rm_7_0_2 rfl rfl (by decide) (k := 0) (by decide) ?_
              refine aw_iconst hC dX9_carLine_138 (v := 1) (by decide) ?_
              refine aw_iadd hC dX9_carLine_139 ?_
              refine aw_iast hC dX9_carLine_140 rm_7_0_2 rfl rfl (by decide) (k := 0) (by decide) (fun h330 => ?_)
              exact aw_vret hC dX9_carLine_141 rfl rfl
            · exact aw_vret hC dX9_carLine_103 rfl rfl
          · refine aw_aload_n hC dX9_carLine_66 rfl ?_
            refine aw_aload_n hC dX9_carLine_67 rfl ?_
            refine aw_gfJ hC dX9_carLine_68 fg_RX9_147 rfl rm_7_0_0 ?_
            refine aw_bind rfl (fun q331 hq331 => ?_)
            refine aw_cVi hC dX9_carLine_71 cv_RX9_260 rfl rm_7_0_0 (am_some (inj := (fun r => (.inr (some (.int r)), q323))) hq331 (A_X9_carNamed _ (hC.2.2.2.2.2.2.2.2.2.2.2.2.1) _ _ _ (gJ q323 (7, 0, 0) 12) q323)) rfl rfl rfl rfl rfl ⟨rfl, rfl⟩ ?_
            refine aw_iconst hC dX9_carLine_74 (v := -1) (by decide) ?_
            refine aw_icmp_eq hC dX9_carLine_75 (tgt := 83) (by decide) ?_ ?_
            · refine aw_aload_n hC dX9_carLine_83 rfl ?_
              refine aw_bind rfl (fun q332 hq332 => ?_)
              refine aw_cVj hC dX9_carLine_84 cv_RX9_264 rfl rm_7_0_0 (am_some (inj := (fun r => (.inr (some (.long r.1)), r.2))) hq332 (A_X9_nameHere _ (hC.2.2.2.2.2.2.2.2.2.2.2.2.1) _ _ _ q323)) rfl rfl rfl rfl rfl ⟨rfl, rfl⟩ ?_
              refine aw_lstore_n hC dX9_carLine_87 (by decide) ?_
              refine aw_aload_n hC dX9_carLine_88 rfl ?_
              refine aw_iconst hC dX9_carLine_89 (v := 0) (by decide) ?_
              refine aw_iload_n hC dX9_carLine_90 rfl ?_
              refine aw_bind rfl (fun q333 hq333 => ?_)
              refine aw_cVi hC dX9_carLine_91 cv_RX9_268 rfl rm_7_0_0 (am_some (inj := (fun r => (.inr (some (.int r.1)), r.2))) hq333 (A_X9_number _ (hC.2.2.2.2.2.2.2.2.2.2.2.2.1) _ _ _ (0 : Int32) p1 q332.2)) rfl rfl rfl rfl rfl ⟨rfl, rfl⟩ ?_
              refine aw_istore hC dX9_carLine_94 (by decide) ?_
              refine aw_aload_n hC dX9_carLine_96 rfl ?_
              refine aw_cVb hC dX9_carLine_97 cv_RX9_167 rfl rm_7_0_0 (A_X9_isGood _ (hC.2.2.2.2.2.2.2.2.2.2.2.2.1) _ _ _ q333.2) rfl rfl rfl rfl rfl ⟨rfl, rfl⟩ ?_
              refine aw_if_ne_b hC dX9_carLine_100 (tgt := 104) (by decide) ?_ ?_
              · refine aw_aload_n hC dX9_carLine_104 rfl ?_
                refine aw_gfR hC dX9_carLine_105 fg_RX9_35 rfl rfl rm_7_0_0 ?_
                refine aw_aload_n hC dX9_carLine_108 rfl ?_
                refine aw_gfR hC dX9_carLine_109 fg_RX9_20 rfl rfl rm_7_0_0 ?_
                refine aw_iconst hC dX9_carLine_112 (v := 0) (by decide) ?_
                refine aw_iald hC dX9_carLine_113 rm_7_0_2 rfl rfl (by decide) (k := 0) (by decide) ?_
                refine aw_lload_n hC dX9_carLine_114 rfl ?_
                refine aw_guard rfl (fun g335 => ?_)
                refine aw_last hC dX9_carLine_115 rm_7_0_7 rfl rfl g335 rfl (fun h334 => ?_)
                refine aw_aload_n hC dX9_carLine_116 rfl ?_
                refine aw_gfR hC dX9_carLine_117 fg_RX9_20 rfl rfl rm_7_0_0 ?_
                refine aw_iconst hC dX9_carLine_120 (v := 2) (by decide) ?_
                refine aw_aload_n hC dX9_carLine_121 rfl ?_
                refine aw_gfR hC dX9_carLine_122 fg_RX9_20 rfl rfl rm_7_0_0 ?_
                refine aw_iconst hC dX9_carLine_125 (v := 0) (by decide) ?_
                refine aw_iald hC dX9_carLine_126 rm_7_0_2 rfl rfl (by decide) (k := 0) (by decide) ?_
                refine aw_iadd hC dX9_carLine_127 ?_
                refine aw_iload hC dX9_carLine_128 rfl ?_
                refine aw_guard rfl (fun g337 => ?_)
                refine aw_iast hC dX9_carLine_130 rm_7_0_2 rfl rfl g337 rfl (fun h336 => ?_)
                refine aw_aload_n hC dX9_carLine_131 rfl ?_
                refine aw_gfR hC dX9_carLine_132 fg_RX9_20 rfl rfl rm_7_0_0 ?_
                refine aw_iconst hC dX9_carLine_135 (v := 0) (by decide) ?_
                refine aw_dup2 hC dX9_carLine_136 rfl rfl ?_
                refine aw_iald hC dX9_carLine_137 rm_7_0_2 rfl rfl (by decide) (k := 0) (by decide) ?_
                refine aw_iconst hC dX9_carLine_138 (v := 1) (by decide) ?_
                refine aw_iadd hC dX9_carLine_139 ?_
                refine aw_iast hC dX9_carLine_140 rm_7_0_2 rfl rfl (by decide) (k := 0) (by decide) (fun h338 => ?_)
                exact aw_vret hC dX9_carLine_141 rfl rfl
              · exact aw_vret hC dX9_carLine_103 rfl rfl
            · refine aw_aload_n hC dX9_carLine_78 rfl ?_
              refine aw_iconst hC dX9_carLine_79 (v := 3) (by decide) ?_
              refine aw_bind rfl (fun q339 hq339 => ?_)
              refine aw_cVv hC dX9_carLine_80 cv_RX9_174 rfl rm_7_0_0 (am_some (inj := (fun r => (.inr (none), r))) hq339 (A_X9_wrong _ (hC.2.2.2.2.2.2.2.2.2.2.2.2.1) _ _ _ (3 : Int32) q323)) rfl rfl rfl rfl rfl ⟨rfl, rfl⟩ ?_
              refine aw_aload_n hC dX9_carLine_83 rfl ?_
              refine aw_bind rfl (fun q340 hq340 => ?_)
              refine aw_cVj hC dX9_carLine_84 cv_RX9_264 rfl rm_7_0_0 (am_some (inj := (fun r => (.inr (some (.long r.1)), r.2))) hq340 (A_X9_nameHere _ (hC.2.2.2.2.2.2.2.2.2.2.2.2.1) _ _ _ q339)) rfl rfl rfl rfl rfl ⟨rfl, rfl⟩ ?_
              refine aw_lstore_n hC dX9_carLine_87 (by decide) ?_
              refine aw_aload_n hC dX9_carLine_88 rfl ?_
              refine aw_iconst hC dX9_carLine_89 (v := 0) (by decide) ?_
              refine aw_iload_n hC dX9_carLine_90 rfl ?_
              refine aw_bind rfl (fun q341 hq341 => ?_)
              refine aw_cVi hC dX9_carLine_91 cv_RX9_268 rfl rm_7_0_0 (am_some (inj := (fun r => (.inr (some (.int r.1)), r.2))) hq341 (A_X9_number _ (hC.2.2.2.2.2.2.2.2.2.2.2.2.1) _ _ _ (0 : Int32) p1 q340.2)) rfl rfl rfl rfl rfl ⟨rfl, rfl⟩ ?_
              refine aw_istore hC dX9_carLine_94 (by decide) ?_
              refine aw_aload_n hC dX9_carLine_96 rfl ?_
              refine aw_cVb hC dX9_carLine_97 cv_RX9_167 rfl rm_7_0_0 (A_X9_isGood _ (hC.2.2.2.2.2.2.2.2.2.2.2.2.1) _ _ _ q341.2) rfl rfl rfl rfl rfl ⟨rfl, rfl⟩ ?_
              refine aw_if_ne_b hC dX9_carLine_100 (tgt := 104) (by decide) ?_ ?_
              · refine aw_aload_n hC dX9_carLine_104 rfl ?_
                refine aw_gfR hC dX9_carLine_105 fg_RX9_35 rfl rfl rm_7_0_0 ?_
                refine aw_aload_n hC dX9_carLine_108 rfl ?_
                refine aw_gfR hC dX9_carLine_109 fg_RX9_20 rfl rfl rm_7_0_0 ?_
                refine aw_iconst hC dX9_carLine_112 (v := 0) (by decide) ?_
                refine aw_iald hC dX9_carLine_113 rm_7_0_2 rfl rfl (by decide) (k := 0) (by decide) ?_
                refine aw_lload_n hC dX9_carLine_114 rfl ?_
                refine aw_guard rfl (fun g343 => ?_)
                refine aw_last hC dX9_carLine_115 rm_7_0_7 rfl rfl g343 rfl (fun h342 => ?_)
                refine aw_aload_n hC dX9_carLine_116 rfl ?_
                refine aw_gfR hC dX9_carLine_117 fg_RX9_20 rfl rfl rm_7_0_0 ?_
                refine aw_iconst hC dX9_carLine_120 (v := 2) (by decide) ?_
                refine aw_aload_n hC dX9_carLine_121 rfl ?_
                refine aw_gfR hC dX9_carLine_122 fg_RX9_20 rfl rfl rm_7_0_0 ?_
                refine aw_iconst hC dX9_carLine_125 (v := 0) (by decide) ?_
                refine aw_iald hC dX9_carLine_126 rm_7_0_2 rfl rfl (by decide) (k := 0) (by decide) ?_
                refine aw_iadd hC dX9_carLine_127 ?_
                refine aw_iload hC dX9_carLine_128 rfl ?_
                refine aw_guard rfl (fun g345 => ?_)
                refine aw_iast hC dX9_carLine_130 rm_7_0_2 rfl rfl g345 rfl (fun h344 => ?_)
                refine aw_aload_n hC dX9_carLine_131 rfl ?_
                refine aw_gfR hC dX9_carLine_132 fg_RX9_20 rfl rfl rm_7_0_0 ?_
                refine aw_iconst hC dX9_carLine_135 (v := 0) (by decide) ?_
                refine aw_dup2 hC dX9_carLine_136 rfl rfl ?_
                refine aw_iald hC dX9_carLine_137 rm_7_0_2 rfl rfl (by decide) (k := 0) (by decide) ?_
                refine aw_iconst hC dX9_carLine_138 (v := 1) (by decide) ?_
                refine aw_iadd hC dX9_carLine_139 ?_
                refine aw_iast hC dX9_carLine_140 rm_7_0_2 rfl rfl (by decide) (k := 0) (by decide) (fun h346 => ?_)
                exact aw_vret hC dX9_carLine_141 rfl rfl
              · exact aw_vret hC dX9_carLine_103 rfl rfl
      · refine aw_aload_n hC dX9_carLine_29 rfl ?_
        refine aw_gfR hC dX9_carLine_30 fg_RX9_20 rfl rfl rm_7_0_0 ?_
        refine aw_iconst hC dX9_carLine_33 (v := 0) (by decide) ?_
        refine aw_iald hC dX9_carLine_34 rm_7_0_2 rfl rfl (by decide) (k := 0) (by decide) ?_
        refine aw_iload_n hC dX9_carLine_35 rfl ?_
        refine aw_icmp_ne hC dX9_carLine_36 (tgt := 44) (by decide) ?_ ?_
        · refine aw_aload_n hC dX9_carLine_44 rfl ?_
          refine aw_cVb hC dX9_carLine_45 cv_RX9_167 rfl rm_7_0_0 (A_X9_isGood _ (hC.2.2.2.2.2.2.2.2.2.2.2.2.1) _ _ _ q297) rfl rfl rfl rfl rfl ⟨rfl, rfl⟩ ?_
          refine aw_if_eq_b hC dX9_carLine_48 (tgt := 55) (by decide) ?_ ?_
          · refine aw_aload_n hC dX9_carLine_55 rfl ?_
            refine aw_bind rfl (fun q347 hq347 => ?_)
            refine aw_cVv hC dX9_carLine_56 cv_RX9_255 rfl rm_7_0_0 (am_some (inj := (fun r => (.inr (none), r))) hq347 (A_X9_mustName _ (hC.2.2.2.2.2.2.2.2.2.2.2.2.1) _ _ _ q297)) rfl rfl rfl rfl rfl ⟨rfl, rfl⟩ ?_
            refine aw_aload_n hC dX9_carLine_59 rfl ?_
            refine aw_cVb hC dX9_carLine_60 cv_RX9_167 rfl rm_7_0_0 (A_X9_isGood _ (hC.2.2.2.2.2.2.2.2.2.2.2.2.1) _ _ _ q347) rfl rfl rfl rfl rfl ⟨rfl, rfl⟩ ?_
            refine aw_if_eq_b hC dX9_carLine_63 (tgt := 83) (by decide) ?_ ?_
            · refine aw_aload_n hC dX9_carLine_83 rfl ?_
              refine aw_bind rfl (fun q348 hq348 => ?_)
              refine aw_cVj hC dX9_carLine_84 cv_RX9_264 rfl rm_7_0_0 (am_some (inj := (fun r => (.inr (some (.long r.1)), r.2))) hq348 (A_X9_nameHere _ (hC.2.2.2.2.2.2.2.2.2.2.2.2.1) _ _ _ q347)) rfl rfl rfl rfl rfl ⟨rfl, rfl⟩ ?_
              refine aw_lstore_n hC dX9_carLine_87 (by decide) ?_
              refine aw_aload_n hC dX9_carLine_88 rfl ?_
              refine aw_iconst hC dX9_carLine_89 (v := 0) (by decide) ?_
              refine aw_iload_n hC dX9_carLine_90 rfl ?_
              refine aw_bind rfl (fun q349 hq349 => ?_)
              refine aw_cVi hC dX9_carLine_91 cv_RX9_268 rfl rm_7_0_0 (am_some (inj := (fun r => (.inr (some (.int r.1)), r.2))) hq349 (A_X9_number _ (hC.2.2.2.2.2.2.2.2.2.2.2.2.1) _ _ _ (0 : Int32) p1 q348.2)) rfl rfl rfl rfl rfl ⟨rfl, rfl⟩ ?_
              refine aw_istore hC dX9_carLine_94 (by decide) ?_
              refine aw_aload_n hC dX9_carLine_96 rfl ?_
              refine aw_cVb hC dX9_carLine_97 cv_RX9_167 rfl rm_7_0_0 (A_X9_isGood _ (hC.2.2.2.2.2.2.2.2.2.2.2.2.1) _ _ _ q349.2) rfl rfl rfl rfl rfl ⟨rfl, rfl⟩ ?_
              refine aw_if_ne_b hC dX9_carLine_100 (tgt := 104) (by decide) ?_ ?_
              · refine aw_aload_n hC dX9_carLine_104 rfl ?_
                refine aw_gfR hC dX9_carLine_105 fg_RX9_35 rfl rfl rm_7_0_0 ?_
                refine aw_aload_n hC dX9_carLine_108 rfl ?_
                refine aw_gfR hC dX9_carLine_109 fg_RX9_20 rfl rfl rm_7_0_0 ?_
                refine aw_iconst hC dX9_carLine_112 (v := 0) (by decide) ?_
                refine aw_iald hC dX9_carLine_113 rm_7_0_2 rfl rfl (by decide) (k := 0) (by decide) ?_
                refine aw_lload_n hC dX9_carLine_114 rfl ?_
                refine aw_guard rfl (fun g351 => ?_)
                refine aw_last hC dX9_carLine_115 rm_7_0_7 rfl rfl g351 rfl (fun h350 => ?_)
                refine aw_aload_n hC dX9_carLine_116 rfl ?_
                refine aw_gfR hC dX9_carLine_117 fg_RX9_20 rfl rfl rm_7_0_0 ?_
                refine aw_iconst hC dX9_carLine_120 (v := 2) (by decide) ?_
                refine aw_aload_n hC dX9_carLine_121 rfl ?_
                refine aw_gfR hC dX9_carLine_122 fg_RX9_20 rfl rfl rm_7_0_0 ?_
                refine aw_iconst hC dX9_carLine_125 (v := 0) (by decide) ?_
                refine aw_iald hC dX9_carLine_126 rm_7_0_2 rfl rfl (by decide) (k := 0) (by decide) ?_
                refine aw_iadd hC dX9_carLine_127 ?_
                refine aw_iload hC dX9_carLine_128 rfl ?_
                refine aw_guard rfl (fun g353 => ?_)
                refine aw_iast hC dX9_carLine_130 rm_7_0_2 rfl rfl g353 rfl (fun h352 => ?_)
                refine aw_aload_n hC dX9_carLine_131 rfl ?_
                refine aw_gfR hC dX9_carLine_132 fg_RX9_20 rfl rfl rm_7_0_0 ?_
                refine aw_iconst hC dX9_carLine_135 (v := 0) (by decide) ?_
                refine aw_dup2 hC dX9_carLine_136 rfl rfl ?_
                refine aw_iald hC dX9_carLine_137 rm_7_0_2 rfl rfl (by decide) (k := 0) (by decide) ?_
                refine aw_iconst hC dX9_carLine_138 (v := 1) (by decide) ?_
                refine aw_iadd hC dX9_carLine_139 ?_
                refine aw_iast hC dX9_carLine_140 rm_7_0_2 rfl rfl (by decide) (k := 0) (by decide) (fun h354 => ?_)
                exact aw_vret hC dX9_carLine_141 rfl rfl
              · exact aw_vret hC dX9_carLine_103 rfl rfl
            · refine aw_aload_n hC dX9_carLine_66 rfl ?_
              refine aw_aload_n hC dX9_carLine_67 rfl ?_
              refine aw_gfJ hC dX9_carLine_68 fg_RX9_147 rfl rm_7_0_0 ?_
              refine aw_bind rfl (fun q355 hq355 => ?_)
              refine aw_cVi hC dX9_carLine_71 cv_RX9_260 rfl rm_7_0_0 (am_some (inj := (fun r => (.inr (some (.int r)), q347))) hq355 (A_X9_carNamed _ (hC.2.2.2.2.2.2.2.2.2.2.2.2.1) _ _ _ (gJ q347 (7, 0, 0) 12) q347)) rfl rfl rfl rfl rfl ⟨rfl, rfl⟩ ?_
              refine aw_iconst hC dX9_carLine_74 (v := -1) (by decide) ?_
              refine aw_icmp_eq hC dX9_carLine_75 (tgt := 83) (by decide) ?_ ?_
              · refine aw_aload_n hC dX9_carLine_83 rfl ?_
                refine aw_bind rfl (fun q356 hq356 => ?_)
                refine aw_cVj hC dX9_carLine_84 cv_RX9_264 rfl rm_7_0_0 (am_some (inj := (fun r => (.inr (some (.long r.1)), r.2))) hq356 (A_X9_nameHere _ (hC.2.2.2.2.2.2.2.2.2.2.2.2.1) _ _ _ q347)) rfl rfl rfl rfl rfl ⟨rfl, rfl⟩ ?_
                refine aw_lstore_n hC dX9_carLine_87 (by decide) ?_
                refine aw_aload_n hC dX9_carLine_88 rfl ?_
                refine aw_iconst hC dX9_carLine_89 (v := 0) (by decide) ?_
                refine aw_iload_n hC dX9_carLine_90 rfl ?_
                refine aw_bind rfl (fun q357 hq357 => ?_)
                refine aw_cVi hC dX9_carLine_91 cv_RX9_268 rfl rm_7_0_0 (am_some (inj := (fun r => (.inr (some (.int r.1)), r.2))) hq357 (A_X9_number _ (hC.2.2.2.2.2.2.2.2.2.2.2.2.1) _ _ _ (0 : Int32) p1 q356.2)) rfl rfl rfl rfl rfl ⟨rfl, rfl⟩ ?_
                refine aw_istore hC dX9_carLine_94 (by decide) ?_
                refine aw_aload_n hC dX9_carLine_96 rfl ?_
                refine aw_cVb hC dX9_carLine_97 cv_RX9_167 rfl rm_7_0_0 (A_X9_isGood _ (hC.2.2.2.2.2.2.2.2.2.2.2.2.1) _ _ _ q357.2) rfl rfl rfl rfl rfl ⟨rfl, rfl⟩ ?_
                refine aw_if_ne_b hC dX9_carLine_100 (tgt := 104) (by decide) ?_ ?_
                · refine aw_aload_n hC dX9_carLine_104 rfl ?_
                  refine aw_gfR hC dX9_carLine_105 fg_RX9_35 rfl rfl rm_7_0_0 ?_
                  refine aw_aload_n hC dX9_carLine_108 rfl ?_
                  refine aw_gfR hC dX9_carLine_109 fg_RX9_20 rfl rfl rm_7_0_0 ?_
                  refine aw_iconst hC dX9_carLine_112 (v := 0) (by decide) ?_
                  refine aw_iald hC dX9_carLine_113 rm_7_0_2 rfl rfl (by decide) (k := 0) (by decide) ?_
                  refine aw_lload_n hC dX9_carLine_114 rfl ?_
                  refine aw_guard rfl (fun g359 => ?_)
                  refine aw_last hC dX9_carLine_115 rm_7_0_7 rfl rfl g359 rfl (fun h358 => ?_)
                  refine aw_aload_n hC dX9_carLine_116 rfl ?_
                  refine aw_gfR hC dX9_carLine_117 fg_RX9_20 rfl rfl rm_7_0_0 ?_
                  refine aw_iconst hC dX9_carLine_120 (v := 2) (by decide) ?_
                  refine aw_aload_n hC dX9_carLine_121 rfl ?_
                  refine aw_gfR hC dX9_carLine_122 fg_RX9_20 rfl rfl rm_7_0_0 ?_
                  refine aw_iconst hC dX9_carLine_125 (v := 0) (by decide) ?_
                  refine aw_iald hC dX9_carLine_126 rm_7_0_2 rfl rfl (by decide) (k := 0) (by decide) ?_
                  refine aw_iadd hC dX9_carLine_127 ?_
                  refine aw_iload hC dX9_carLine_128 rfl ?_
                  refine aw_guard rfl (fun g361 => ?_)
                  refine aw_iast hC dX9_carLine_130 rm_7_0_2 rfl rfl g361 rfl (fun h360 => ?_)
                  refine aw_aload_n hC dX9_carLine_131 rfl ?_
                  refine aw_gfR hC dX9_carLine_132 fg_RX9_20 rfl rfl rm_7_0_0 ?_
                  refine aw_iconst hC dX9_carLine_135 (v := 0) (by decide) ?_
                  refine aw_dup2 hC dX9_carLine_136 rfl rfl ?_
                  refine aw_iald hC dX9_carLine_137 rm_7_0_2 rfl rfl (by decide) (k := 0) (by decide) ?_
                  refine aw_iconst hC dX9_carLine_138 (v := 1) (by decide) ?_
                  refine aw_iadd hC dX9_carLine_139 ?_
                  refine aw_iast hC dX9_carLine_140 rm_7_0_2 rfl rfl (by decide) (k := 0) (by decide) (fun h362 => ?_)
                  exact aw_vret hC dX9_carLine_141 rfl rfl
                · exact aw_vret hC dX9_carLine_103 rfl rfl
              · refine aw_aload_n hC dX9_carLine_78 rfl ?_
                refine aw_iconst hC dX9_carLine_79 (v := 3) (by decide) ?_
                refine aw_bind rfl (fun q363 hq363 => ?_)
                refine aw_cVv hC dX9_carLine_80 cv_RX9_174 rfl rm_7_0_0 (am_some (inj := (fun r => (.inr (none), r))) hq363 (A_X9_wrong _ (hC.2.2.2.2.2.2.2.2.2.2.2.2.1) _ _ _ (3 : Int32) q347)) rfl rfl rfl rfl rfl ⟨rfl, rfl⟩ ?_
                refine aw_aload_n hC dX9_carLine_83 rfl ?_
                refine aw_bind rfl (fun q364 hq364 => ?_)
                refine aw_cVj hC dX9_carLine_84 cv_RX9_264 rfl rm_7_0_0 (am_some (inj := (fun r => (.inr (some (.long r.1)), r.2))) hq364 (A_X9_nameHere _ (hC.2.2.2.2.2.2.2.2.2.2.2.2.1) _ _ _ q363)) rfl rfl rfl rfl rfl ⟨rfl, rfl⟩ ?_
                refine aw_lstore_n hC dX9_carLine_87 (by decide) ?_
                refine aw_aload_n hC dX9_carLine_88 rfl ?_
                refine aw_iconst hC dX9_carLine_89 (v := 0) (by decide) ?_
                refine aw_iload_n hC dX9_carLine_90 rfl ?_
                refine aw_bind rfl (fun q365 hq365 => ?_)
                refine aw_cVi hC dX9_carLine_91 cv_RX9_268 rfl rm_7_0_0 (am_some (inj := (fun r => (.inr (some (.int r.1)), r.2))) hq365 (A_X9_number _ (hC.2.2.2.2.2.2.2.2.2.2.2.2.1) _ _ _ (0 : Int32) p1 q364.2)) rfl rfl rfl rfl rfl ⟨rfl, rfl⟩ ?_
                refine aw_istore hC dX9_carLine_94 (by decide) ?_
                refine aw_aload_n hC dX9_carLine_96 rfl ?_
                refine aw_cVb hC dX9_carLine_97 cv_RX9_167 rfl rm_7_0_0 (A_X9_isGood _ (hC.2.2.2.2.2.2.2.2.2.2.2.2.1) _ _ _ q365.2) rfl rfl rfl rfl rfl ⟨rfl, rfl⟩ ?_
                refine aw_if_ne_b hC dX9_carLine_100 (tgt := 104) (by decide) ?_ ?_
                · refine aw_aload_n hC dX9_carLine_104 rfl ?_
                  refine aw_gfR hC dX9_carLine_105 fg_RX9_35 rfl rfl rm_7_0_0 ?_
                  refine aw_aload_n hC dX9_carLine_108 rfl ?_
                  refine aw_gfR hC dX9_carLine_109 fg_RX9_20 rfl rfl rm_7_0_0 ?_
                  refine aw_iconst hC dX9_carLine_112 (v := 0) (by decide) ?_
                  refine aw_iald hC dX9_carLine_113 rm_7_0_2 rfl rfl (by decide) (k := 0) (by decide) ?_
                  refine aw_lload_n hC dX9_carLine_114 rfl ?_
                  refine aw_guard rfl (fun g367 => ?_)
                  refine aw_last hC dX9_carLine_115 rm_7_0_7 rfl rfl g367 rfl (fun h366 => ?_)
                  refine aw_aload_n hC dX9_carLine_116 rfl ?_
                  refine aw_gfR hC dX9_carLine_117 fg_RX9_20 rfl rfl rm_7_0_0 ?_
                  refine aw_iconst hC dX9_carLine_120 (v := 2) (by decide) ?_
                  refine aw_aload_n hC dX9_carLine_121 rfl ?_
                  refine aw_gfR hC dX9_carLine_122 fg_RX9_20 rfl rfl rm_7_0_0 ?_
                  refine aw_iconst hC dX9_carLine_125 (v := 0) (by decide) ?_
                  refine aw_iald hC dX9_carLine_126 rm_7_0_2 rfl rfl (by decide) (k := 0) (by decide) ?_
                  refine aw_iadd hC dX9_carLine_127 ?_
                  refine aw_iload hC dX9_carLine_128 rfl ?_
                  refine aw_guard rfl (fun g369 => ?_)
                  refine aw_iast hC dX9_carLine_130 rm_7_0_2 rfl rfl g369 rfl (fun h368 => ?_)
                  refine aw_aload_n hC dX9_carLine_131 rfl ?_
                  refine aw_gfR hC dX9_carLine_132 fg_RX9_20 rfl rfl rm_7_0_0 ?_
                  refine aw_iconst hC dX9_carLine_135 (v := 0) (by decide) ?_
                  refine aw_dup2 hC dX9_carLine_136 rfl rfl ?_
                  refine aw_iald hC dX9_carLine_137 rm_7_0_2 rfl rfl (by decide) (k := 0) (by decide) ?_
                  refine aw_iconst hC dX9_carLine_138 (v := 1) (by decide) ?_
                  refine aw_iadd hC dX9_carLine_139 ?_
                  refine aw_iast hC dX9_carLine_140 rm_7_0_2 rfl rfl (by decide) (k := 0) (by decide) (fun h370 => ?_)
                  exact aw_vret hC dX9_carLine_141 rfl rfl
                · exact aw_vret hC dX9_carLine_103 rfl rfl
          · refine aw_aload_n hC dX9_carLine_51 rfl ?_
            refine aw_bind rfl (fun q371 hq371 => ?_)
            refine aw_cVv hC dX9_carLine_52 cv_RX9_177 rfl rm_7_0_0 (am_some (inj := (fun r => (.inr (none), r))) hq371 (A_X9_goOnRead _ (hC.2.2.2.2.2.2.2.2.2.2.2.2.1) _ _ _ q297)) rfl rfl rfl rfl rfl ⟨rfl, rfl⟩ ?_
            refine aw_aload_n hC dX9_carLine_55 rfl ?_
            refine aw_bind rfl (fun q372 hq372 => ?_)
            refine aw_cVv hC dX9_carLine_56 cv_RX9_255 rfl rm_7_0_0 (am_some (inj := (fun r => (.inr (none), r))) hq372 (A_X9_mustName _ (hC.2.2.2.2.2.2.2.2.2.2.2.2.1) _ _ _ q371)) rfl rfl rfl rfl rfl ⟨rfl, rfl⟩ ?_
            refine aw_aload_n hC dX9_carLine_59 rfl ?_
            refine aw_cVb hC dX9_carLine_60 cv_RX9_167 rfl rm_7_0_0 (A_X9_isGood _ (hC.2.2.2.2.2.2.2.2.2.2.2.2.1) _ _ _ q372) rfl rfl rfl rfl rfl ⟨rfl, rfl⟩ ?_
            refine aw_if_eq_b hC dX9_carLine_63 (tgt := 83) (by decide) ?_ ?_
            · refine aw_aload_n hC dX9_carLine_83 rfl ?_
              refine aw_bind rfl (fun q373 hq373 => ?_)
              refine aw_cVj hC dX9_carLine_84 cv_RX9_264 rfl rm_7_0_0 (am_some (inj := (fun r => (.inr (some (.long r.1)), r.2))) hq373 (A_X9_nameHere _ (hC.2.2.2.2.2.2.2.2.2.2.2.2.1) _ _ _ q372)) rfl rfl rfl rfl rfl ⟨rfl, rfl⟩ ?_
              refine aw_lstore_n hC dX9_carLine_87 (by decide) ?_
              refine aw_aload_n hC dX9_carLine_88 rfl ?_
              refine aw_iconst hC dX9_carLine_89 (v := 0) (by decide) ?_
              refine aw_iload_n hC dX9_carLine_90 rfl ?_
              refine aw_bind rfl (fun q374 hq374 => ?_)
              refine aw_cVi hC dX9_carLine_91 cv_RX9_268 rfl rm_7_0_0 (am_some (inj := (fun r => (.inr (some (.int r.1)), r.2))) hq374 (A_X9_number _ (hC.2.2.2.2.2.2.2.2.2.2.2.2.1) _ _ _ (0 : Int32) p1 q373.2)) rfl rfl rfl rfl rfl ⟨rfl, rfl⟩ ?_
              refine aw_istore hC dX9_carLine_94 (by decide) ?_
              refine aw_aload_n hC dX9_carLine_96 rfl ?_
              refine aw_cVb hC dX9_carLine_97 cv_RX9_167 rfl rm_7_0_0 (A_X9_isGood _ (hC.2.2.2.2.2.2.2.2.2.2.2.2.1) _ _ _ q374.2) rfl rfl rfl rfl rfl ⟨rfl, rfl⟩ ?_
              refine aw_if_ne_b hC dX9_carLine_100 (tgt := 104) (by decide) ?_ ?_
              · refine aw_aload_n hC dX9_carLine_104 rfl ?_
                refine aw_gfR hC dX9_carLine_105 fg_RX9_35 rfl rfl rm_7_0_0 ?_
                refine aw_aload_n hC dX9_carLine_108 rfl ?_
                refine aw_gfR hC dX9_carLine_109 fg_RX9_20 rfl rfl rm_7_0_0 ?_
                refine aw_iconst hC dX9_carLine_112 (v := 0) (by decide) ?_
                refine aw_iald hC dX9_carLine_113 rm_7_0_2 rfl rfl (by decide) (k := 0) (by decide) ?_
                refine aw_lload_n hC dX9_carLine_114 rfl ?_
                refine aw_guard rfl (fun g376 => ?_)
                refine aw_last hC dX9_carLine_115 rm_7_0_7 rfl rfl g376 rfl (fun h375 => ?_)
                refine aw_aload_n hC dX9_carLine_116 rfl ?_
                refine aw_gfR hC dX9_carLine_117 fg_RX9_20 rfl rfl rm_7_0_0 ?_
                refine aw_iconst hC dX9_carLine_120 (v := 2) (by decide) ?_
                refine aw_aload_n hC dX9_carLine_121 rfl ?_
                refine aw_gfR hC dX9_carLine_122 fg_RX9_20 rfl rfl rm_7_0_0 ?_
                refine aw_iconst hC dX9_carLine_125 (v := 0) (by decide) ?_
                refine aw_iald hC dX9_carLine_126 rm_7_0_2 rfl rfl (by decide) (k := 0) (by decide) ?_
                refine aw_iadd hC dX9_carLine_127 ?_
                refine aw_iload hC dX9_carLine_128 rfl ?_
                refine aw_guard rfl (fun g378 => ?_)
                refine aw_iast hC dX9_carLine_130 rm_7_0_2 rfl rfl g378 rfl (fun h377 => ?_)
                refine aw_aload_n hC dX9_carLine_131 rfl ?_
                refine aw_gfR hC dX9_carLine_132 fg_RX9_20 rfl rfl rm_7_0_0 ?_
                refine aw_iconst hC dX9_carLine_135 (v := 0) (by decide) ?_
                refine aw_dup2 hC dX9_carLine_136 rfl rfl ?_
                refine aw_iald hC dX9_carLine_137 rm_7_0_2 rfl rfl (by decide) (k := 0) (by decide) ?_
                refine aw_iconst hC dX9_carLine_138 (v := 1) (by decide) ?_
                refine aw_iadd hC dX9_carLine_139 ?_
                refine aw_iast hC dX9_carLine_140 rm_7_0_2 rfl rfl (by decide) (k := 0) (by decide) (fun h379 => ?_)
                exact aw_vret hC dX9_carLine_141 rfl rfl
              · exact aw_vret hC dX9_carLine_103 rfl rfl
            · refine aw_aload_n hC dX9_carLine_66 rfl ?_
              refine aw_aload_n hC dX9_carLine_67 rfl ?_
              refine aw_gfJ hC dX9_carLine_68 fg_RX9_147 rfl rm_7_0_0 ?_
              refine aw_bind rfl (fun q380 hq380 => ?_)
              refine aw_cVi hC dX9_carLine_71 cv_RX9_260 rfl rm_7_0_0 (am_some (inj := (fun r => (.inr (some (.int r)), q372))) hq380 (A_X9_carNamed _ (hC.2.2.2.2.2.2.2.2.2.2.2.2.1) _ _ _ (gJ q372 (7, 0, 0) 12) q372)) rfl rfl rfl rfl rfl ⟨rfl, rfl⟩ ?_
              refine aw_iconst hC dX9_carLine_74 (v := -1) (by decide) ?_
              refine aw_icmp_eq hC dX9_carLine_75 (tgt := 83) (by decide) ?_ ?_
              · refine aw_aload_n hC dX9_carLine_83 rfl ?_
                refine aw_bind rfl (fun q381 hq381 => ?_)
                refine aw_cVj hC dX9_carLine_84 cv_RX9_264 rfl rm_7_0_0 (am_some (inj := (fun r => (.inr (some (.long r.1)), r.2))) hq381 (A_X9_nameHere _ (hC.2.2.2.2.2.2.2.2.2.2.2.2.1) _ _ _ q372)) rfl rfl rfl rfl rfl ⟨rfl, rfl⟩ ?_
                refine aw_lstore_n hC dX9_carLine_87 (by decide) ?_
                refine aw_aload_n hC dX9_carLine_88 rfl ?_
                refine aw_iconst hC dX9_carLine_89 (v := 0) (by decide) ?_
                refine aw_iload_n hC dX9_carLine_90 rfl ?_
                refine aw_bind rfl (fun q382 hq382 => ?_)
                refine aw_cVi hC dX9_carLine_91 cv_RX9_268 rfl rm_7_0_0 (am_some (inj := (fun r => (.inr (some (.int r.1)), r.2))) hq382 (A_X9_number _ (hC.2.2.2.2.2.2.2.2.2.2.2.2.1) _ _ _ (0 : Int32) p1 q381.2)) rfl rfl rfl rfl rfl ⟨rfl, rfl⟩ ?_
                refine aw_istore hC dX9_carLine_94 (by decide) ?_
                refine aw_aload_n hC dX9_carLine_96 rfl ?_
                refine aw_cVb hC dX9_carLine_97 cv_RX9_167 rfl rm_7_0_0 (A_X9_isGood _ (hC.2.2.2.2.2.2.2.2.2.2.2.2.1) _ _ _ q382.2) rfl rfl rfl rfl rfl ⟨rfl, rfl⟩ ?_
                refine aw_if_ne_b hC dX9_carLine_100 (tgt := 104) (by decide) ?_ ?_
                · refine aw_aload_n hC dX9_carLine_104 rfl ?_
                  refine aw_gfR hC dX9_carLine_105 fg_RX9_35 rfl rfl rm_7_0_0 ?_
                  refine aw_aload_n hC dX9_carLine_108 rfl ?_
                  refine aw_gfR hC dX9_carLine_109 fg_RX9_20 rfl rfl rm_7_0_0 ?_
                  refine aw_iconst hC dX9_carLine_112 (v := 0) (by decide) ?_
                  refine aw_iald hC dX9_carLine_113 rm_7_0_2 rfl rfl (by decide) (k := 0) (by decide) ?_
                  refine aw_lload_n hC dX9_carLine_114 rfl ?_
                  refine aw_guard rfl (fun g384 => ?_)
                  refine aw_last hC dX9_carLine_115 rm_7_0_7 rfl rfl g384 rfl (fun h383 => ?_)
                  refine aw_aload_n hC dX9_carLine_116 rfl ?_
                  refine aw_gfR hC dX9_carLine_117 fg_RX9_20 rfl rfl rm_7_0_0 ?_
                  refine aw_iconst hC dX9_carLine_120 (v := 2) (by decide) ?_
                  refine aw_aload_n hC dX9_carLine_121 rfl ?_
                  refine aw_gfR hC dX9_carLine_122 fg_RX9_20 rfl rfl rm_7_0_0 ?_
                  refine aw_iconst hC dX9_carLine_125 (v := 0) (by decide) ?_
                  refine aw_iald hC dX9_carLine_126 rm_7_0_2 rfl rfl (by decide) (k := 0) (by decide) ?_
                  refine aw_iadd hC dX9_carLine_127 ?_
                  refine aw_iload hC dX9_carLine_128 rfl ?_
                  refine aw_guard rfl (fun g386 => ?_)
                  refine aw_iast hC dX9_carLine_130 rm_7_0_2 rfl rfl g386 rfl (fun h385 => ?_)
                  refine aw_aload_n hC dX9_carLine_131 rfl ?_
                  refine aw_gfR hC dX9_carLine_132 fg_RX9_20 rfl rfl rm_7_0_0 ?_
                  refine aw_iconst hC dX9_carLine_135 (v := 0) (by decide) ?_
                  refine aw_dup2 hC dX9_carLine_136 rfl rfl ?_
                  refine aw_iald hC dX9_carLine_137 rm_7_0_2 rfl rfl (by decide) (k := 0) (by decide) ?_
                  refine aw_iconst hC dX9_carLine_138 (v := 1) (by decide) ?_
                  refine aw_iadd hC dX9_carLine_139 ?_
                  refine aw_iast hC dX9_carLine_140 rm_7_0_2 rfl rfl (by decide) (k := 0) (by decide) (fun h387 => ?_)
                  exact aw_vret hC dX9_carLine_141 rfl rfl
                · exact aw_vret hC dX9_carLine_103 rfl rfl
              · refine aw_aload_n hC dX9_carLine_78 rfl ?_
                refine aw_iconst hC dX9_carLine_79 (v := 3) (by decide) ?_
                refine aw_bind rfl (fun q388 hq388 => ?_)
                refine aw_cVv hC dX9_carLine_80 cv_RX9_174 rfl rm_7_0_0 (am_some (inj := (fun r => (.inr (none), r))) hq388 (A_X9_wrong _ (hC.2.2.2.2.2.2.2.2.2.2.2.2.1) _ _ _ (3 : Int32) q372)) rfl rfl rfl rfl rfl ⟨rfl, rfl⟩ ?_
                refine aw_aload_n hC dX9_carLine_83 rfl ?_
                refine aw_bind rfl (fun q389 hq389 => ?_)
                refine aw_cVj hC dX9_carLine_84 cv_RX9_264 rfl rm_7_0_0 (am_some (inj := (fun r => (.inr (some (.long r.1)), r.2))) hq389 (A_X9_nameHere _ (hC.2.2.2.2.2.2.2.2.2.2.2.2.1) _ _ _ q388)) rfl rfl rfl rfl rfl ⟨rfl, rfl⟩ ?_
                refine aw_lstore_n hC dX9_carLine_87 (by decide) ?_
                refine aw_aload_n hC dX9_carLine_88 rfl ?_
                refine aw_iconst hC dX9_carLine_89 (v := 0) (by decide) ?_
                refine aw_iload_n hC dX9_carLine_90 rfl ?_
                refine aw_bind rfl (fun q390 hq390 => ?_)
                refine aw_cVi hC dX9_carLine_91 cv_RX9_268 rfl rm_7_0_0 (am_some (inj := (fun r => (.inr (some (.int r.1)), r.2))) hq390 (A_X9_number _ (hC.2.2.2.2.2.2.2.2.2.2.2.2.1) _ _ _ (0 : Int32) p1 q389.2)) rfl rfl rfl rfl rfl ⟨rfl, rfl⟩ ?_
                refine aw_istore hC dX9_carLine_94 (by decide) ?_
                refine aw_aload_n hC dX9_carLine_96 rfl ?_
                refine aw_cVb hC dX9_carLine_97 cv_RX9_167 rfl rm_7_0_0 (A_X9_isGood _ (hC.2.2.2.2.2.2.2.2.2.2.2.2.1) _ _ _ q390.2) rfl rfl rfl rfl rfl ⟨rfl, rfl⟩ ?_
                refine aw_if_ne_b hC dX9_carLine_100 (tgt := 104) (by decide) ?_ ?_
                · refine aw_aload_n hC dX9_carLine_104 rfl ?_
                  refine aw_gfR hC dX9_carLine_105 fg_RX9_35 rfl rfl rm_7_0_0 ?_
                  refine aw_aload_n hC dX9_carLine_108 rfl ?_
                  refine aw_gfR hC dX9_carLine_109 fg_RX9_20 rfl rfl rm_7_0_0 ?_
                  refine aw_iconst hC dX9_carLine_112 (v := 0) (by decide) ?_
                  refine aw_iald hC dX9_carLine_113 rm_7_0_2 rfl rfl (by decide) (k := 0) (by decide) ?_
                  refine aw_lload_n hC dX9_carLine_114 rfl ?_
                  refine aw_guard rfl (fun g392 => ?_)
                  refine aw_last hC dX9_carLine_115 rm_7_0_7 rfl rfl g392 rfl (fun h391 => ?_)
                  refine aw_aload_n hC dX9_carLine_116 rfl ?_
                  refine aw_gfR hC dX9_carLine_117 fg_RX9_20 rfl rfl rm_7_0_0 ?_
                  refine aw_iconst hC dX9_carLine_120 (v := 2) (by decide) ?_
                  refine aw_aload_n hC dX9_carLine_121 rfl ?_
                  refine aw_gfR hC dX9_carLine_122 fg_RX9_20 rfl rfl rm_7_0_0 ?_
                  refine aw_iconst hC dX9_carLine_125 (v := 0) (by decide) ?_
                  refine aw_iald hC dX9_carLine_126 rm_7_0_2 rfl rfl (by decide) (k := 0) (by decide) ?_
                  refine aw_iadd hC dX9_carLine_127 ?_
                  refine aw_iload hC dX9_carLine_128 rfl ?_
                  refine aw_guard rfl (fun g394 => ?_)
                  refine aw_iast hC dX9_carLine_130 rm_7_0_2 rfl rfl g394 rfl (fun h393 => ?_)
                  refine aw_aload_n hC dX9_carLine_131 rfl ?_
                  refine aw_gfR hC dX9_carLine_132 fg_RX9_20 rfl rfl rm_7_0_0 ?_
                  refine aw_iconst hC dX9_carLine_135 (v := 0) (by decide) ?_
                  refine aw_dup2 hC dX9_carLine_136 rfl rfl ?_
                  refine aw_iald hC dX9_carLine_137 rm_7_0_2 rfl rfl (by decide) (k := 0) (by decide) ?_
                  refine aw_iconst hC dX9_carLine_138 (v := 1) (by decide) ?_
                  refine aw_iadd hC dX9_carLine_139 ?_
                  refine aw_iast hC dX9_carLine_140 rm_7_0_2 rfl rfl (by decide) (k := 0) (by decide) (fun h395 => ?_)
                  exact aw_vret hC dX9_carLine_141 rfl rfl
                · exact aw_vret hC dX9_carLine_103 rfl rfl
        · refine aw_aload_n hC dX9_carLine_39 rfl ?_
          refine aw_iconst hC dX9_carLine_40 (v := 5) (by decide) ?_
          refine aw_bind rfl (fun q396 hq396 => ?_)
          refine aw_cVv hC dX9_carLine_41 cv_RX9_174 rfl rm_7_0_0 (am_some (inj := (fun r => (.inr (none), r))) hq396 (A_X9_wrong _ (hC.2.2.2.2.2.2.2.2.2.2.2.2.1) _ _ _ (5 : Int32) q297)) rfl rfl rfl rfl rfl ⟨rfl, rfl⟩ ?_
          refine aw_aload_n hC dX9_carLine_44 rfl ?_
          refine aw_cVb hC dX9_carLine_45 cv_RX9_167 rfl rm_7_0_0 (A_X9_isGood _ (hC.2.2.2.2.2.2.2.2.2.2.2.2.1) _ _ _ q396) rfl rfl rfl rfl rfl ⟨rfl, rfl⟩ ?_
          refine aw_if_eq_b hC dX9_carLine_48 (tgt := 55) (by decide) ?_ ?_
          · refine aw_aload_n hC dX9_carLine_55 rfl ?_
            refine aw_bind rfl (fun q397 hq397 => ?_)
            refine aw_cVv hC dX9_carLine_56 cv_RX9_255 rfl rm_7_0_0 (am_some (inj := (fun r => (.inr (none), r))) hq397 (A_X9_mustName _ (hC.2.2.2.2.2.2.2.2.2.2.2.2.1) _ _ _ q396)) rfl rfl rfl rfl rfl ⟨rfl, rfl⟩ ?_
            refine aw_aload_n hC dX9_carLine_59 rfl ?_
            refine aw_cVb hC dX9_carLine_60 cv_RX9_167 rfl rm_7_0_0 (A_X9_isGood _ (hC.2.2.2.2.2.2.2.2.2.2.2.2.1) _ _ _ q397) rfl rfl rfl rfl rfl ⟨rfl, rfl⟩ ?_
            refine aw_if_eq_b hC dX9_carLine_63 (tgt := 83) (by decide) ?_ ?_
            · refine aw_aload_n hC dX9_carLine_83 rfl ?_
              refine aw_bind rfl (fun q398 hq398 => ?_)
              refine aw_cVj hC dX9_carLine_84 cv_RX9_264 rfl rm_7_0_0 (am_some (inj := (fun r => (.inr (some (.long r.1)), r.2))) hq398 (A_X9_nameHere _ (hC.2.2.2.2.2.2.2.2.2.2.2.2.1) _ _ _ q397)) rfl rfl rfl rfl rfl ⟨rfl, rfl⟩ ?_
              refine aw_lstore_n hC dX9_carLine_87 (by decide) ?_
              refine aw_aload_n hC dX9_carLine_88 rfl ?_
              refine aw_iconst hC dX9_carLine_89 (v := 0) (by decide) ?_
              refine aw_iload_n hC dX9_carLine_90 rfl ?_
              refine aw_bind rfl (fun q399 hq399 => ?_)
              refine aw_cVi hC dX9_carLine_91 cv_RX9_268 rfl rm_7_0_0 (am_some (inj := (fun r => (.inr (some (.int r.1)), r.2))) hq399 (A_X9_number _ (hC.2.2.2.2.2.2.2.2.2.2.2.2.1) _ _ _ (0 : Int32) p1 q398.2)) rfl rfl rfl rfl rfl ⟨rfl, rfl⟩ ?_
              refine aw_istore hC dX9_carLine_94 (by decide) ?_
              refine aw_aload_n hC dX9_carLine_96 rfl ?_
              refine aw_cVb hC dX9_carLine_97 cv_RX9_167 rfl rm_7_0_0 (A_X9_isGood _ (hC.2.2.2.2.2.2.2.2.2.2.2.2.1) _ _ _ q399.2) rfl rfl rfl rfl rfl ⟨rfl, rfl⟩ ?_
              refine aw_if_ne_b hC dX9_carLine_100 (tgt := 104) (by decide) ?_ ?_
              · refine aw_aload_n hC dX9_carLine_104 rfl ?_
                refine aw_gfR hC dX9_carLine_105 fg_RX9_35 rfl rfl rm_7_0_0 ?_
                refine aw_aload_n hC dX9_carLine_108 rfl ?_
                refine aw_gfR hC dX9_carLine_109 fg_RX9_20 rfl rfl rm_7_0_0 ?_
                refine aw_iconst hC dX9_carLine_112 (v := 0) (by decide) ?_
                refine aw_iald hC dX9_carLine_113 rm_7_0_2 rfl rfl (by decide) (k := 0) (by decide) ?_
                refine aw_lload_n hC dX9_carLine_114 rfl ?_
                refine aw_guard rfl (fun g401 => ?_)
                refine aw_last hC dX9_carLine_115 rm_7_0_7 rfl rfl g401 rfl (fun h400 => ?_)
                refine aw_aload_n hC dX9_carLine_116 rfl ?_
                refine aw_gfR hC dX9_carLine_117 fg_RX9_20 rfl rfl rm_7_0_0 ?_
                refine aw_iconst hC dX9_carLine_120 (v := 2) (by decide) ?_
                refine aw_aload_n hC dX9_carLine_121 rfl ?_
                refine aw_gfR hC dX9_carLine_122 fg_RX9_20 rfl rfl rm_7_0_0 ?_
                refine aw_iconst hC dX9_carLine_125 (v := 0) (by decide) ?_
                refine aw_iald hC dX9_carLine_126 rm_7_0_2 rfl rfl (by decide) (k := 0) (by decide) ?_
                refine aw_iadd hC dX9_carLine_127 ?_
                refine aw_iload hC dX9_carLine_128 rfl ?_
                refine aw_guard rfl (fun g403 => ?_)
                refine aw_iast hC dX9_carLine_130 rm_7_0_2 rfl rfl g403 rfl (fun h402 => ?_)
                refine aw_aload_n hC dX9_carLine_131 rfl ?_
                refine aw_gfR hC dX9_carLine_132 fg_RX9_20 rfl rfl rm_7_0_0 ?_
                refine aw_iconst hC dX9_carLine_135 (v := 0) (by decide) ?_
                refine aw_dup2 hC dX9_carLine_136 rfl rfl ?_
                refine aw_iald hC dX9_carLine_137 rm_7_0_2 rfl rfl (by decide) (k := 0) (by decide) ?_
                refine aw_iconst hC dX9_carLine_138 (v := 1) (by decide) ?_
                refine aw_iadd hC dX9_carLine_139 ?_
                refine aw_iast hC dX9_carLine_140 rm_7_0_2 rfl rfl (by decide) (k := 0) (by decide) (fun h404 => ?_)
                exact aw_vret hC dX9_carLine_141 rfl rfl
              · exact aw_vret hC dX9_carLine_103 rfl rfl
            · refine aw_aload_n hC dX9_carLine_66 rfl ?_
              refine aw_aload_n hC dX9_carLine_67 rfl ?_
              refine aw_gfJ hC dX9_carLine_68 fg_RX9_147 rfl rm_7_0_0 ?_
              refine aw_bind rfl (fun q405 hq405 => ?_)
              refine aw_cVi hC dX9_carLine_71 cv_RX9_260 rfl rm_7_0_0 (am_some (inj := (fun r => (.inr (some (.int r)), q397))) hq405 (A_X9_carNamed _ (hC.2.2.2.2.2.2.2.2.2.2.2.2.1) _ _ _ (gJ q397 (7, 0, 0) 12) q397)) rfl rfl rfl rfl rfl ⟨rfl, rfl⟩ ?_
              refine aw_iconst hC dX9_carLine_74 (v := -1) (by decide) ?_
              refine aw_icmp_eq hC dX9_carLine_75 (tgt := 83) (by decide) ?_ ?_
              · refine aw_aload_n hC dX9_carLine_83 rfl ?_
                refine aw_bind rfl (fun q406 hq406 => ?_)
                refine aw_cVj hC dX9_carLine_84 cv_RX9_264 rfl rm_7_0_0 (am_some (inj := (fun r => (.inr (some (.long r.1)), r.2))) hq406 (A_X9_nameHere _ (hC.2.2.2.2.2.2.2.2.2.2.2.2.1) _ _ _ q397)) rfl rfl rfl rfl rfl ⟨rfl, rfl⟩ ?_
                refine aw_lstore_n hC dX9_carLine_87 (by decide) ?_
                refine aw_aload_n hC dX9_carLine_88 rfl ?_
                refine aw_iconst hC dX9_carLine_89 (v := 0) (by decide) ?_
                refine aw_iload_n hC dX9_carLine_90 rfl ?_
                refine aw_bind rfl (fun q407 hq407 => ?_)
                refine aw_cVi hC dX9_carLine_91 cv_RX9_268 rfl rm_7_0_0 (am_some (inj := (fun r => (.inr (some (.int r.1)), r.2))) hq407 (A_X9_number _ (hC.2.2.2.2.2.2.2.2.2.2.2.2.1) _ _ _ (0 : Int32) p1 q406.2)) rfl rfl rfl rfl rfl ⟨rfl, rfl⟩ ?_
                refine aw_istore hC dX9_carLine_94 (by decide) ?_
                refine aw_aload_n hC dX9_carLine_96 rfl ?_
                refine aw_cVb hC dX9_carLine_97 cv_RX9_167 rfl rm_7_0_0 (A_X9_isGood _ (hC.2.2.2.2.2.2.2.2.2.2.2.2.1) _ _ _ q407.2) rfl rfl rfl rfl rfl ⟨rfl, rfl⟩ ?_
                refine aw_if_ne_b hC dX9_carLine_100 (tgt := 104) (by decide) ?_ ?_
                · refine aw_aload_n hC dX9_carLine_104 rfl ?_
                  refine aw_gfR hC dX9_carLine_105 fg_RX9_35 rfl rfl rm_7_0_0 ?_
                  refine aw_aload_n hC dX9_carLine_108 rfl ?_
                  refine aw_gfR hC dX9_carLine_109 fg_RX9_20 rfl rfl rm_7_0_0 ?_
                  refine aw_iconst hC dX9_carLine_112 (v := 0) (by decide) ?_
                  refine aw_iald hC dX9_carLine_113 rm_7_0_2 rfl rfl (by decide) (k := 0) (by decide) ?_
                  refine aw_lload_n hC dX9_carLine_114 rfl ?_
                  refine aw_guard rfl (fun g409 => ?_)
                  refine aw_last hC dX9_carLine_115 rm_7_0_7 rfl rfl g409 rfl (fun h408 => ?_)
                  refine aw_aload_n hC dX9_carLine_116 rfl ?_
                  refine aw_gfR hC dX9_carLine_117 fg_RX9_20 rfl rfl rm_7_0_0 ?_
                  refine aw_iconst hC dX9_carLine_120 (v := 2) (by decide) ?_
                  refine aw_aload_n hC dX9_carLine_121 rfl ?_
                  refine aw_gfR hC dX9_carLine_122 fg_RX9_20 rfl rfl rm_7_0_0 ?_
                  refine aw_iconst hC dX9_carLine_125 (v := 0) (by decide) ?_
                  refine aw_iald hC dX9_carLine_126 rm_7_0_2 rfl rfl (by decide) (k := 0) (by decide) ?_
                  refine aw_iadd hC dX9_carLine_127 ?_
                  refine aw_iload hC dX9_carLine_128 rfl ?_
                  refine aw_guard rfl (fun g411 => ?_)
                  refine aw_iast hC dX9_carLine_130 rm_7_0_2 rfl rfl g411 rfl (fun h410 => ?_)
                  refine aw_aload_n hC dX9_carLine_131 rfl ?_
                  refine aw_gfR hC dX9_carLine_132 fg_RX9_20 rfl rfl rm_7_0_0 ?_
                  refine aw_iconst hC dX9_carLine_135 (v := 0) (by decide) ?_
                  refine aw_dup2 hC dX9_carLine_136 rfl rfl ?_
                  refine aw_iald hC dX9_carLine_137 rm_7_0_2 rfl rfl (by decide) (k := 0) (by decide) ?_
                  refine aw_iconst hC dX9_carLine_138 (v := 1) (by decide) ?_
                  refine aw_iadd hC dX9_carLine_139 ?_
                  refine aw_iast hC dX9_carLine_140 rm_7_0_2 rfl rfl (by decide) (k := 0) (by decide) (fun h412 => ?_)
                  exact aw_vret hC dX9_carLine_141 rfl rfl
                · exact aw_vret hC dX9_carLine_103 rfl rfl
              · refine aw_aload_n hC dX9_carLine_78 rfl ?_
                refine aw_iconst hC dX9_carLine_79 (v := 3) (by decide) ?_
                refine aw_bind rfl (fun q413 hq413 => ?_)
                refine aw_cVv hC dX9_carLine_80 cv_RX9_174 rfl rm_7_0_0 (am_some (inj := (fun r => (.inr (none), r))) hq413 (A_X9_wrong _ (hC.2.2.2.2.2.2.2.2.2.2.2.2.1) _ _ _ (3 : Int32) q397)) rfl rfl rfl rfl rfl ⟨rfl, rfl⟩ ?_
                refine aw_aload_n hC dX9_carLine_83 rfl ?_
                refine aw_bind rfl (fun q414 hq414 => ?_)
                refine aw_cVj hC dX9_carLine_84 cv_RX9_264 rfl rm_7_0_0 (am_some (inj := (fun r => (.inr (some (.long r.1)), r.2))) hq414 (A_X9_nameHere _ (hC.2.2.2.2.2.2.2.2.2.2.2.2.1) _ _ _ q413)) rfl rfl rfl rfl rfl ⟨rfl, rfl⟩ ?_
                refine aw_lstore_n hC dX9_carLine_87 (by decide) ?_
                refine aw_aload_n hC dX9_carLine_88 rfl ?_
                refine aw_iconst hC dX9_carLine_89 (v := 0) (by decide) ?_
                refine aw_iload_n hC dX9_carLine_90 rfl ?_
                refine aw_bind rfl (fun q415 hq415 => ?_)
                refine aw_cVi hC dX9_carLine_91 cv_RX9_268 rfl rm_7_0_0 (am_some (inj := (fun r => (.inr (some (.int r.1)), r.2))) hq415 (A_X9_number _ (hC.2.2.2.2.2.2.2.2.2.2.2.2.1) _ _ _ (0 : Int32) p1 q414.2)) rfl rfl rfl rfl rfl ⟨rfl, rfl⟩ ?_
                refine aw_istore hC dX9_carLine_94 (by decide) ?_
                refine aw_aload_n hC dX9_carLine_96 rfl ?_
                refine aw_cVb hC dX9_carLine_97 cv_RX9_167 rfl rm_7_0_0 (A_X9_isGood _ (hC.2.2.2.2.2.2.2.2.2.2.2.2.1) _ _ _ q415.2) rfl rfl rfl rfl rfl ⟨rfl, rfl⟩ ?_
                refine aw_if_ne_b hC dX9_carLine_100 (tgt := 104) (by decide) ?_ ?_
                · refine aw_aload_n hC dX9_carLine_104 rfl ?_
                  refine aw_gfR hC dX9_carLine_105 fg_RX9_35 rfl rfl rm_7_0_0 ?_
                  refine aw_aload_n hC dX9_carLine_108 rfl ?_
                  refine aw_gfR hC dX9_carLine_109 fg_RX9_20 rfl rfl rm_7_0_0 ?_
                  refine aw_iconst hC dX9_carLine_112 (v := 0) (by decide) ?_
                  refine aw_iald hC dX9_carLine_113 rm_7_0_2 rfl rfl (by decide) (k := 0) (by decide) ?_
                  refine aw_lload_n hC dX9_carLine_114 rfl ?_
                  refine aw_guard rfl (fun g417 => ?_)
                  refine aw_last hC dX9_carLine_115 rm_7_0_7 rfl rfl g417 rfl (fun h416 => ?_)
                  refine aw_aload_n hC dX9_carLine_116 rfl ?_
                  refine aw_gfR hC dX9_carLine_117 fg_RX9_20 rfl rfl rm_7_0_0 ?_
                  refine aw_iconst hC dX9_carLine_120 (v := 2) (by decide) ?_
                  refine aw_aload_n hC dX9_carLine_121 rfl ?_
                  refine aw_gfR hC dX9_carLine_122 fg_RX9_20 rfl rfl rm_7_0_0 ?_
                  refine aw_iconst hC dX9_carLine_125 (v := 0) (by decide) ?_
                  refine aw_iald hC dX9_carLine_126 rm_7_0_2 rfl rfl (by decide) (k := 0) (by decide) ?_
                  refine aw_iadd hC dX9_carLine_127 ?_
                  refine aw_iload hC dX9_carLine_128 rfl ?_
                  refine aw_guard rfl (fun g419 => ?_)
                  refine aw_iast hC dX9_carLine_130 rm_7_0_2 rfl rfl g419 rfl (fun h418 => ?_)
                  refine aw_aload_n hC dX9_carLine_131 rfl ?_
                  refine aw_gfR hC dX9_carLine_132 fg_RX9_20 rfl rfl rm_7_0_0 ?_
                  refine aw_iconst hC dX9_carLine_135 (v := 0) (by decide) ?_
                  refine aw_dup2 hC dX9_carLine_136 rfl rfl ?_
                  refine aw_iald hC dX9_carLine_137 rm_7_0_2 rfl rfl (by decide) (k := 0) (by decide) ?_
                  refine aw_iconst hC dX9_carLine_138 (v := 1) (by decide) ?_
                  refine aw_iadd hC dX9_carLine_139 ?_
                  refine aw_iast hC dX9_carLine_140 rm_7_0_2 rfl rfl (by decide) (k := 0) (by decide) (fun h420 => ?_)
                  exact aw_vret hC dX9_carLine_141 rfl rfl
                · exact aw_vret hC dX9_carLine_103 rfl rfl
          · refine aw_aload_n hC dX9_carLine_51 rfl ?_
            refine aw_bind rfl (fun q421 hq421 => ?_)
            refine aw_cVv hC dX9_carLine_52 cv_RX9_177 rfl rm_7_0_0 (am_some (inj := (fun r => (.inr (none), r))) hq421 (A_X9_goOnRead _ (hC.2.2.2.2.2.2.2.2.2.2.2.2.1) _ _ _ q396)) rfl rfl rfl rfl rfl ⟨rfl, rfl⟩ ?_
            refine aw_aload_n hC dX9_carLine_55 rfl ?_
            refine aw_bind rfl (fun q422 hq422 => ?_)
            refine aw_cVv hC dX9_carLine_56 cv_RX9_255 rfl rm_7_0_0 (am_some (inj := (fun r => (.inr (none), r))) hq422 (A_X9_mustName _ (hC.2.2.2.2.2.2.2.2.2.2.2.2.1) _ _ _ q421)) rfl rfl rfl rfl rfl ⟨rfl, rfl⟩ ?_
            refine aw_aload_n hC dX9_carLine_59 rfl ?_
            refine aw_cVb hC dX9_carLine_60 cv_RX9_167 rfl rm_7_0_0 (A_X9_isGood _ (hC.2.2.2.2.2.2.2.2.2.2.2.2.1) _ _ _ q422) rfl rfl rfl rfl rfl ⟨rfl, rfl⟩ ?_
            refine aw_if_eq_b hC dX9_carLine_63 (tgt := 83) (by decide) ?_ ?_
            · refine aw_aload_n hC dX9_carLine_83 rfl ?_
              refine aw_bind rfl (fun q423 hq423 => ?_)
              refine aw_cVj hC dX9_carLine_84 cv_RX9_264 rfl rm_7_0_0 (am_some (inj := (fun r => (.inr (some (.long r.1)), r.2))) hq423 (A_X9_nameHere _ (hC.2.2.2.2.2.2.2.2.2.2.2.2.1) _ _ _ q422)) rfl rfl rfl rfl rfl ⟨rfl, rfl⟩ ?_
              refine aw_lstore_n hC dX9_carLine_87 (by decide) ?_
              refine aw_aload_n hC dX9_carLine_88 rfl ?_
              refine aw_iconst hC dX9_carLine_89 (v := 0) (by decide) ?_
              refine aw_iload_n hC dX9_carLine_90 rfl ?_
              refine aw_bind rfl (fun q424 hq424 => ?_)
              refine aw_cVi hC dX9_carLine_91 cv_RX9_268 rfl rm_7_0_0 (am_some (inj := (fun r => (.inr (some (.int r.1)), r.2))) hq424 (A_X9_number _ (hC.2.2.2.2.2.2.2.2.2.2.2.2.1) _ _ _ (0 : Int32) p1 q423.2)) rfl rfl rfl rfl rfl ⟨rfl, rfl⟩ ?_
              refine aw_istore hC dX9_carLine_94 (by decide) ?_
              refine aw_aload_n hC dX9_carLine_96 rfl ?_
              refine aw_cVb hC dX9_carLine_97 cv_RX9_167 rfl rm_7_0_0 (A_X9_isGood _ (hC.2.2.2.2.2.2.2.2.2.2.2.2.1) _ _ _ q424.2) rfl rfl rfl rfl rfl ⟨rfl, rfl⟩ ?_
              refine aw_if_ne_b hC dX9_carLine_100 (tgt := 104) (by decide) ?_ ?_
              · refine aw_aload_n hC dX9_carLine_104 rfl ?_
                refine aw_gfR hC dX9_carLine_105 fg_RX9_35 rfl rfl rm_7_0_0 ?_
                refine aw_aload_n hC dX9_carLine_108 rfl ?_
                refine aw_gfR hC dX9_carLine_109 fg_RX9_20 rfl rfl rm_7_0_0 ?_
                refine aw_iconst hC dX9_carLine_112 (v := 0) (by decide) ?_
                refine aw_iald hC dX9_carLine_113 rm_7_0_2 rfl rfl (by decide) (k := 0) (by decide) ?_
                refine aw_lload_n hC dX9_carLine_114 rfl ?_
                refine aw_guard rfl (fun g426 => ?_)
                refine aw_last hC dX9_carLine_115 rm_7_0_7 rfl rfl g426 rfl (fun h425 => ?_)
                refine aw_aload_n hC dX9_carLine_116 rfl ?_
                refine aw_gfR hC dX9_carLine_117 fg_RX9_20 rfl rfl rm_7_0_0 ?_
                refine aw_iconst hC dX9_carLine_120 (v := 2) (by decide) ?_
                refine aw_aload_n hC dX9_carLine_121 rfl ?_
                refine aw_gfR hC dX9_carLine_122 fg_RX9_20 rfl rfl rm_7_0_0 ?_
                refine aw_iconst hC dX9_carLine_125 (v := 0) (by decide) ?_
                refine aw_iald hC dX9_carLine_126 rm_7_0_2 rfl rfl (by decide) (k := 0) (by decide) ?_
                refine aw_iadd hC dX9_carLine_127 ?_
                refine aw_iload hC dX9_carLine_128 rfl ?_
                refine aw_guard rfl (fun g428 => ?_)
                refine aw_iast hC dX9_carLine_130 rm_7_0_2 rfl rfl g428 rfl (fun h427 => ?_)
                refine aw_aload_n hC dX9_carLine_131 rfl ?_
                refine aw_gfR hC dX9_carLine_132 fg_RX9_20 rfl rfl rm_7_0_0 ?_
                refine aw_iconst hC dX9_carLine_135 (v := 0) (by decide) ?_
                refine aw_dup2 hC dX9_carLine_136 rfl rfl ?_
                refine aw_iald hC dX9_carLine_137 rm_7_0_2 rfl rfl (by decide) (k := 0) (by decide) ?_
                refine aw_iconst hC dX9_carLine_138 (v := 1) (by decide) ?_
                refine aw_iadd hC dX9_carLine_139 ?_
                refine aw_iast hC dX9_carLine_140 rm_7_0_2 rfl rfl (by decide) (k := 0) (by decide) (fun h429 => ?_)
                exact aw_vret hC dX9_carLine_141 rfl rfl
              · exact aw_vret hC dX9_carLine_103 rfl rfl
            · refine aw_aload_n hC dX9_carLine_66 rfl ?_
              refine aw_aload_n hC dX9_carLine_67 rfl ?_
              refine aw_gfJ hC dX9_carLine_68 fg_RX9_147 rfl rm_7_0_0 ?_
              refine aw_bind rfl (fun q430 hq430 => ?_)
              refine aw_cVi hC dX9_carLine_71 cv_RX9_260 rfl rm_7_0_0 (am_some (inj := (fun r => (.inr (some (.int r)), q422))) hq430 (A_X9_carNamed _ (hC.2.2.2.2.2.2.2.2.2.2.2.2.1) _ _ _ (gJ q422 (7, 0, 0) 12) q422)) rfl rfl rfl rfl rfl ⟨rfl, rfl⟩ ?_
              refine aw_iconst hC dX9_carLine_74 (v := -1) (by decide) ?_
              refine aw_icmp_eq hC dX9_carLine_75 (tgt := 83) (by decide) ?_ ?_
              · refine aw_aload_n hC dX9_carLine_83 rfl ?_
                refine aw_bind rfl (fun q431 hq431 => ?_)
                refine aw_cVj hC dX9_carLine_84 cv_RX9_264 rfl rm_7_0_0 (am_some (inj := (fun r => (.inr (some (.long r.1)), r.2))) hq431 (A_X9_nameHere _ (hC.2.2.2.2.2.2.2.2.2.2.2.2.1) _ _ _ q422)) rfl rfl rfl rfl rfl ⟨rfl, rfl⟩ ?_
                refine aw_lstore_n hC dX9_carLine_87 (by decide) ?_
                refine aw_aload_n hC dX9_carLine_88 rfl ?_
                refine aw_iconst hC dX9_carLine_89 (v := 0) (by decide) ?_
                refine aw_iload_n hC dX9_carLine_90 rfl ?_
                refine aw_bind rfl (fun q432 hq432 => ?_)
                refine aw_cVi hC dX9_carLine_91 cv_RX9_268 rfl rm_7_0_0 (am_some (inj := (fun r => (.inr (some (.int r.1)), r.2))) hq432 (A_X9_number _ (hC.2.2.2.2.2.2.2.2.2.2.2.2.1) _ _ _ (0 : Int32) p1 q431.2)) rfl rfl rfl rfl rfl ⟨rfl, rfl⟩ ?_
                refine aw_istore hC dX9_carLine_94 (by decide) ?_
                refine aw_aload_n hC dX9_carLine_96 rfl ?_
                refine aw_cVb hC dX9_carLine_97 cv_RX9_167 rfl rm_7_0_0 (A_X9_isGood _ (hC.2.2.2.2.2.2.2.2.2.2.2.2.1) _ _ _ q432.2) rfl rfl rfl rfl rfl ⟨rfl, rfl⟩ ?_
                refine aw_if_ne_b hC dX9_carLine_100 (tgt := 104) (by decide) ?_ ?_
                · refine aw_aload_n hC dX9_carLine_104 rfl ?_
                  refine aw_gfR hC dX9_carLine_105 fg_RX9_35 rfl rfl rm_7_0_0 ?_
                  refine aw_aload_n hC dX9_carLine_108 rfl ?_
                  refine aw_gfR hC dX9_carLine_109 fg_RX9_20 rfl rfl rm_7_0_0 ?_
                  refine aw_iconst hC dX9_carLine_112 (v := 0) (by decide) ?_
                  refine aw_iald hC dX9_carLine_113 rm_7_0_2 rfl rfl (by decide) (k := 0) (by decide) ?_
                  refine aw_lload_n hC dX9_carLine_114 rfl ?_
                  refine aw_guard rfl (fun g434 => ?_)
                  refine aw_last hC dX9_carLine_115 rm_7_0_7 rfl rfl g434 rfl (fun h433 => ?_)
                  refine aw_aload_n hC dX9_carLine_116 rfl ?_
                  refine aw_gfR hC dX9_carLine_117 fg_RX9_20 rfl rfl rm_7_0_0 ?_
                  refine aw_iconst hC dX9_carLine_120 (v := 2) (by decide) ?_
                  refine aw_aload_n hC dX9_carLine_121 rfl ?_
                  refine aw_gfR hC dX9_carLine_122 fg_RX9_20 rfl rfl rm_7_0_0 ?_
                  refine aw_iconst hC dX9_carLine_125 (v := 0) (by decide) ?_
                  refine aw_iald hC dX9_carLine_126 rm_7_0_2 rfl rfl (by decide) (k := 0) (by decide) ?_
                  refine aw_iadd hC dX9_carLine_127 ?_
                  refine aw_iload hC dX9_carLine_128 rfl ?_
                  refine aw_guard rfl (fun g436 => ?_)
                  refine aw_iast hC dX9_carLine_130 rm_7_0_2 rfl rfl g436 rfl (fun h435 => ?_)
                  refine aw_aload_n hC dX9_carLine_131 rfl ?_
                  refine aw_gfR hC dX9_carLine_132 fg_RX9_20 rfl rfl rm_7_0_0 ?_
                  refine aw_iconst hC dX9_carLine_135 (v := 0) (by decide) ?_
                  refine aw_dup2 hC dX9_carLine_136 rfl rfl ?_
                  refine aw_iald hC dX9_carLine_137 rm_7_0_2 rfl rfl (by decide) (k := 0) (by decide) ?_
                  refine aw_iconst hC dX9_carLine_138 (v := 1) (by decide) ?_
                  refine aw_iadd hC dX9_carLine_139 ?_
                  refine aw_iast hC dX9_carLine_140 rm_7_0_2 rfl rfl (by decide) (k := 0) (by decide) (fun h437 => ?_)
                  exact aw_vret hC dX9_carLine_141 rfl rfl
                · exact aw_vret hC dX9_carLine_103 rfl rfl
              · refine aw_aload_n hC dX9_carLine_78 rfl ?_
                refine aw_iconst hC dX9_carLine_79 (v := 3) (by decide) ?_
                refine aw_bind rfl (fun q438 hq438 => ?_)
                refine aw_cVv hC dX9_carLine_80 cv_RX9_174 rfl rm_7_0_0 (am_some (inj := (fun r => (.inr (none), r))) hq438 (A_X9_wrong _ (hC.2.2.2.2.2.2.2.2.2.2.2.2.1) _ _ _ (3 : Int32) q422)) rfl rfl rfl rfl rfl ⟨rfl, rfl⟩ ?_
                refine aw_aload_n hC dX9_carLine_83 rfl ?_
                refine aw_bind rfl (fun q439 hq439 => ?_)
                refine aw_cVj hC dX9_carLine_84 cv_RX9_264 rfl rm_7_0_0 (am_some (inj := (fun r => (.inr (some (.long r.1)), r.2))) hq439 (A_X9_nameHere _ (hC.2.2.2.2.2.2.2.2.2.2.2.2.1) _ _ _ q438)) rfl rfl rfl rfl rfl ⟨rfl, rfl⟩ ?_
                refine aw_lstore_n hC dX9_carLine_87 (by decide) ?_
                refine aw_aload_n hC dX9_carLine_88 rfl ?_
                refine aw_iconst hC dX9_carLine_89 (v := 0) (by decide) ?_
                refine aw_iload_n hC dX9_carLine_90 rfl ?_
                refine aw_bind rfl (fun q440 hq440 => ?_)
                refine aw_cVi hC dX9_carLine_91 cv_RX9_268 rfl rm_7_0_0 (am_some (inj := (fun r => (.inr (some (.int r.1)), r.2))) hq440 (A_X9_number _ (hC.2.2.2.2.2.2.2.2.2.2.2.2.1) _ _ _ (0 : Int32) p1 q439.2)) rfl rfl rfl rfl rfl ⟨rfl, rfl⟩ ?_
                refine aw_istore hC dX9_carLine_94 (by decide) ?_
                refine aw_aload_n hC dX9_carLine_96 rfl ?_
                refine aw_cVb hC dX9_carLine_97 cv_RX9_167 rfl rm_7_0_0 (A_X9_isGood _ (hC.2.2.2.2.2.2.2.2.2.2.2.2.1) _ _ _ q440.2) rfl rfl rfl rfl rfl ⟨rfl, rfl⟩ ?_
                refine aw_if_ne_b hC dX9_carLine_100 (tgt := 104) (by decide) ?_ ?_
                · refine aw_aload_n hC dX9_carLine_104 rfl ?_
                  refine aw_gfR hC dX9_carLine_105 fg_RX9_35 rfl rfl rm_7_0_0 ?_
                  refine aw_aload_n hC dX9_carLine_108 rfl ?_
                  refine aw_gfR hC dX9_carLine_109 fg_RX9_20 rfl rfl rm_7_0_0 ?_
                  refine aw_iconst hC dX9_carLine_112 (v := 0) (by decide) ?_
                  refine aw_iald hC dX9_carLine_113 rm_7_0_2 rfl rfl (by decide) (k := 0) (by decide) ?_
                  refine aw_lload_n hC dX9_carLine_114 rfl ?_
                  refine aw_guard rfl (fun g442 => ?_)
                  refine aw_last hC dX9_carLine_115 rm_7_0_7 rfl rfl g442 rfl (fun h441 => ?_)
                  refine aw_aload_n hC dX9_carLine_116 rfl ?_
                  refine aw_gfR hC dX9_carLine_117 fg_RX9_20 rfl rfl rm_7_0_0 ?_
                  refine aw_iconst hC dX9_carLine_120 (v := 2) (by decide) ?_
                  refine aw_aload_n hC dX9_carLine_121 rfl ?_
                  refine aw_gfR hC dX9_carLine_122 fg_RX9_20 rfl rfl rm_7_0_0 ?_
                  refine aw_iconst hC dX9_carLine_125 (v := 0) (by decide) ?_
                  refine aw_iald hC dX9_carLine_126 rm_7_0_2 rfl rfl (by decide) (k := 0) (by decide) ?_
                  refine aw_iadd hC dX9_carLine_127 ?_
                  refine aw_iload hC dX9_carLine_128 rfl ?_
                  refine aw_guard rfl (fun g444 => ?_)
                  refine aw_iast hC dX9_carLine_130 rm_7_0_2 rfl rfl g444 rfl (fun h443 => ?_)
                  refine aw_aload_n hC dX9_carLine_131 rfl ?_
                  refine aw_gfR hC dX9_carLine_132 fg_RX9_20 rfl rfl rm_7_0_0 ?_
                  refine aw_iconst hC dX9_carLine_135 (v := 0) (by decide) ?_
                  refine aw_dup2 hC dX9_carLine_136 rfl rfl ?_
                  refine aw_iald hC dX9_carLine_137 rm_7_0_2 rfl rfl (by decide) (k := 0) (by decide) ?_
                  refine aw_iconst hC dX9_carLine_138 (v := 1) (by decide) ?_
                  refine aw_iadd hC dX9_carLine_139 ?_
                  refine aw_iast hC dX9_carLine_140 rm_7_0_2 rfl rfl (by decide) (k := 0) (by decide) (fun h445 => ?_)
                  exact aw_vret hC dX9_carLine_141 rfl rfl
                · exact aw_vret hC dX9_carLine_103 rfl rfl
end PRF
