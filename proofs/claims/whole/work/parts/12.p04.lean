section PRF
variable {p : Program} {l : Launch} {e : Env} {R : Room} {s : State} {m : MethodId} {args : Array Value} {below : List Frame} {meth : Method} {c : Code} {D : va_G} {loc : Rf → Nat} {cy : Nat → ClassId} {A : Nat → Prop}
set_option maxHeartbeats 4000000 in
set_option maxRecDepth 100000 in
theorem A_X8_wayWith (l : Launch) (hl0 : l.stackTraces = false) (D : va_G) (loc : Rf → Nat) (cy : Nat → ClassId) (p1 : Int32) (h : HD) : AM l D loc cy yX8_wayWith cX8_wayWith 2 (some .int) 6 148 [.ref (loc (6, 0, 0)), .int p1] h ((jX8_wayWith p1 h).map (fun r => (.inr (some (.int r.1)), r.2))) := by
  refine am_start (y := yX8_wayWith) (av := [.ref (loc (6, 0, 0)), .int p1]) (nL := 2) (h := h) (RF := fun (r : Option (Int32 × HD)) => r.map (fun r => (.inr (some (.int r.1)), r.2))) (x := jX8_wayWith p1 h) hl0 (by decide +kernel) rfl ?_
  intro p e R s m below meth c A hC
  unfold jX8_wayWith
  refine aw_aload_n hC dX8_wayWith_0 rfl ?_
  refine aw_gfR hC dX8_wayWith_1 fg_RX8_46 rfl rfl rm_6_0_0 ?_
  refine aw_aload_n hC dX8_wayWith_4 rfl ?_
  refine aw_gfR hC dX8_wayWith_5 fg_RX8_42 rfl rfl rm_6_0_0 ?_
  refine aw_bind rfl (fun q1 hq1 => ?_)
  refine aw_cVv hC dX8_wayWith_8 cv_RX8_134 rfl rm_1_1_0 (am_some (inj := (fun r => (.inr (none), r))) hq1 (A_X2_copyFrom _ (hC.2.2.2.2.2.2.2.2.2.2.2.2.1) _ _ _ 1 (by decide) 0 (by decide) h)) rfl rfl rfl rfl rfl ⟨rfl, rfl⟩ ?_
  refine aw_aload_n hC dX8_wayWith_11 rfl ?_
  refine aw_gfR hC dX8_wayWith_12 fg_RX8_46 rfl rfl rm_6_0_0 ?_
  refine aw_iload_n hC dX8_wayWith_15 rfl ?_
  refine aw_bind rfl (fun q2 hq2 => ?_)
  refine aw_cVv hC dX8_wayWith_16 cv_RX8_209 rfl rm_1_1_0 (am_some (inj := (fun r => (.inr (none), r))) hq2 (A_X2_changeBack _ (hC.2.2.2.2.2.2.2.2.2.2.2.2.1) _ _ _ 1 (by decide) p1 q1)) rfl rfl rfl rfl rfl ⟨rfl, rfl⟩ ?_
  refine aw_aload_n hC dX8_wayWith_19 rfl ?_
  refine aw_gfR hC dX8_wayWith_20 fg_RX8_62 rfl rfl rm_6_0_0 ?_
  refine aw_aload_n hC dX8_wayWith_23 rfl ?_
  refine aw_gfR hC dX8_wayWith_24 fg_RX8_46 rfl rfl rm_6_0_0 ?_
  refine aw_aload_n hC dX8_wayWith_27 rfl ?_
  refine aw_gfR hC dX8_wayWith_28 fg_RX8_46 rfl rfl rm_6_0_0 ?_
  refine aw_cVi hC dX8_wayWith_31 cv_RX8_138 rfl rm_1_1_0 (A_X2_count _ (hC.2.2.2.2.2.2.2.2.2.2.2.2.1) _ _ _ 1 (by decide) q2) rfl rfl rfl rfl rfl ⟨rfl, rfl⟩ ?_
  refine aw_bind rfl (fun q3 hq3 => ?_)
  refine aw_cVv hC dX8_wayWith_34 cv_RX8_301 rfl rm_2_0_0 (am_some (inj := (fun r => (.inr (none), r))) hq3 (A_X4_comeRound _ (hC.2.2.2.2.2.2.2.2.2.2.2.2.1) _ _ _ 0 (by decide) 1 (by decide) (jX2_count 1 q2) q2)) rfl rfl rfl rfl rfl ⟨rfl, rfl⟩ ?_
  refine aw_aload_n hC dX8_wayWith_37 rfl ?_
  refine aw_gfR hC dX8_wayWith_38 fg_RX8_62 rfl rfl rm_6_0_0 ?_
  refine aw_bind rfl (fun q4 hq4 => ?_)
  refine aw_cVi hC dX8_wayWith_41 cv_RX8_320 rfl rm_2_0_0 (am_some (inj := (fun r => (.inr (some (.int r)), q3))) hq4 (A_X4_wayOfAll _ (hC.2.2.2.2.2.2.2.2.2.2.2.2.1) _ _ _ 0 (by decide) q3)) rfl rfl rfl rfl rfl ⟨rfl, rfl⟩ ?_
  exact aw_iret hC dX8_wayWith_44 rfl rfl
set_option maxHeartbeats 4000000 in
set_option maxRecDepth 100000 in
theorem A_X8_wayBy (l : Launch) (hl0 : l.stackTraces = false) (D : va_G) (loc : Rf → Nat) (cy : Nat → ClassId) (p1 : Int32) (h : HD) : AX l D loc cy yX8_wayBy (Cond.code yX8_wayBy cX8_wayBy 2 (some .int) :: LW) 7 169 1 6 [.ref (loc (6, 0, 0)), .int p1] h ((jX8_wayBy p1 h).map (fun r => (xi (fun v => some (.int v)) r.1, r.2))) := by
  refine ax_start (y := yX8_wayBy) (av := [.ref (loc (6, 0, 0)), .int p1]) (nL := 2) (h := h) (RF := fun (r : Option ((Nat ⊕ Int32) × HD)) => r.map (fun r => (xi (fun v => some (.int v)) r.1, r.2))) (x := jX8_wayBy p1 h) hl0 (by decide +kernel) rfl ?_
  intro p e R s m below meth c A hxt hC
  unfold jX8_wayBy
  refine aw_aload_n hC dX8_wayBy_0 rfl ?_
  refine aw_iload_n hC dX8_wayBy_1 rfl ?_
  refine aw_bind rfl (fun q1 hq1 => ?_)
  refine aw_cXv hC hxt dX8_wayBy_2 cv_RX8_419 rfl rm_6_0_0 (ax_some (inj := (fun r => (xi (fun _ => none) r, h))) hq1 (A_X8_needBack _ (hC.2.2.2.2.2.2.2.2.2.2.2.2.1) _ _ _ p1 h)) rfl rfl rfl rfl rfl ⟨rfl, rfl⟩ rfl rfl (fun _ => rfl) (fun v2 => ?_)
  refine aw_aload_n hC dX8_wayBy_5 rfl ?_
  refine aw_iload_n hC dX8_wayBy_6 rfl ?_
  refine aw_bind rfl (fun q3 hq3 => ?_)
  refine aw_cVi hC dX8_wayBy_7 cv_RX8_422 rfl rm_6_0_0 (am_some (inj := (fun r => (.inr (some (.int r.1)), r.2))) hq3 (A_X8_wayWith _ (hC.2.2.2.2.2.2.2.2.2.2.2.2.1) _ _ _ p1 h)) rfl rfl rfl rfl rfl ⟨rfl, rfl⟩ ?_
  exact aw_ireX hC dX8_wayBy_10 rfl rfl rfl rfl
set_option maxHeartbeats 4000000 in
set_option maxRecDepth 100000 in
theorem L_X8_bestBack_10  (hC : Cx p l e R s m args meth c D loc cy A cX8_bestBack 5 (some .int) RX8 7 169 0 0)  : ∀ (n10 : Nat) (x1 : Int32) (x2 : Int32) (x3 : Int32) (h : HD), AW p l e R s m args below meth c D loc cy A 5 (QM below D loc cy A args s) (fun (r : Option (Int32 × HD)) => r.map (fun r => (.inr (some (.int r.1)), r.2))) (0, 0) 10 [(0, .ref (loc (6, 0, 0))), (1, .int x1), (2, .int x2), (3, .int x3)] [] h (jX8_bestBack_L10 n10 x1 x2 x3 h) := by
  intro n10
  induction n10 with
  | zero => intro x1 x2 x3 h; exact aw_none rfl
  | succ n10 ih10 =>
    intro x1 x2 x3 h
    rw [jX8_bestBack_L10]
    refine aw_iload_n hC dX8_bestBack_10 rfl ?_
    refine aw_iconst hC dX8_bestBack_11 (v := 5) (by decide) ?_
    refine aw_icmp_gt hC dX8_bestBack_12 (tgt := 39) (by decide) ?_ ?_
    · refine aw_iload_n hC dX8_bestBack_39 rfl ?_
      exact aw_iret hC dX8_bestBack_40 rfl rfl
    · refine aw_aload_n hC dX8_bestBack_15 rfl ?_
      refine aw_iload_n hC dX8_bestBack_16 rfl ?_
      refine aw_bind rfl (fun q2 hq2 => ?_)
      refine aw_cVi hC dX8_bestBack_17 cv_RX8_422 rfl rm_6_0_0 (am_some (inj := (fun r => (.inr (some (.int r.1)), r.2))) hq2 (A_X8_wayWith _ (hC.2.2.2.2.2.2.2.2.2.2.2.2.1) _ _ _ x3 h)) rfl rfl rfl rfl rfl ⟨rfl, rfl⟩ ?_
      refine aw_istore hC dX8_bestBack_20 (by decide) ?_
      refine aw_iload hC dX8_bestBack_22 rfl ?_
      refine aw_iload_n hC dX8_bestBack_24 rfl ?_
      refine aw_icmp_ge hC dX8_bestBack_25 (tgt := 33) (by decide) ?_ ?_
      · refine aw_iinc hC dX8_bestBack_33 rfl (v := x3 + 1) (by first | rfl | decide) (by decide) ?_
        refine aw_goto hC dX8_bestBack_36 (tgt := 10) (by decide) ?_
        refine aw_sub [0, 1, 2, 3] ?_
        exact ih10 x1 x2 (x3 + 1) q2.2
      · refine aw_iload hC dX8_bestBack_28 rfl ?_
        refine aw_istore_n hC dX8_bestBack_30 (by decide) ?_
        refine aw_iload_n hC dX8_bestBack_31 rfl ?_
        refine aw_istore_n hC dX8_bestBack_32 (by decide) ?_
        refine aw_iinc hC dX8_bestBack_33 rfl (v := x3 + 1) (by first | rfl | decide) (by decide) ?_
        refine aw_goto hC dX8_bestBack_36 (tgt := 10) (by decide) ?_
        refine aw_sub [0, 1, 2, 3] ?_
        exact ih10 x3 q2.1 (x3 + 1) q2.2
set_option maxHeartbeats 4000000 in
set_option maxRecDepth 100000 in
theorem A_X8_bestBack (l : Launch) (hl0 : l.stackTraces = false) (D : va_G) (loc : Rf → Nat) (cy : Nat → ClassId)  (h : HD) : AM l D loc cy yX8_bestBack cX8_bestBack 5 (some .int) 7 169 [.ref (loc (6, 0, 0))] h ((jX8_bestBack h).map (fun r => (.inr (some (.int r.1)), r.2))) := by
  refine am_start (y := yX8_bestBack) (av := [.ref (loc (6, 0, 0))]) (nL := 5) (h := h) (RF := fun (r : Option (Int32 × HD)) => r.map (fun r => (.inr (some (.int r.1)), r.2))) (x := jX8_bestBack h) hl0 (by decide +kernel) rfl ?_
  intro p e R s m below meth c A hC
  unfold jX8_bestBack
  refine aw_iconst hC dX8_bestBack_0 (v := 0) (by decide) ?_
  refine aw_istore_n hC dX8_bestBack_1 (by decide) ?_
  refine aw_aload_n hC dX8_bestBack_2 rfl ?_
  refine aw_iconst hC dX8_bestBack_3 (v := 0) (by decide) ?_
  refine aw_bind rfl (fun q1 hq1 => ?_)
  refine aw_cVi hC dX8_bestBack_4 cv_RX8_422 rfl rm_6_0_0 (am_some (inj := (fun r => (.inr (some (.int r.1)), r.2))) hq1 (A_X8_wayWith _ (hC.2.2.2.2.2.2.2.2.2.2.2.2.1) _ _ _ (0 : Int32) h)) rfl rfl rfl rfl rfl ⟨rfl, rfl⟩ ?_
  refine aw_istore_n hC dX8_bestBack_7 (by decide) ?_
  refine aw_iconst hC dX8_bestBack_8 (v := 1) (by decide) ?_
  refine aw_istore_n hC dX8_bestBack_9 (by decide) ?_
  refine aw_sub [0, 1, 2, 3] ?_
  exact L_X8_bestBack_10   hC FU (0 : Int32) q1.1 (1 : Int32) q1.2
set_option maxHeartbeats 4000000 in
set_option maxRecDepth 100000 in
theorem A_X8_note (l : Launch) (hl0 : l.stackTraces = false) (D : va_G) (loc : Rf → Nat) (cy : Nat → ClassId)  (h : HD) : AM l D loc cy yX8_note cX8_note 1 (none) 2 85 [.ref (loc (6, 0, 0))] h ((jX8_note h).map (fun r => (.inr (none), r))) := by
  refine am_start (y := yX8_note) (av := [.ref (loc (6, 0, 0))]) (nL := 1) (h := h) (RF := fun (r : Option HD) => r.map (fun r => (.inr (none), r))) (x := jX8_note h) hl0 (by decide +kernel) rfl ?_
  intro p e R s m below meth c A hC
  unfold jX8_note
  refine aw_aload_n hC dX8_note_0 rfl ?_
  refine aw_gfR hC dX8_note_1 fg_RX8_52 rfl rfl rm_6_0_0 ?_
  refine aw_aload_n hC dX8_note_4 rfl ?_
  refine aw_gfR hC dX8_note_5 fg_RX8_42 rfl rfl rm_6_0_0 ?_
  refine aw_bind rfl (fun q1 hq1 => ?_)
  refine aw_cVv hC dX8_note_8 cv_RX8_134 rfl rm_1_3_0 (am_some (inj := (fun r => (.inr (none), r))) hq1 (A_X2_copyFrom _ (hC.2.2.2.2.2.2.2.2.2.2.2.2.1) _ _ _ 3 (by decide) 0 (by decide) h)) rfl rfl rfl rfl rfl ⟨rfl, rfl⟩ ?_
  exact aw_vret hC dX8_note_11 rfl rfl
set_option maxHeartbeats 4000000 in
set_option maxRecDepth 100000 in
theorem A_X8_doPrefer (l : Launch) (hl0 : l.stackTraces = false) (D : va_G) (loc : Rf → Nat) (cy : Nat → ClassId) (p1 : Int32) (p2 : Int32) (h : HD) : AM l D loc cy yX8_doPrefer cX8_doPrefer 3 (some .boolean) 2 59 [.ref (loc (6, 0, 0)), .int p1, .int p2] h ((jX8_doPrefer p1 p2 h).map (fun r => (.inr (some (.int (b2i r.1))), r.2))) := by
  refine am_start (y := yX8_doPrefer) (av := [.ref (loc (6, 0, 0)), .int p1, .int p2]) (nL := 3) (h := h) (RF := fun (r : Option (Bool × HD)) => r.map (fun r => (.inr (some (.int (b2i r.1))), r.2))) (x := jX8_doPrefer p1 p2 h) hl0 (by decide +kernel) rfl ?_
  intro p e R s m below meth c A hC
  unfold jX8_doPrefer
  refine aw_aload_n hC dX8_doPrefer_0 rfl ?_
  refine aw_gfR hC dX8_doPrefer_1 fg_RX8_76 rfl rfl rm_6_0_0 ?_
  refine aw_iconst hC dX8_doPrefer_4 (v := 0) (by decide) ?_
  refine aw_dup2 hC dX8_doPrefer_5 rfl rfl ?_
  refine aw_iald hC dX8_doPrefer_6 rm_6_0_2 rfl rfl (by decide) (k := 0) (by decide) ?_
  refine aw_iconst hC dX8_doPrefer_7 (v := 1) (by decide) ?_
  refine aw_iadd hC dX8_doPrefer_8 ?_
  refine aw_iast hC dX8_doPrefer_9 rm_6_0_2 rfl rfl (by decide) (k := 0) (by decide) (fun h1 => ?_)
  refine aw_aload_n hC dX8_doPrefer_10 rfl ?_
  refine aw_gfR hC dX8_doPrefer_11 fg_RX8_42 rfl rfl rm_6_0_0 ?_
  refine aw_iload_n hC dX8_doPrefer_14 rfl ?_
  refine aw_iload_n hC dX8_doPrefer_15 rfl ?_
  refine aw_bind rfl (fun q2 hq2 => ?_)
  refine aw_cVv hC dX8_doPrefer_16 cv_RX8_412 rfl rm_1_0_0 (am_some (inj := (fun r => (.inr (none), r))) hq2 (A_X2_changePreference _ (hC.2.2.2.2.2.2.2.2.2.2.2.2.1) _ _ _ 0 (by decide) p1 p2 h1)) rfl rfl rfl rfl rfl ⟨rfl, rfl⟩ ?_
  refine aw_iconst hC dX8_doPrefer_19 (v := 1) (by decide) ?_
  exact aw_zret hC dX8_doPrefer_20 rfl (show _ = b2i true from rfl) rfl
set_option maxHeartbeats 4000000 in
set_option maxRecDepth 100000 in
theorem L_X8_keepNoted_18 (y1 : Nat) (hy1 : y1 < 10) (k44 : HD → Option HD) (hC : Cx p l e R s m args meth c D loc cy A cX8_keepNoted 3 (none) RX8 2 85 0 0) (hk44 : ∀  (h2 : HD), AW p l e R s m args below meth c D loc cy A 3 (QM below D loc cy A args s) (fun (r : Option HD) => r.map (fun r => (.inr (none), r))) (0, 0) 44 [(0, .ref (loc (6, 0, 0))), (1, .ref (loc (1, y1, 0)))] [] h2 (k44  h2)) : ∀ (n18 : Nat) (x2 : Int32) (h : HD), AW p l e R s m args below meth c D loc cy A 3 (QM below D loc cy A args s) (fun (r : Option HD) => r.map (fun r => (.inr (none), r))) (0, 0) 18 [(0, .ref (loc (6, 0, 0))), (1, .ref (loc (1, y1, 0))), (2, .int x2)] [] h (jX8_keepNoted_L18 y1 k44 n18 x2 h) := by
  intro n18
  induction n18 with
  | zero => intro x2 h; exact aw_none rfl
  | succ n18 ih18 =>
    intro x2 h
    rw [jX8_keepNoted_L18]
    refine aw_iload_n hC dX8_keepNoted_18 rfl ?_
    refine aw_bipush hC dX8_keepNoted_19 (v := 6) (by decide) ?_
    refine aw_icmp_ge hC dX8_keepNoted_21 (tgt := 44) (by decide) ?_ ?_
    · refine aw_sub [0, 1] ?_
      exact hk44 h
    · refine aw_aload_n hC dX8_keepNoted_24 rfl ?_
      refine aw_gfR hC dX8_keepNoted_25 fg_RX8_55 rfl rfl rm_6_0_0 ?_
      refine aw_iload_n hC dX8_keepNoted_28 rfl ?_
      refine aw_iconst hC dX8_keepNoted_29 (v := 1) (by decide) ?_
      refine aw_isub hC dX8_keepNoted_30 ?_
      refine aw_aload_n hC dX8_keepNoted_31 rfl ?_
      refine aw_gfR hC dX8_keepNoted_32 fg_RX8_55 rfl rfl rm_6_0_0 ?_
      refine aw_iload_n hC dX8_keepNoted_35 rfl ?_
      refine aw_guard rfl (fun g7 => ?_)
      refine aw_kald hC dX8_keepNoted_36 g7 rfl (fun f6 => ?_)
      refine aw_guard rfl (fun g9 => ?_)
      refine aw_kast hC dX8_keepNoted_37 f6 (rv_1_0 f6) g9 rfl (fun h8 => ?_)
      refine aw_iinc hC dX8_keepNoted_38 rfl (v := x2 + 1) (by first | rfl | decide) (by decide) ?_
      refine aw_goto hC dX8_keepNoted_41 (tgt := 18) (by decide) ?_
      refine aw_sub [0, 1, 2] ?_
      exact ih18 (x2 + 1) h8
set_option maxHeartbeats 4000000 in
set_option maxRecDepth 100000 in
theorem A_X8_keepNoted (l : Launch) (hl0 : l.stackTraces = false) (D : va_G) (loc : Rf → Nat) (cy : Nat → ClassId)  (h : HD) : AM l D loc cy yX8_keepNoted cX8_keepNoted 3 (none) 2 85 [.ref (loc (6, 0, 0))] h ((jX8_keepNoted h).map (fun r => (.inr (none), r))) := by
  refine am_start (y := yX8_keepNoted) (av := [.ref (loc (6, 0, 0))]) (nL := 3) (h := h) (RF := fun (r : Option HD) => r.map (fun r => (.inr (none), r))) (x := jX8_keepNoted h) hl0 (by decide +kernel) rfl ?_
  intro p e R s m below meth c A hC
  unfold jX8_keepNoted
  refine aw_aload_n hC dX8_keepNoted_0 rfl ?_
  refine aw_gfI hC dX8_keepNoted_1 fg_RX8_80 rfl rm_6_0_0 ?_
  refine aw_bipush hC dX8_keepNoted_4 (v := 6) (by decide) ?_
  refine aw_icmp_lt hC dX8_keepNoted_6 (tgt := 56) (by decide) ?_ ?_
  · refine aw_aload_n hC dX8_keepNoted_56 rfl ?_
    refine aw_gfI hC dX8_keepNoted_57 fg_RX8_80 rfl rm_6_0_0 ?_
    refine aw_if_lt hC dX8_keepNoted_60 (tgt := 98) (by decide) ?_ ?_
    · exact aw_vret hC dX8_keepNoted_98 rfl rfl
    · refine aw_aload_n hC dX8_keepNoted_63 rfl ?_
      refine aw_gfI hC dX8_keepNoted_64 fg_RX8_80 rfl rm_6_0_0 ?_
      refine aw_bipush hC dX8_keepNoted_67 (v := 6) (by decide) ?_
      refine aw_icmp_ge hC dX8_keepNoted_69 (tgt := 98) (by decide) ?_ ?_
      · exact aw_vret hC dX8_keepNoted_98 rfl rfl
      · refine aw_aload_n hC dX8_keepNoted_72 rfl ?_
        refine aw_gfR hC dX8_keepNoted_73 fg_RX8_55 rfl rfl rm_6_0_0 ?_
        refine aw_aload_n hC dX8_keepNoted_76 rfl ?_
        refine aw_gfI hC dX8_keepNoted_77 fg_RX8_80 rfl rm_6_0_0 ?_
        refine aw_guard rfl (fun g2 => ?_)
        refine aw_kald hC dX8_keepNoted_80 g2 rfl (fun f1 => ?_)
        refine aw_aload_n hC dX8_keepNoted_81 rfl ?_
        refine aw_gfR hC dX8_keepNoted_82 fg_RX8_52 rfl rfl rm_6_0_0 ?_
        refine aw_bind rfl (fun q3 hq3 => ?_)
        refine aw_cVv hC dX8_keepNoted_85 cv_RX8_134 rfl (rv_1_0 f1) (am_some (inj := (fun r => (.inr (none), r))) hq3 (A_X2_copyFrom _ (hC.2.2.2.2.2.2.2.2.2.2.2.2.1) _ _ _ (gK h ((gI h (6, 0, 0) 13).toNatClampNeg)) f1 3 (by decide) h)) rfl rfl rfl rfl rfl ⟨rfl, rfl⟩ ?_
        refine aw_aload_n hC dX8_keepNoted_88 rfl ?_
        refine aw_dup hC dX8_keepNoted_89 rfl ?_
        refine aw_gfI hC dX8_keepNoted_90 fg_RX8_80 rfl rm_6_0_0 ?_
        refine aw_iconst hC dX8_keepNoted_93 (v := 1) (by decide) ?_
        refine aw_iadd hC dX8_keepNoted_94 ?_
        refine aw_pfI hC dX8_keepNoted_95 fg_RX8_80 fp_6_13 rfl rm_6_0_0 (fun h4 => ?_)
        exact aw_vret hC dX8_keepNoted_98 rfl rfl
  · refine aw_aload_n hC dX8_keepNoted_9 rfl ?_
    refine aw_gfR hC dX8_keepNoted_10 fg_RX8_55 rfl rfl rm_6_0_0 ?_
    refine aw_iconst hC dX8_keepNoted_13 (v := 0) (by decide) ?_
    refine aw_kald hC dX8_keepNoted_14 (by decide) (k := 0) (by decide) (fun f5 => ?_)
    refine aw_astore_n hC dX8_keepNoted_15 (by decide) ?_
    refine aw_iconst hC dX8_keepNoted_16 (v := 1) (by decide) ?_
    refine aw_istore_n hC dX8_keepNoted_17 (by decide) ?_
    refine aw_sub [0, 1, 2] ?_
    refine L_X8_keepNoted_18 (gK h 0) f5 _ hC ?_ FU (1 : Int32) h
    · intro h10
      refine aw_aload_n hC dX8_keepNoted_44 rfl ?_
      refine aw_gfR hC dX8_keepNoted_45 fg_RX8_55 rfl rfl rm_6_0_0 ?_
      refine aw_iconst hC dX8_keepNoted_48 (v := 5) (by decide) ?_
      refine aw_aload_n hC dX8_keepNoted_49 rfl ?_
      refine aw_kast hC dX8_keepNoted_50 f5 (rv_1_0 f5) (by decide) (k := 5) (by decide) (fun h11 => ?_)
      refine aw_aload_n hC dX8_keepNoted_51 rfl ?_
      refine aw_iconst hC dX8_keepNoted_52 (v := 5) (by decide) ?_
      refine aw_pfI hC dX8_keepNoted_53 fg_RX8_80 fp_6_13 rfl rm_6_0_0 (fun h12 => ?_)
      refine aw_aload_n hC dX8_keepNoted_56 rfl ?_
      refine aw_gfI hC dX8_keepNoted_57 fg_RX8_80 rfl rm_6_0_0 ?_
      refine aw_if_lt hC dX8_keepNoted_60 (tgt := 98) (by decide) ?_ ?_
      · exact aw_vret hC dX8_keepNoted_98 rfl rfl
      · refine aw_aload_n hC dX8_keepNoted_63 rfl ?_
        refine aw_gfI hC dX8_keepNoted_64 fg_RX8_80 rfl rm_6_0_0 ?_
        refine aw_bipush hC dX8_keepNoted_67 (v := 6) (by decide) ?_
        refine aw_icmp_ge hC dX8_keepNoted_69 (tgt := 98) (by decide) ?_ ?_
        · exact aw_vret hC dX8_keepNoted_98 rfl rfl
        · refine aw_aload_n hC dX8_keepNoted_72 rfl ?_
          refine aw_gfR hC dX8_keepNoted_73 fg_RX8_55 rfl rfl rm_6_0_0 ?_
          refine aw_aload_n hC dX8_keepNoted_76 rfl ?_
          refine aw_gfI hC dX8_keepNoted_77 fg_RX8_80 rfl rm_6_0_0 ?_
          refine aw_guard rfl (fun g14 => ?_)
          refine aw_kald hC dX8_keepNoted_80 g14 rfl (fun f13 => ?_)
          refine aw_aload_n hC dX8_keepNoted_81 rfl ?_
          refine aw_gfR hC dX8_keepNoted_82 fg_RX8_52 rfl rfl rm_6_0_0 ?_
          refine aw_bind rfl (fun q15 hq15 => ?_)
          refine aw_cVv hC dX8_keepNoted_85 cv_RX8_134 rfl (rv_1_0 f13) (am_some (inj := (fun r => (.inr (none), r))) hq15 (A_X2_copyFrom _ (hC.2.2.2.2.2.2.2.2.2.2.2.2.1) _ _ _ (gK h12 ((gI h12 (6, 0, 0) 13).toNatClampNeg)) f13 3 (by decide) h12)) rfl rfl rfl rfl rfl ⟨rfl, rfl⟩ ?_
          refine aw_aload_n hC dX8_keepNoted_88 rfl ?_
          refine aw_dup hC dX8_keepNoted_89 rfl ?_
          refine aw_gfI hC dX8_keepNoted_90 fg_RX8_80 rfl rm_6_0_0 ?_
          refine aw_iconst hC dX8_keepNoted_93 (v := 1) (by decide) ?_
          refine aw_iadd hC dX8_keepNoted_94 ?_
          refine aw_pfI hC dX8_keepNoted_95 fg_RX8_80 fp_6_13 rfl rm_6_0_0 (fun h16 => ?_)
          exact aw_vret hC dX8_keepNoted_98 rfl rfl
set_option maxHeartbeats 4000000 in
set_option maxRecDepth 100000 in
theorem A_X8_prefer (l : Launch) (hl0 : l.stackTraces = false) (D : va_G) (loc : Rf → Nat) (cy : Nat → ClassId) (p1 : Int32) (p2 : Int32) (h : HD) : AX l D loc cy yX8_prefer (Cond.code yX8_prefer cX8_prefer 4 (some .int) :: LW) 7 121 2 12 [.ref (loc (6, 0, 0)), .int p1, .int p2] h ((jX8_prefer p1 p2 h).map (fun r => (xi (fun v => some (.int v)) r.1, r.2))) := by
  refine ax_start (y := yX8_prefer) (av := [.ref (loc (6, 0, 0)), .int p1, .int p2]) (nL := 4) (h := h) (RF := fun (r : Option ((Nat ⊕ Int32) × HD)) => r.map (fun r => (xi (fun v => some (.int v)) r.1, r.2))) (x := jX8_prefer p1 p2 h) hl0 (by decide +kernel) rfl ?_
  intro p e R s m below meth c A hxt hC
  unfold jX8_prefer
  refine aw_aload_n hC dX8_prefer_0 rfl ?_
  refine aw_iload_n hC dX8_prefer_1 rfl ?_
  refine aw_bind rfl (fun q1 hq1 => ?_)
  refine aw_cXv hC hxt dX8_prefer_2 cv_RX8_234 rfl rm_6_0_0 (ax_some (inj := (fun r => (xi (fun _ => none) r, h))) hq1 (A_X8_needCar _ (hC.2.2.2.2.2.2.2.2.2.2.2.2.1) _ _ _ p1 h)) rfl rfl rfl rfl rfl ⟨rfl, rfl⟩ rfl rfl (fun _ => rfl) (fun v2 => ?_)
  refine aw_aload_n hC dX8_prefer_5 rfl ?_
  refine aw_iload_n hC dX8_prefer_6 rfl ?_
  refine aw_bind rfl (fun q3 hq3 => ?_)
  refine aw_cXv hC hxt dX8_prefer_7 cv_RX8_405 rfl rm_6_0_0 (ax_some (inj := (fun r => (xi (fun _ => none) r, h))) hq3 (A_X8_needPreference _ (hC.2.2.2.2.2.2.2.2.2.2.2.2.1) _ _ _ p2 h)) rfl rfl rfl rfl rfl ⟨rfl, rfl⟩ rfl rfl (fun _ => rfl) (fun v4 => ?_)
  refine aw_aload_n hC dX8_prefer_10 rfl ?_
  refine aw_gfR hC dX8_prefer_11 fg_RX8_42 rfl rfl rm_6_0_0 ?_
  refine aw_iload_n hC dX8_prefer_14 rfl ?_
  refine aw_bind rfl (fun q5 hq5 => ?_)
  refine aw_cVi hC dX8_prefer_15 cv_RX8_249 rfl rm_1_0_0 (am_some (inj := (fun r => (.inr (some (.int r)), h))) hq5 (A_X2_preferenceOf _ (hC.2.2.2.2.2.2.2.2.2.2.2.2.1) _ _ _ 0 (by decide) p1 h)) rfl rfl rfl rfl rfl ⟨rfl, rfl⟩ ?_
  refine aw_istore_n hC dX8_prefer_18 (by decide) ?_
  refine aw_aload_n hC dX8_prefer_19 rfl ?_
  refine aw_bind rfl (fun q6 hq6 => ?_)
  refine aw_cVv hC dX8_prefer_20 cv_RX8_147 rfl rm_6_0_0 (am_some (inj := (fun r => (.inr (none), r))) hq6 (A_X8_note _ (hC.2.2.2.2.2.2.2.2.2.2.2.2.1) _ _ _ h)) rfl rfl rfl rfl rfl ⟨rfl, rfl⟩ ?_
  refine aw_aload_n hC dX8_prefer_23 rfl ?_
  refine aw_iload_n hC dX8_prefer_24 rfl ?_
  refine aw_iload_n hC dX8_prefer_25 rfl ?_
  refine aw_bind rfl (fun q7 hq7 => ?_)
  refine aw_cVb hC dX8_prefer_26 cv_RX8_425 rfl rm_6_0_0 (am_some (inj := (fun r => (.inr (some (.int (b2i r.1))), r.2))) hq7 (A_X8_doPrefer _ (hC.2.2.2.2.2.2.2.2.2.2.2.2.1) _ _ _ p1 p2 q6)) rfl rfl rfl rfl rfl ⟨rfl, rfl⟩ ?_
  refine aw_pop hC dX8_prefer_29 rfl ?_
  refine aw_aload_n hC dX8_prefer_30 rfl ?_
  refine aw_bind rfl (fun q8 hq8 => ?_)
  refine aw_cVv hC dX8_prefer_31 cv_RX8_155 rfl rm_6_0_0 (am_some (inj := (fun r => (.inr (none), r))) hq8 (A_X8_keepNoted _ (hC.2.2.2.2.2.2.2.2.2.2.2.2.1) _ _ _ q7.2)) rfl rfl rfl rfl rfl ⟨rfl, rfl⟩ ?_
  refine aw_iload_n hC dX8_prefer_34 rfl ?_
  exact aw_ireX hC dX8_prefer_35 rfl rfl rfl rfl
set_option maxHeartbeats 4000000 in
set_option maxRecDepth 100000 in
theorem A_X8_refuse (l : Launch) (hl0 : l.stackTraces = false) (D : va_G) (loc : Rf → Nat) (cy : Nat → ClassId) (p1 : Int32) (h : HD) : AM l D loc cy yX8_refuse cX8_refuse 2 (some .boolean) 0 16 [.ref (loc (6, 0, 0)), .int p1] h ((jX8_refuse p1 h).map (fun r => (.inr (some (.int (b2i r.1))), r.2))) := by
  refine am_start (y := yX8_refuse) (av := [.ref (loc (6, 0, 0)), .int p1]) (nL := 2) (h := h) (RF := fun (r : Option (Bool × HD)) => r.map (fun r => (.inr (some (.int (b2i r.1))), r.2))) (x := jX8_refuse p1 h) hl0 (by decide +kernel) rfl ?_
  intro p e R s m below meth c A hC
  unfold jX8_refuse
  refine aw_aload_n hC dX8_refuse_0 rfl ?_
  refine aw_iload_n hC dX8_refuse_1 rfl ?_
  refine aw_pfI hC dX8_refuse_2 fg_RX8_91 fp_6_16 rfl rm_6_0_0 (fun h1 => ?_)
  refine aw_aload_n hC dX8_refuse_5 rfl ?_
  refine aw_gfR hC dX8_refuse_6 fg_RX8_76 rfl rfl rm_6_0_0 ?_
  refine aw_iconst hC dX8_refuse_9 (v := 1) (by decide) ?_
  refine aw_dup2 hC dX8_refuse_10 rfl rfl ?_
  refine aw_iald hC dX8_refuse_11 rm_6_0_2 rfl rfl (by decide) (k := 1) (by decide) ?_
  refine aw_iconst hC dX8_refuse_12 (v := 1) (by decide) ?_
  refine aw_iadd hC dX8_refuse_13 ?_
  refine aw_iast hC dX8_refuse_14 rm_6_0_2 rfl rfl (by decide) (k := 1) (by decide) (fun h2 => ?_)
  refine aw_iconst hC dX8_refuse_15 (v := 0) (by decide) ?_
  exact aw_zret hC dX8_refuse_16 rfl (show _ = b2i false from rfl) rfl
set_option maxHeartbeats 4000000 in
set_option maxRecDepth 100000 in
theorem A_X8_doSwap (l : Launch) (hl0 : l.stackTraces = false) (D : va_G) (loc : Rf → Nat) (cy : Nat → ClassId) (p1 : Int32) (h : HD) : AM l D loc cy yX8_doSwap cX8_doSwap 2 (some .boolean) 2 62 [.ref (loc (6, 0, 0)), .int p1] h ((jX8_doSwap p1 h).map (fun r => (.inr (some (.int (b2i r.1))), r.2))) := by
  refine am_start (y := yX8_doSwap) (av := [.ref (loc (6, 0, 0)), .int p1]) (nL := 2) (h := h) (RF := fun (r : Option (Bool × HD)) => r.map (fun r => (.inr (some (.int (b2i r.1))), r.2))) (x := jX8_doSwap p1 h) hl0 (by decide +kernel) rfl ?_
  intro p e R s m below meth c A hC
  unfold jX8_doSwap
  refine aw_aload_n hC dX8_doSwap_0 rfl ?_
  refine aw_gfR hC dX8_doSwap_1 fg_RX8_42 rfl rfl rm_6_0_0 ?_
  refine aw_iload_n hC dX8_doSwap_4 rfl ?_
  refine aw_iconst hC dX8_doSwap_5 (v := 1) (by decide) ?_
  refine aw_iadd hC dX8_doSwap_6 ?_
  refine aw_cVb hC dX8_doSwap_7 cv_RX8_331 rfl rm_1_0_0 (A_X2_hasCar _ (hC.2.2.2.2.2.2.2.2.2.2.2.2.1) _ _ _ 0 (by decide) (p1 + (1 : Int32)) h) rfl rfl rfl rfl rfl ⟨rfl, rfl⟩ ?_
  refine aw_if_ne_b hC dX8_doSwap_10 (tgt := 19) (by decide) ?_ ?_
  · refine aw_aload_n hC dX8_doSwap_19 rfl ?_
    refine aw_gfR hC dX8_doSwap_20 fg_RX8_76 rfl rfl rm_6_0_0 ?_
    refine aw_iconst hC dX8_doSwap_23 (v := 0) (by decide) ?_
    refine aw_dup2 hC dX8_doSwap_24 rfl rfl ?_
    refine aw_iald hC dX8_doSwap_25 rm_6_0_2 rfl rfl (by decide) (k := 0) (by decide) ?_
    refine aw_iconst hC dX8_doSwap_26 (v := 1) (by decide) ?_
    refine aw_iadd hC dX8_doSwap_27 ?_
    refine aw_iast hC dX8_doSwap_28 rm_6_0_2 rfl rfl (by decide) (k := 0) (by decide) (fun h1 => ?_)
    refine aw_aload_n hC dX8_doSwap_29 rfl ?_
    refine aw_gfR hC dX8_doSwap_30 fg_RX8_42 rfl rfl rm_6_0_0 ?_
    refine aw_iload_n hC dX8_doSwap_33 rfl ?_
    refine aw_iload_n hC dX8_doSwap_34 rfl ?_
    refine aw_iconst hC dX8_doSwap_35 (v := 1) (by decide) ?_
    refine aw_iadd hC dX8_doSwap_36 ?_
    refine aw_bind rfl (fun q2 hq2 => ?_)
    refine aw_cVv hC dX8_doSwap_37 cv_RX8_416 rfl rm_1_0_0 (am_some (inj := (fun r => (.inr (none), r))) hq2 (A_X2_exchange _ (hC.2.2.2.2.2.2.2.2.2.2.2.2.1) _ _ _ 0 (by decide) p1 (p1 + (1 : Int32)) h1)) rfl rfl rfl rfl rfl ⟨rfl, rfl⟩ ?_
    refine aw_iconst hC dX8_doSwap_40 (v := 1) (by decide) ?_
    exact aw_zret hC dX8_doSwap_41 rfl (show _ = b2i true from rfl) rfl
  · refine aw_aload_n hC dX8_doSwap_13 rfl ?_
    refine aw_iconst hC dX8_doSwap_14 (v := 3) (by decide) ?_
    refine aw_bind rfl (fun q3 hq3 => ?_)
    refine aw_cVb hC dX8_doSwap_15 cv_RX8_467 rfl rm_6_0_0 (am_some (inj := (fun r => (.inr (some (.int (b2i r.1))), r.2))) hq3 (A_X8_refuse _ (hC.2.2.2.2.2.2.2.2.2.2.2.2.1) _ _ _ (3 : Int32) h)) rfl rfl rfl rfl rfl ⟨rfl, rfl⟩ ?_
    exact aw_zret hC dX8_doSwap_18 rfl (show _ = b2i q3.1 from rfl) rfl
set_option maxHeartbeats 4000000 in
set_option maxRecDepth 100000 in
theorem A_X8_keepNotedIf (l : Launch) (hl0 : l.stackTraces = false) (D : va_G) (loc : Rf → Nat) (cy : Nat → ClassId) (p1 : Bool) (h : HD) : AM l D loc cy yX8_keepNotedIf cX8_keepNotedIf 2 (some .boolean) 3 107 [.ref (loc (6, 0, 0)), .int (b2i p1)] h ((jX8_keepNotedIf p1 h).map (fun r => (.inr (some (.int (b2i r.1))), r.2))) := by
  refine am_start (y := yX8_keepNotedIf) (av := [.ref (loc (6, 0, 0)), .int (b2i p1)]) (nL := 2) (h := h) (RF := fun (r : Option (Bool × HD)) => r.map (fun r => (.inr (some (.int (b2i r.1))), r.2))) (x := jX8_keepNotedIf p1 h) hl0 (by decide +kernel) rfl ?_
  intro p e R s m below meth c A hC
  unfold jX8_keepNotedIf
  refine aw_iload_n hC dX8_keepNotedIf_0 rfl ?_
  refine aw_if_eq_b hC dX8_keepNotedIf_1 (tgt := 8) (by decide) ?_ ?_
  · refine aw_iload_n hC dX8_keepNotedIf_8 rfl ?_
    exact aw_zret hC dX8_keepNotedIf_9 rfl (show _ = b2i p1 from rfl) rfl
  · refine aw_aload_n hC dX8_keepNotedIf_4 rfl ?_
    refine aw_bind rfl (fun q1 hq1 => ?_)
    refine aw_cVv hC dX8_keepNotedIf_5 cv_RX8_155 rfl rm_6_0_0 (am_some (inj := (fun r => (.inr (none), r))) hq1 (A_X8_keepNoted _ (hC.2.2.2.2.2.2.2.2.2.2.2.2.1) _ _ _ h)) rfl rfl rfl rfl rfl ⟨rfl, rfl⟩ ?_
    refine aw_iload_n hC dX8_keepNotedIf_8 rfl ?_
    exact aw_zret hC dX8_keepNotedIf_9 rfl (show _ = b2i p1 from rfl) rfl
set_option maxHeartbeats 4000000 in
set_option maxRecDepth 100000 in
theorem A_X8_swap (l : Launch) (hl0 : l.stackTraces = false) (D : va_G) (loc : Rf → Nat) (cy : Nat → ClassId) (p1 : Int32) (h : HD) : AX l D loc cy yX8_swap (Cond.code yX8_swap cX8_swap 2 (some .boolean) :: LW) 7 128 1 6 [.ref (loc (6, 0, 0)), .int p1] h ((jX8_swap p1 h).map (fun r => (xi (fun v => some (.int (b2i v))) r.1, r.2))) := by
  refine ax_start (y := yX8_swap) (av := [.ref (loc (6, 0, 0)), .int p1]) (nL := 2) (h := h) (RF := fun (r : Option ((Nat ⊕ Bool) × HD)) => r.map (fun r => (xi (fun v => some (.int (b2i v))) r.1, r.2))) (x := jX8_swap p1 h) hl0 (by decide +kernel) rfl ?_
  intro p e R s m below meth c A hxt hC
  unfold jX8_swap
  refine aw_aload_n hC dX8_swap_0 rfl ?_
  refine aw_iload_n hC dX8_swap_1 rfl ?_
  refine aw_bind rfl (fun q1 hq1 => ?_)
  refine aw_cXv hC hxt dX8_swap_2 cv_RX8_234 rfl rm_6_0_0 (ax_some (inj := (fun r => (xi (fun _ => none) r, h))) hq1 (A_X8_needCar _ (hC.2.2.2.2.2.2.2.2.2.2.2.2.1) _ _ _ p1 h)) rfl rfl rfl rfl rfl ⟨rfl, rfl⟩ rfl rfl (fun _ => rfl) (fun v2 => ?_)
  refine aw_aload_n hC dX8_swap_5 rfl ?_
  refine aw_bind rfl (fun q3 hq3 => ?_)
  refine aw_cVv hC dX8_swap_6 cv_RX8_147 rfl rm_6_0_0 (am_some (inj := (fun r => (.inr (none), r))) hq3 (A_X8_note _ (hC.2.2.2.2.2.2.2.2.2.2.2.2.1) _ _ _ h)) rfl rfl rfl rfl rfl ⟨rfl, rfl⟩ ?_
  refine aw_aload_n hC dX8_swap_9 rfl ?_
  refine aw_aload_n hC dX8_swap_10 rfl ?_
  refine aw_iload_n hC dX8_swap_11 rfl ?_
  refine aw_bind rfl (fun q4 hq4 => ?_)
  refine aw_cVb hC dX8_swap_12 cv_RX8_428 rfl rm_6_0_0 (am_some (inj := (fun r => (.inr (some (.int (b2i r.1))), r.2))) hq4 (A_X8_doSwap _ (hC.2.2.2.2.2.2.2.2.2.2.2.2.1) _ _ _ p1 q3)) rfl rfl rfl rfl rfl ⟨rfl, rfl⟩ ?_
  refine aw_bind rfl (fun q5 hq5 => ?_)
  refine aw_cVb hC dX8_swap_15 cv_RX8_431 rfl rm_6_0_0 (am_some (inj := (fun r => (.inr (some (.int (b2i r.1))), r.2))) hq5 (A_X8_keepNotedIf _ (hC.2.2.2.2.2.2.2.2.2.2.2.2.1) _ _ _ q4.1 q4.2)) rfl rfl rfl rfl rfl ⟨rfl, rfl⟩ ?_
  exact aw_zreX hC dX8_swap_18 rfl (show _ = b2i q5.1 from rfl) rfl rfl rfl
set_option maxHeartbeats 4000000 in
set_option maxRecDepth 100000 in
theorem A_X8_isTurn (l : Launch) (hl0 : l.stackTraces = false) (D : va_G) (loc : Rf → Nat) (cy : Nat → ClassId) (p1 : Int32) (h : HD) : AM l D loc cy yX8_isTurn cX8_isTurn 1 (some .boolean) 0 16 [.int p1] h (some (.inr (some (.int (b2i (jX8_isTurn p1 h)))), h)) := by
  refine am_start (y := yX8_isTurn) (av := [.int p1]) (nL := 1) (h := h) (RF := fun (r : Bool) => some (.inr (some (.int (b2i r))), h)) (x := jX8_isTurn p1 h) hl0 (by decide +kernel) rfl ?_
  intro p e R s m below meth c A hC
  unfold jX8_isTurn
  refine aw_iload_n hC dX8_isTurn_0 rfl ?_
  refine aw_if_lt hC dX8_isTurn_1 (tgt := 14) (by decide) ?_ ?_
  · refine aw_iconst hC dX8_isTurn_14 (v := 0) (by decide) ?_
    exact aw_zret hC dX8_isTurn_15 rfl (show _ = b2i false from rfl) rfl
  · refine aw_iload_n hC dX8_isTurn_4 rfl ?_
    refine aw_bipush hC dX8_isTurn_5 (v := 99) (by decide) ?_
    refine aw_icmp_gt hC dX8_isTurn_7 (tgt := 14) (by decide) ?_ ?_
    · refine aw_iconst hC dX8_isTurn_14 (v := 0) (by decide) ?_
      exact aw_zret hC dX8_isTurn_15 rfl (show _ = b2i false from rfl) rfl
    · refine aw_iconst hC dX8_isTurn_10 (v := 1) (by decide) ?_
      refine aw_goto hC dX8_isTurn_11 (tgt := 15) (by decide) ?_
      exact aw_zret hC dX8_isTurn_15 rfl (show _ = b2i true from rfl) rfl
set_option maxHeartbeats 4000000 in
set_option maxRecDepth 100000 in
theorem L_X2_turnBy_2 (o : Nat) (ho : o < 10) (p1 : Int32) (hC : Cx p l e R s m args meth c D loc cy A cX2_turnBy 3 (none) RX2 2 59 0 0)  : ∀ (n2 : Nat) (x2 : Int32) (h : HD), AW p l e R s m args below meth c D loc cy A 3 (QM below D loc cy A args s) (fun (r : Option HD) => r.map (fun r => (.inr (none), r))) (0, 0) 2 [(0, .ref (loc (1, o, 0))), (1, .int p1), (2, .int x2)] [] h (jX2_turnBy_L2 o p1 n2 x2 h) := by
  intro n2
  induction n2 with
  | zero => intro x2 h; exact aw_none rfl
  | succ n2 ih2 =>
    intro x2 h
    rw [jX2_turnBy_L2]
    refine aw_iload_n hC dX2_turnBy_2 rfl ?_
    refine aw_aload_n hC dX2_turnBy_3 rfl ?_
    refine aw_gfI hC dX2_turnBy_4 fg_RX2_19 rfl (rv_1_0 ho) ?_
    refine aw_icmp_ge hC dX2_turnBy_7 (tgt := 37) (by decide) ?_ ?_
    · exact aw_vret hC dX2_turnBy_37 rfl rfl
    · refine aw_aload_n hC dX2_turnBy_10 rfl ?_
      refine aw_iload_n hC dX2_turnBy_11 rfl ?_
      refine aw_aload_n hC dX2_turnBy_12 rfl ?_
      refine aw_iload_n hC dX2_turnBy_13 rfl ?_
      refine aw_bind rfl (fun q1 hq1 => ?_)
      refine aw_cVi hC dX2_turnBy_14 cv_RX2_34 rfl (rv_1_0 ho) (am_some (inj := (fun r => (.inr (some (.int r)), h))) hq1 (A_X2_preferenceOf _ (hC.2.2.2.2.2.2.2.2.2.2.2.2.1) _ _ _ o ho x2 h)) rfl rfl rfl rfl rfl ⟨rfl, rfl⟩ ?_
      refine aw_iload_n hC dX2_turnBy_17 rfl ?_
      refine aw_iadd hC dX2_turnBy_18 ?_
      refine aw_aload_n hC dX2_turnBy_19 rfl ?_
      refine aw_gfI hC dX2_turnBy_20 fg_RX2_19 rfl (rv_1_0 ho) ?_
      refine aw_iconst hC dX2_turnBy_23 (v := 1) (by decide) ?_
      refine aw_iadd hC dX2_turnBy_24 ?_
      refine aw_bind rfl (fun q2 hq2 => ?_)
      refine aw_cNi hC dX2_turnBy_25 cv_RX2_55 (am_some (inj := (fun r => (.inr (some (.int r)), h))) hq2 (A_X8_wrapped _ (hC.2.2.2.2.2.2.2.2.2.2.2.2.1) _ _ _ (q1 + p1) ((gI h (1, o, 0) 2) + (1 : Int32)) h)) rfl rfl rfl rfl rfl ⟨rfl, rfl⟩ ?_
      refine aw_bind rfl (fun q3 hq3 => ?_)
      refine aw_cVv hC dX2_turnBy_28 cv_RX2_59 rfl (rv_1_0 ho) (am_some (inj := (fun r => (.inr (none), r))) hq3 (A_X2_changePreference _ (hC.2.2.2.2.2.2.2.2.2.2.2.2.1) _ _ _ o ho x2 q2 h)) rfl rfl rfl rfl rfl ⟨rfl, rfl⟩ ?_
      refine aw_iinc hC dX2_turnBy_31 rfl (v := x2 + 1) (by first | rfl | decide) (by decide) ?_
      refine aw_goto hC dX2_turnBy_34 (tgt := 2) (by decide) ?_
      refine aw_sub [0, 1, 2] ?_
      exact ih2 (x2 + 1) q3
set_option maxHeartbeats 4000000 in
set_option maxRecDepth 100000 in
theorem A_X2_turnBy (l : Launch) (hl0 : l.stackTraces = false) (D : va_G) (loc : Rf → Nat) (cy : Nat → ClassId) (o : Nat) (ho : o < 10) (p1 : Int32) (h : HD) : AM l D loc cy yX2_turnBy cX2_turnBy 3 (none) 2 59 [.ref (loc (1, o, 0)), .int p1] h ((jX2_turnBy o p1 h).map (fun r => (.inr (none), r))) := by
  refine am_start (y := yX2_turnBy) (av := [.ref (loc (1, o, 0)), .int p1]) (nL := 3) (h := h) (RF := fun (r : Option HD) => r.map (fun r => (.inr (none), r))) (x := jX2_turnBy o p1 h) hl0 (by decide +kernel) rfl ?_
  intro p e R s m below meth c A hC
  unfold jX2_turnBy
  refine aw_iconst hC dX2_turnBy_0 (v := 0) (by decide) ?_
  refine aw_istore_n hC dX2_turnBy_1 (by decide) ?_
  refine aw_sub [0, 1, 2] ?_
  exact L_X2_turnBy_2 o ho p1  hC FU (0 : Int32) h
set_option maxHeartbeats 4000000 in
set_option maxRecDepth 100000 in
theorem A_X8_doTurn (l : Launch) (hl0 : l.stackTraces = false) (D : va_G) (loc : Rf → Nat) (cy : Nat → ClassId) (p1 : Int32) (h : HD) : AM l D loc cy yX8_doTurn cX8_doTurn 2 (some .boolean) 3 81 [.ref (loc (6, 0, 0)), .int p1] h ((jX8_doTurn p1 h).map (fun r => (.inr (some (.int (b2i r.1))), r.2))) := by
  refine am_start (y := yX8_doTurn) (av := [.ref (loc (6, 0, 0)), .int p1]) (nL := 2) (h := h) (RF := fun (r : Option (Bool × HD)) => r.map (fun r => (.inr (some (.int (b2i r.1))), r.2))) (x := jX8_doTurn p1 h) hl0 (by decide +kernel) rfl ?_
  intro p e R s m below meth c A hC
  unfold jX8_doTurn
  refine aw_aload_n hC dX8_doTurn_0 rfl ?_
  refine aw_gfR hC dX8_doTurn_1 fg_RX8_76 rfl rfl rm_6_0_0 ?_
  refine aw_iconst hC dX8_doTurn_4 (v := 0) (by decide) ?_
  refine aw_dup2 hC dX8_doTurn_5 rfl rfl ?_
  refine aw_iald hC dX8_doTurn_6 rm_6_0_2 rfl rfl (by decide) (k := 0) (by decide) ?_
  refine aw_iconst hC dX8_doTurn_7 (v := 1) (by decide) ?_
  refine aw_iadd hC dX8_doTurn_8 ?_
  refine aw_iast hC dX8_doTurn_9 rm_6_0_2 rfl rfl (by decide) (k := 0) (by decide) (fun h1 => ?_)
  refine aw_aload_n hC dX8_doTurn_10 rfl ?_
  refine aw_gfR hC dX8_doTurn_11 fg_RX8_42 rfl rfl rm_6_0_0 ?_
  refine aw_iload_n hC dX8_doTurn_14 rfl ?_
  refine aw_bind rfl (fun q2 hq2 => ?_)
  refine aw_cVv hC dX8_doTurn_15 cv_RX8_470 rfl rm_1_0_0 (am_some (inj := (fun r => (.inr (none), r))) hq2 (A_X2_turnBy _ (hC.2.2.2.2.2.2.2.2.2.2.2.2.1) _ _ _ 0 (by decide) p1 h1)) rfl rfl rfl rfl rfl ⟨rfl, rfl⟩ ?_
  refine aw_iconst hC dX8_doTurn_18 (v := 1) (by decide) ?_
  exact aw_zret hC dX8_doTurn_19 rfl (show _ = b2i true from rfl) rfl
set_option maxHeartbeats 4000000 in
set_option maxRecDepth 100000 in
theorem A_X8_turn (l : Launch) (hl0 : l.stackTraces = false) (D : va_G) (loc : Rf → Nat) (cy : Nat → ClassId) (p1 : Int32) (h : HD) : AX l D loc cy yX8_turn (Cond.code yX8_turn cX8_turn 2 (some .int) :: LW) 7 168 1 6 [.ref (loc (6, 0, 0)), .int p1] h ((jX8_turn p1 h).map (fun r => (xi (fun v => some (.int v)) r.1, r.2))) := by
  refine ax_start (y := yX8_turn) (av := [.ref (loc (6, 0, 0)), .int p1]) (nL := 2) (h := h) (RF := fun (r : Option ((Nat ⊕ Int32) × HD)) => r.map (fun r => (xi (fun v => some (.int v)) r.1, r.2))) (x := jX8_turn p1 h) hl0 (by decide +kernel) rfl ?_
  intro p e R s m below meth c A hxt hC
  unfold jX8_turn
  refine aw_iload_n hC dX8_turn_0 rfl ?_
  refine aw_cSb hC dX8_turn_1 cv_RX8_435 (A_X8_isTurn _ (hC.2.2.2.2.2.2.2.2.2.2.2.2.1) _ _ _ p1 h) rfl rfl rfl rfl rfl ⟨rfl, rfl⟩ ?_
  refine aw_if_ne_b hC dX8_turn_4 (tgt := 18) (by decide) ?_ ?_
  · refine aw_aload_n hC dX8_turn_18 rfl ?_
    refine aw_bind rfl (fun q1 hq1 => ?_)
    refine aw_cVv hC dX8_turn_19 cv_RX8_147 rfl rm_6_0_0 (am_some (inj := (fun r => (.inr (none), r))) hq1 (A_X8_note _ (hC.2.2.2.2.2.2.2.2.2.2.2.2.1) _ _ _ h)) rfl rfl rfl rfl rfl ⟨rfl, rfl⟩ ?_
    refine aw_aload_n hC dX8_turn_22 rfl ?_
    refine aw_iload_n hC dX8_turn_23 rfl ?_
    refine aw_bind rfl (fun q2 hq2 => ?_)
    refine aw_cVb hC dX8_turn_24 cv_RX8_440 rfl rm_6_0_0 (am_some (inj := (fun r => (.inr (some (.int (b2i r.1))), r.2))) hq2 (A_X8_doTurn _ (hC.2.2.2.2.2.2.2.2.2.2.2.2.1) _ _ _ p1 q1)) rfl rfl rfl rfl rfl ⟨rfl, rfl⟩ ?_
    refine aw_pop hC dX8_turn_27 rfl ?_
    refine aw_aload_n hC dX8_turn_28 rfl ?_
    refine aw_bind rfl (fun q3 hq3 => ?_)
    refine aw_cVv hC dX8_turn_29 cv_RX8_155 rfl rm_6_0_0 (am_some (inj := (fun r => (.inr (none), r))) hq3 (A_X8_keepNoted _ (hC.2.2.2.2.2.2.2.2.2.2.2.2.1) _ _ _ q2.2)) rfl rfl rfl rfl rfl ⟨rfl, rfl⟩ ?_
    refine aw_aload_n hC dX8_turn_32 rfl ?_
    refine aw_bind rfl (fun q4 hq4 => ?_)
    refine aw_cVr hC dX8_turn_33 cv_RX8_245 rfl rm_6_0_0 (am_some (inj := (fun r => (.inr (some (.ref (loc (2, 0, 0)))), r))) hq4 (A_X8_parked _ (hC.2.2.2.2.2.2.2.2.2.2.2.2.1) _ _ _ q3)) rfl rfl rfl rfl rfl ⟨rfl, rfl⟩ ?_
    refine aw_cVi hC dX8_turn_36 cv_RX8_295 rfl rm_2_0_0 (A_X4_turnNumber _ (hC.2.2.2.2.2.2.2.2.2.2.2.2.1) _ _ _ 0 (by decide) q4) rfl rfl rfl rfl rfl ⟨rfl, rfl⟩ ?_
    exact aw_ireX hC dX8_turn_39 rfl rfl rfl rfl
  · exact aw_throw1w (text := "the circle is turned by 0 to 99") (sid := 438) hC hxt dX8_turn_7 dX8_turn_10 dX8_turn_11 dX8_turn_14 dX8_turn_17 tw4_48 tw1_13 (by decide +kernel) rfl rfl rfl rfl rfl rfl rfl
set_option maxHeartbeats 4000000 in
set_option maxRecDepth 100000 in
theorem A_X8_doSetBack (l : Launch) (hl0 : l.stackTraces = false) (D : va_G) (loc : Rf → Nat) (cy : Nat → ClassId) (p1 : Int32) (h : HD) : AM l D loc cy yX8_doSetBack cX8_doSetBack 2 (some .boolean) 1 37 [.ref (loc (6, 0, 0)), .int p1] h ((jX8_doSetBack p1 h).map (fun r => (.inr (some (.int (b2i r.1))), r.2))) := by
  refine am_start (y := yX8_doSetBack) (av := [.ref (loc (6, 0, 0)), .int p1]) (nL := 2) (h := h) (RF := fun (r : Option (Bool × HD)) => r.map (fun r => (.inr (some (.int (b2i r.1))), r.2))) (x := jX8_doSetBack p1 h) hl0 (by decide +kernel) rfl ?_
  intro p e R s m below meth c A hC
  unfold jX8_doSetBack
  refine aw_aload_n hC dX8_doSetBack_0 rfl ?_
  refine aw_gfR hC dX8_doSetBack_1 fg_RX8_76 rfl rfl rm_6_0_0 ?_
  refine aw_iconst hC dX8_doSetBack_4 (v := 0) (by decide) ?_
  refine aw_dup2 hC dX8_doSetBack_5 rfl rfl ?_
  refine aw_iald hC dX8_doSetBack_6 rm_6_0_2 rfl rfl (by decide) (k := 0) (by decide) ?_
  refine aw_iconst hC dX8_doSetBack_7 (v := 1) (by decide) ?_
  refine aw_iadd hC dX8_doSetBack_8 ?_
  refine aw_iast hC dX8_doSetBack_9 rm_6_0_2 rfl rfl (by decide) (k := 0) (by decide) (fun h1 => ?_)
  refine aw_aload_n hC dX8_doSetBack_10 rfl ?_
  refine aw_gfR hC dX8_doSetBack_11 fg_RX8_42 rfl rfl rm_6_0_0 ?_
  refine aw_iload_n hC dX8_doSetBack_14 rfl ?_
  refine aw_bind rfl (fun q2 hq2 => ?_)
  refine aw_cVv hC dX8_doSetBack_15 cv_RX8_209 rfl rm_1_0_0 (am_some (inj := (fun r => (.inr (none), r))) hq2 (A_X2_changeBack _ (hC.2.2.2.2.2.2.2.2.2.2.2.2.1) _ _ _ 0 (by decide) p1 h1)) rfl rfl rfl rfl rfl ⟨rfl, rfl⟩ ?_
  refine aw_iconst hC dX8_doSetBack_18 (v := 1) (by decide) ?_
  exact aw_zret hC dX8_doSetBack_19 rfl (show _ = b2i true from rfl) rfl
set_option maxHeartbeats 4000000 in
set_option maxRecDepth 100000 in
theorem A_X8_setBack (l : Launch) (hl0 : l.stackTraces = false) (D : va_G) (loc : Rf → Nat) (cy : Nat → ClassId) (p1 : Int32) (h : HD) : AX l D loc cy yX8_setBack (Cond.code yX8_setBack cX8_setBack 3 (some .int) :: LW) 7 121 1 6 [.ref (loc (6, 0, 0)), .int p1] h ((jX8_setBack p1 h).map (fun r => (xi (fun v => some (.int v)) r.1, r.2))) := by
  refine ax_start (y := yX8_setBack) (av := [.ref (loc (6, 0, 0)), .int p1]) (nL := 3) (h := h) (RF := fun (r : Option ((Nat ⊕ Int32) × HD)) => r.map (fun r => (xi (fun v => some (.int v)) r.1, r.2))) (x := jX8_setBack p1 h) hl0 (by decide +kernel) rfl ?_
  intro p e R s m below meth c A hxt hC
  unfold jX8_setBack
  refine aw_aload_n hC dX8_setBack_0 rfl ?_
  refine aw_iload_n hC dX8_setBack_1 rfl ?_
  refine aw_bind rfl (fun q1 hq1 => ?_)
  refine aw_cXv hC hxt dX8_setBack_2 cv_RX8_419 rfl rm_6_0_0 (ax_some (inj := (fun r => (xi (fun _ => none) r, h))) hq1 (A_X8_needBack _ (hC.2.2.2.2.2.2.2.2.2.2.2.2.1) _ _ _ p1 h)) rfl rfl rfl rfl rfl ⟨rfl, rfl⟩ rfl rfl (fun _ => rfl) (fun v2 => ?_)
  refine aw_aload_n hC dX8_setBack_5 rfl ?_
  refine aw_gfR hC dX8_setBack_6 fg_RX8_42 rfl rfl rm_6_0_0 ?_
  refine aw_cVi hC dX8_setBack_9 cv_RX8_312 rfl rm_1_0_0 (A_X2_back _ (hC.2.2.2.2.2.2.2.2.2.2.2.2.1) _ _ _ 0 (by decide) h) rfl rfl rfl rfl rfl ⟨rfl, rfl⟩ ?_
  refine aw_istore_n hC dX8_setBack_12 (by decide) ?_
  refine aw_aload_n hC dX8_setBack_13 rfl ?_
  refine aw_bind rfl (fun q3 hq3 => ?_)
  refine aw_cVv hC dX8_setBack_14 cv_RX8_147 rfl rm_6_0_0 (am_some (inj := (fun r => (.inr (none), r))) hq3 (A_X8_note _ (hC.2.2.2.2.2.2.2.2.2.2.2.2.1) _ _ _ h)) rfl rfl rfl rfl rfl ⟨rfl, rfl⟩ ?_
  refine aw_aload_n hC dX8_setBack_17 rfl ?_
  refine aw_iload_n hC dX8_setBack_18 rfl ?_
  refine aw_bind rfl (fun q4 hq4 => ?_)
  refine aw_cVb hC dX8_setBack_19 cv_RX8_443 rfl rm_6_0_0 (am_some (inj := (fun r => (.inr (some (.int (b2i r.1))), r.2))) hq4 (A_X8_doSetBack _ (hC.2.2.2.2.2.2.2.2.2.2.2.2.1) _ _ _ p1 q3)) rfl rfl rfl rfl rfl ⟨rfl, rfl⟩ ?_
  refine aw_pop hC dX8_setBack_22 rfl ?_
  refine aw_aload_n hC dX8_setBack_23 rfl ?_
  refine aw_bind rfl (fun q5 hq5 => ?_)
  refine aw_cVv hC dX8_setBack_24 cv_RX8_155 rfl rm_6_0_0 (am_some (inj := (fun r => (.inr (none), r))) hq5 (A_X8_keepNoted _ (hC.2.2.2.2.2.2.2.2.2.2.2.2.1) _ _ _ q4.2)) rfl rfl rfl rfl rfl ⟨rfl, rfl⟩ ?_
  refine aw_iload_n hC dX8_setBack_27 rfl ?_
  exact aw_ireX hC dX8_setBack_28 rfl rfl rfl rfl
set_option maxHeartbeats 4000000 in
set_option maxRecDepth 100000 in
theorem A_X8_canComeTo (l : Launch) (hl0 : l.stackTraces = false) (D : va_G) (loc : Rf → Nat) (cy : Nat → ClassId) (p1 : Int32) (h : HD) : AM l D loc cy yX8_canComeTo cX8_canComeTo 2 (some .boolean) 1 36 [.ref (loc (6, 0, 0)), .int p1] h (some (.inr (some (.int (b2i (jX8_canComeTo p1 h)))), h)) := by
  refine am_start (y := yX8_canComeTo) (av := [.ref (loc (6, 0, 0)), .int p1]) (nL := 2) (h := h) (RF := fun (r : Bool) => some (.inr (some (.int (b2i r))), h)) (x := jX8_canComeTo p1 h) hl0 (by decide +kernel) rfl ?_
  intro p e R s m below meth c A hC
  unfold jX8_canComeTo
  refine aw_iload_n hC dX8_canComeTo_0 rfl ?_
  refine aw_if_lt hC dX8_canComeTo_1 (tgt := 19) (by decide) ?_ ?_
  · refine aw_iconst hC dX8_canComeTo_19 (v := 0) (by decide) ?_
    exact aw_zret hC dX8_canComeTo_20 rfl (show _ = b2i false from rfl) rfl
  · refine aw_iload_n hC dX8_canComeTo_4 rfl ?_
    refine aw_aload_n hC dX8_canComeTo_5 rfl ?_
    refine aw_gfR hC dX8_canComeTo_6 fg_RX8_42 rfl rfl rm_6_0_0 ?_
    refine aw_cVi hC dX8_canComeTo_9 cv_RX8_305 rfl rm_1_0_0 (A_X2_spots _ (hC.2.2.2.2.2.2.2.2.2.2.2.2.1) _ _ _ 0 (by decide) h) rfl rfl rfl rfl rfl ⟨rfl, rfl⟩ ?_
    refine aw_icmp_gt hC dX8_canComeTo_12 (tgt := 19) (by decide) ?_ ?_
    · refine aw_iconst hC dX8_canComeTo_19 (v := 0) (by decide) ?_
      exact aw_zret hC dX8_canComeTo_20 rfl (show _ = b2i false from rfl) rfl
    · refine aw_iconst hC dX8_canComeTo_15 (v := 1) (by decide) ?_
      refine aw_goto hC dX8_canComeTo_16 (tgt := 20) (by decide) ?_
      exact aw_zret hC dX8_canComeTo_20 rfl (show _ = b2i true from rfl) rfl
set_option maxHeartbeats 4000000 in
set_option maxRecDepth 100000 in
theorem L_X1_wholeName_15 (o : Nat) (ho : o < 2) (h : HD) (hC : Cx p l e R s m args meth c D loc cy A cX1_wholeName 4 (some .long) RX1 1 39 0 0)  : ∀ (n15 : Nat) (x1 : Int64) (x3 : Int32), AW p l e R s m args below meth c D loc cy A 4 (QM below D loc cy A args s) (fun (r : Option Int64) => r.map (fun r => (.inr (some (.long r)), h))) (0, 0) 15 [(0, .ref (loc (0, o, 0))), (1, .long x1), (3, .int x3)] [] h (jX1_wholeName_L15 o h n15 x1 x3) := by
  intro n15
  induction n15 with
  | zero => intro x1 x3; exact aw_none rfl
  | succ n15 ih15 =>
    intro x1 x3
    rw [jX1_wholeName_L15]
    refine aw_iload_n hC dX1_wholeName_15 rfl ?_
    refine aw_aload_n hC dX1_wholeName_16 rfl ?_
    refine aw_gfI hC dX1_wholeName_17 fg_RX1_9 rfl (rv_0_0 ho) ?_
    refine aw_icmp_ge hC dX1_wholeName_20 (tgt := 58) (by decide) ?_ ?_
    · refine aw_lload_n hC dX1_wholeName_58 rfl ?_
      exact aw_lret hC dX1_wholeName_59 rfl rfl
    · refine aw_aload_n hC dX1_wholeName_23 rfl ?_
      refine aw_iload_n hC dX1_wholeName_24 rfl ?_
      refine aw_bind rfl (fun q1 hq1 => ?_)
      refine aw_cVi hC dX1_wholeName_25 cv_RX1_27 rfl (rv_0_0 ho) (am_some (inj := (fun r => (.inr (some (.int r)), h))) hq1 (A_X1_at _ (hC.2.2.2.2.2.2.2.2.2.2.2.2.1) _ _ _ o ho x3 h)) rfl rfl rfl rfl rfl ⟨rfl, rfl⟩ ?_
      refine aw_cNb hC dX1_wholeName_28 cv_RX1_31 (A_X8_isLetter _ (hC.2.2.2.2.2.2.2.2.2.2.2.2.1) _ _ _ q1 h) rfl rfl rfl rfl rfl ⟨rfl, rfl⟩ ?_
      refine aw_if_ne_b hC dX1_wholeName_31 (tgt := 36) (by decide) ?_ ?_
      · refine aw_lload_n hC dX1_wholeName_36 rfl ?_
        refine aw_iload_n hC dX1_wholeName_37 rfl ?_
        refine aw_aload_n hC dX1_wholeName_38 rfl ?_
        refine aw_iload_n hC dX1_wholeName_39 rfl ?_
        refine aw_bind rfl (fun q2 hq2 => ?_)
        refine aw_cVi hC dX1_wholeName_40 cv_RX1_27 rfl (rv_0_0 ho) (am_some (inj := (fun r => (.inr (some (.int r)), h))) hq2 (A_X1_at _ (hC.2.2.2.2.2.2.2.2.2.2.2.2.1) _ _ _ o ho x3 h)) rfl rfl rfl rfl rfl ⟨rfl, rfl⟩ ?_
        refine aw_bipush hC dX1_wholeName_43 (v := 97) (by decide) ?_
        refine aw_isub hC dX1_wholeName_45 ?_
        refine aw_iconst hC dX1_wholeName_46 (v := 1) (by decide) ?_
        refine aw_iadd hC dX1_wholeName_47 ?_
        refine aw_cNj hC dX1_wholeName_48 cv_RX1_35 (A_X8_withLetter _ (hC.2.2.2.2.2.2.2.2.2.2.2.2.1) _ _ _ x1 x3 ((q2 - (97 : Int32)) + (1 : Int32)) h) rfl rfl rfl rfl rfl ⟨rfl, rfl⟩ ?_
        refine aw_lstore_n hC dX1_wholeName_51 (by decide) ?_
        refine aw_iinc hC dX1_wholeName_52 rfl (v := x3 + 1) (by first | rfl | decide) (by decide) ?_
        refine aw_goto hC dX1_wholeName_55 (tgt := 15) (by decide) ?_
        refine aw_sub [0, 1, 3] ?_
        exact ih15 (jX8_withLetter x1 x3 ((q2 - (97 : Int32)) + (1 : Int32)) h) (x3 + 1)
      · refine aw_lconst hC dX1_wholeName_34 (v := 0) (by decide) ?_
        exact aw_lret hC dX1_wholeName_35 rfl rfl
set_option maxHeartbeats 4000000 in
set_option maxRecDepth 100000 in
theorem A_X1_wholeName (l : Launch) (hl0 : l.stackTraces = false) (D : va_G) (loc : Rf → Nat) (cy : Nat → ClassId) (o : Nat) (ho : o < 2) (h : HD) : AM l D loc cy yX1_wholeName cX1_wholeName 4 (some .long) 1 39 [.ref (loc (0, o, 0))] h ((jX1_wholeName o h).map (fun r => (.inr (some (.long r)), h))) := by
  refine am_start (y := yX1_wholeName) (av := [.ref (loc (0, o, 0))]) (nL := 4) (h := h) (RF := fun (r : Option Int64) => r.map (fun r => (.inr (some (.long r)), h))) (x := jX1_wholeName o h) hl0 (by decide +kernel) rfl ?_
  intro p e R s m below meth c A hC
  unfold jX1_wholeName
  refine aw_aload_n hC dX1_wholeName_0 rfl ?_
  refine aw_gfI hC dX1_wholeName_1 fg_RX1_9 rfl (rv_0_0 ho) ?_
  refine aw_bipush hC dX1_wholeName_4 (v := 8) (by decide) ?_
  refine aw_icmp_le hC dX1_wholeName_6 (tgt := 11) (by decide) ?_ ?_
  · refine aw_lconst hC dX1_wholeName_11 (v := 0) (by decide) ?_
    refine aw_lstore_n hC dX1_wholeName_12 (by decide) ?_
    refine aw_iconst hC dX1_wholeName_13 (v := 0) (by decide) ?_
    refine aw_istore_n hC dX1_wholeName_14 (by decide) ?_
    refine aw_sub [0, 1, 3] ?_
    exact L_X1_wholeName_15 o ho h  hC FU (0 : Int64) (0 : Int32)
  · refine aw_lconst hC dX1_wholeName_9 (v := 0) (by decide) ?_
    exact aw_lret hC dX1_wholeName_10 rfl rfl
set_option maxHeartbeats 4000000 in
set_option maxRecDepth 100000 in
theorem L_X2_carNamed_2 (o : Nat) (ho : o < 10) (p1 : Int64) (h : HD) (hC : Cx p l e R s m args meth c D loc cy A cX2_carNamed 4 (some .int) RX2 2 58 0 0)  : ∀ (n2 : Nat) (x3 : Int32), AW p l e R s m args below meth c D loc cy A 4 (QM below D loc cy A args s) (fun (r : Option Int32) => r.map (fun r => (.inr (some (.int r)), h))) (0, 0) 2 [(0, .ref (loc (1, o, 0))), (1, .long p1), (3, .int x3)] [] h (jX2_carNamed_L2 o p1 h n2 x3) := by
  intro n2
  induction n2 with
  | zero => intro x3; exact aw_none rfl
  | succ n2 ih2 =>
    intro x3
    rw [jX2_carNamed_L2]
    refine aw_iload_n hC dX2_carNamed_2 rfl ?_
    refine aw_aload_n hC dX2_carNamed_3 rfl ?_
    refine aw_gfI hC dX2_carNamed_4 fg_RX2_19 rfl (rv_1_0 ho) ?_
    refine aw_icmp_ge hC dX2_carNamed_7 (tgt := 28) (by decide) ?_ ?_
    · refine aw_iconst hC dX2_carNamed_28 (v := -1) (by decide) ?_
      exact aw_iret hC dX2_carNamed_29 rfl rfl
    · refine aw_aload_n hC dX2_carNamed_10 rfl ?_
      refine aw_iload_n hC dX2_carNamed_11 rfl ?_
      refine aw_bind rfl (fun q1 hq1 => ?_)
      refine aw_cVj hC dX2_carNamed_12 cv_RX2_30 rfl (rv_1_0 ho) (am_some (inj := (fun r => (.inr (some (.long r)), h))) hq1 (A_X2_nameOf _ (hC.2.2.2.2.2.2.2.2.2.2.2.2.1) _ _ _ o ho x3 h)) rfl rfl rfl rfl rfl ⟨rfl, rfl⟩ ?_
      refine aw_lload_n hC dX2_carNamed_15 rfl ?_
      refine aw_lcmp hC dX2_carNamed_16 ?_
      refine aw_if_ne hC dX2_carNamed_17 (tgt := 22) (by decide) ?_ ?_
      · refine aw_iinc hC dX2_carNamed_22 rfl (v := x3 + 1) (by first | rfl | decide) (by decide) ?_
        refine aw_goto hC dX2_carNamed_25 (tgt := 2) (by decide) ?_
        refine aw_sub [0, 1, 3] ?_
        exact ih2 (x3 + 1)
      · refine aw_iload_n hC dX2_carNamed_20 rfl ?_
        exact aw_iret hC dX2_carNamed_21 rfl rfl
set_option maxHeartbeats 4000000 in
set_option maxRecDepth 100000 in
theorem A_X2_carNamed (l : Launch) (hl0 : l.stackTraces = false) (D : va_G) (loc : Rf → Nat) (cy : Nat → ClassId) (o : Nat) (ho : o < 10) (p1 : Int64) (h : HD) : AM l D loc cy yX2_carNamed cX2_carNamed 4 (some .int) 2 58 [.ref (loc (1, o, 0)), .long p1] h ((jX2_carNamed o p1 h).map (fun r => (.inr (some (.int r)), h))) := by
  refine am_start (y := yX2_carNamed) (av := [.ref (loc (1, o, 0)), .long p1]) (nL := 4) (h := h) (RF := fun (r : Option Int32) => r.map (fun r => (.inr (some (.int r)), h))) (x := jX2_carNamed o p1 h) hl0 (by decide +kernel) rfl ?_
  intro p e R s m below meth c A hC
  unfold jX2_carNamed
  refine aw_iconst hC dX2_carNamed_0 (v := 0) (by decide) ?_
  refine aw_istore_n hC dX2_carNamed_1 (by decide) ?_
  refine aw_sub [0, 1, 3] ?_
  exact L_X2_carNamed_2 o ho p1 h  hC FU (0 : Int32)
set_option maxHeartbeats 4000000 in
set_option maxRecDepth 100000 in
theorem A_X2_put (l : Launch) (hl0 : l.stackTraces = false) (D : va_G) (loc : Rf → Nat) (cy : Nat → ClassId) (o : Nat) (ho : o < 10) (p1 : Int32) (p2 : Int64) (p3 : Int32) (h : HD) : AM l D loc cy yX2_put cX2_put 5 (none) 1 37 [.ref (loc (1, o, 0)), .int p1, .long p2, .int p3] h ((jX2_put o p1 p2 p3 h).map (fun r => (.inr (none), r))) := by
  refine am_start (y := yX2_put) (av := [.ref (loc (1, o, 0)), .int p1, .long p2, .int p3]) (nL := 5) (h := h) (RF := fun (r : Option HD) => r.map (fun r => (.inr (none), r))) (x := jX2_put o p1 p2 p3 h) hl0 (by decide +kernel) rfl ?_
  intro p e R s m below meth c A hC
  unfold jX2_put
  refine aw_aload_n hC dX2_put_0 rfl ?_
  refine aw_iload_n hC dX2_put_1 rfl ?_
  refine aw_cVb hC dX2_put_2 cv_RX2_26 rfl (rv_1_0 ho) (A_X2_hasCar _ (hC.2.2.2.2.2.2.2.2.2.2.2.2.1) _ _ _ o ho p1 h) rfl rfl rfl rfl rfl ⟨rfl, rfl⟩ ?_
  refine aw_if_eq_b hC dX2_put_5 (tgt := 23) (by decide) ?_ ?_
  · exact aw_vret hC dX2_put_23 rfl rfl
  · refine aw_aload_n hC dX2_put_8 rfl ?_
    refine aw_gfR hC dX2_put_9 fg_RX2_9 rfl rfl (rv_1_0 ho) ?_
    refine aw_iload_n hC dX2_put_12 rfl ?_
    refine aw_lload_n hC dX2_put_13 rfl ?_
    refine aw_guard rfl (fun g2 => ?_)
    refine aw_last hC dX2_put_14 (rv_1_1 ho) rfl rfl g2 rfl (fun h1 => ?_)
    refine aw_aload_n hC dX2_put_15 rfl ?_
    refine aw_gfR hC dX2_put_16 fg_RX2_15 rfl rfl (rv_1_0 ho) ?_
    refine aw_iload_n hC dX2_put_19 rfl ?_
    refine aw_iload hC dX2_put_20 rfl ?_
    refine aw_guard rfl (fun g4 => ?_)
    refine aw_iast hC dX2_put_22 (rv_1_2 ho) rfl rfl g4 rfl (fun h3 => ?_)
    exact aw_vret hC dX2_put_23 rfl rfl
set_option maxHeartbeats 4000000 in
set_option maxRecDepth 100000 in
theorem A_X2_add (l : Launch) (hl0 : l.stackTraces = false) (D : va_G) (loc : Rf → Nat) (cy : Nat → ClassId) (o : Nat) (ho : o < 10) (p1 : Int64) (p2 : Int32) (h : HD) : AM l D loc cy yX2_add cX2_add 4 (none) 2 61 [.ref (loc (1, o, 0)), .long p1, .int p2] h ((jX2_add o p1 p2 h).map (fun r => (.inr (none), r))) := by
  refine am_start (y := yX2_add) (av := [.ref (loc (1, o, 0)), .long p1, .int p2]) (nL := 4) (h := h) (RF := fun (r : Option HD) => r.map (fun r => (.inr (none), r))) (x := jX2_add o p1 p2 h) hl0 (by decide +kernel) rfl ?_
  intro p e R s m below meth c A hC
  unfold jX2_add
  refine aw_aload_n hC dX2_add_0 rfl ?_
  refine aw_gfI hC dX2_add_1 fg_RX2_19 rfl (rv_1_0 ho) ?_
  refine aw_bipush hC dX2_add_4 (v := 11) (by decide) ?_
  refine aw_icmp_ge hC dX2_add_6 (tgt := 31) (by decide) ?_ ?_
  · exact aw_vret hC dX2_add_31 rfl rfl
  · refine aw_aload_n hC dX2_add_9 rfl ?_
    refine aw_dup hC dX2_add_10 rfl ?_
    refine aw_gfI hC dX2_add_11 fg_RX2_19 rfl (rv_1_0 ho) ?_
    refine aw_iconst hC dX2_add_14 (v := 1) (by decide) ?_
    refine aw_iadd hC dX2_add_15 ?_
    refine aw_pfI hC dX2_add_16 fg_RX2_19 fp_1_2 rfl (rv_1_0 ho) (fun h1 => ?_)
    refine aw_aload_n hC dX2_add_19 rfl ?_
    refine aw_aload_n hC dX2_add_20 rfl ?_
    refine aw_gfI hC dX2_add_21 fg_RX2_19 rfl (rv_1_0 ho) ?_
    refine aw_iconst hC dX2_add_24 (v := 1) (by decide) ?_
    refine aw_isub hC dX2_add_25 ?_
    refine aw_lload_n hC dX2_add_26 rfl ?_
    refine aw_iload_n hC dX2_add_27 rfl ?_
    refine aw_bind rfl (fun q2 hq2 => ?_)
    refine aw_cVv hC dX2_add_28 cv_RX2_47 rfl (rv_1_0 ho) (am_some (inj := (fun r => (.inr (none), r))) hq2 (A_X2_put _ (hC.2.2.2.2.2.2.2.2.2.2.2.2.1) _ _ _ o ho ((gI h1 (1, o, 0) 2) - (1 : Int32)) p1 p2 h1)) rfl rfl rfl rfl rfl ⟨rfl, rfl⟩ ?_
    exact aw_vret hC dX2_add_31 rfl rfl
set_option maxHeartbeats 4000000 in
set_option maxRecDepth 100000 in
theorem A_X8_doCome (l : Launch) (hl0 : l.stackTraces = false) (D : va_G) (loc : Rf → Nat) (cy : Nat → ClassId) (p1 : Int64) (p2 : Int32) (h : HD) : AM l D loc cy yX8_doCome cX8_doCome 4 (some .boolean) 3 84 [.ref (loc (6, 0, 0)), .long p1, .int p2] h ((jX8_doCome p1 p2 h).map (fun r => (.inr (some (.int (b2i r.1))), r.2))) := by
  refine am_start (y := yX8_doCome) (av := [.ref (loc (6, 0, 0)), .long p1, .int p2]) (nL := 4) (h := h) (RF := fun (r : Option (Bool × HD)) => r.map (fun r => (.inr (some (.int (b2i r.1))), r.2))) (x := jX8_doCome p1 p2 h) hl0 (by decide +kernel) rfl ?_
  intro p e R s m below meth c A hC
  unfold jX8_doCome
  refine aw_aload_n hC dX8_doCome_0 rfl ?_
  refine aw_gfR hC dX8_doCome_1 fg_RX8_42 rfl rfl rm_6_0_0 ?_
  refine aw_cVi hC dX8_doCome_4 cv_RX8_138 rfl rm_1_0_0 (A_X2_count _ (hC.2.2.2.2.2.2.2.2.2.2.2.2.1) _ _ _ 0 (by decide) h) rfl rfl rfl rfl rfl ⟨rfl, rfl⟩ ?_
  refine aw_bipush hC dX8_doCome_7 (v := 11) (by decide) ?_
  refine aw_icmp_lt hC dX8_doCome_9 (tgt := 18) (by decide) ?_ ?_
  · refine aw_lload_n hC dX8_doCome_18 rfl ?_
    refine aw_lconst hC dX8_doCome_19 (v := 0) (by decide) ?_
    refine aw_lcmp hC dX8_doCome_20 ?_
    refine aw_if_eq hC dX8_doCome_21 (tgt := 36) (by decide) ?_ ?_
    · refine aw_aload_n hC dX8_doCome_36 rfl ?_
      refine aw_iconst hC dX8_doCome_37 (v := 2) (by decide) ?_
      refine aw_bind rfl (fun q1 hq1 => ?_)
      refine aw_cVb hC dX8_doCome_38 cv_RX8_467 rfl rm_6_0_0 (am_some (inj := (fun r => (.inr (some (.int (b2i r.1))), r.2))) hq1 (A_X8_refuse _ (hC.2.2.2.2.2.2.2.2.2.2.2.2.1) _ _ _ (2 : Int32) h)) rfl rfl rfl rfl rfl ⟨rfl, rfl⟩ ?_
      exact aw_zret hC dX8_doCome_41 rfl (show _ = b2i q1.1 from rfl) rfl
    · refine aw_aload_n hC dX8_doCome_24 rfl ?_
      refine aw_gfR hC dX8_doCome_25 fg_RX8_42 rfl rfl rm_6_0_0 ?_
      refine aw_lload_n hC dX8_doCome_28 rfl ?_
      refine aw_bind rfl (fun q2 hq2 => ?_)
      refine aw_cVi hC dX8_doCome_29 cv_RX8_219 rfl rm_1_0_0 (am_some (inj := (fun r => (.inr (some (.int r)), h))) hq2 (A_X2_carNamed _ (hC.2.2.2.2.2.2.2.2.2.2.2.2.1) _ _ _ 0 (by decide) p1 h)) rfl rfl rfl rfl rfl ⟨rfl, rfl⟩ ?_
      refine aw_iconst hC dX8_doCome_32 (v := -1) (by decide) ?_
      refine aw_icmp_eq hC dX8_doCome_33 (tgt := 42) (by decide) ?_ ?_
      · refine aw_aload_n hC dX8_doCome_42 rfl ?_
        refine aw_gfR hC dX8_doCome_43 fg_RX8_76 rfl rfl rm_6_0_0 ?_
        refine aw_iconst hC dX8_doCome_46 (v := 0) (by decide) ?_
        refine aw_dup2 hC dX8_doCome_47 rfl rfl ?_
        refine aw_iald hC dX8_doCome_48 rm_6_0_2 rfl rfl (by decide) (k := 0) (by decide) ?_
        refine aw_iconst hC dX8_doCome_49 (v := 1) (by decide) ?_
        refine aw_iadd hC dX8_doCome_50 ?_
        refine aw_iast hC dX8_doCome_51 rm_6_0_2 rfl rfl (by decide) (k := 0) (by decide) (fun h3 => ?_)
        refine aw_aload_n hC dX8_doCome_52 rfl ?_
        refine aw_gfR hC dX8_doCome_53 fg_RX8_42 rfl rfl rm_6_0_0 ?_
        refine aw_lload_n hC dX8_doCome_56 rfl ?_
        refine aw_iload_n hC dX8_doCome_57 rfl ?_
        refine aw_bind rfl (fun q4 hq4 => ?_)
        refine aw_cVv hC dX8_doCome_58 cv_RX8_223 rfl rm_1_0_0 (am_some (inj := (fun r => (.inr (none), r))) hq4 (A_X2_add _ (hC.2.2.2.2.2.2.2.2.2.2.2.2.1) _ _ _ 0 (by decide) p1 p2 h3)) rfl rfl rfl rfl rfl ⟨rfl, rfl⟩ ?_
        refine aw_aload_n hC dX8_doCome_61 rfl ?_
        refine aw_gfR hC dX8_doCome_62 fg_RX8_76 rfl rfl rm_6_0_0 ?_
        refine aw_iconst hC dX8_doCome_65 (v := 2) (by decide) ?_
        refine aw_dup2 hC dX8_doCome_66 rfl rfl ?_
        refine aw_iald hC dX8_doCome_67 rm_6_0_2 rfl rfl (by decide) (k := 2) (by decide) ?_
        refine aw_iconst hC dX8_doCome_68 (v := 1) (by decide) ?_
        refine aw_iadd hC dX8_doCome_69 ?_
        refine aw_iast hC dX8_doCome_70 rm_6_0_2 rfl rfl (by decide) (k := 2) (by decide) (fun h5 => ?_)
        refine aw_iconst hC dX8_doCome_71 (v := 1) (by decide) ?_
        exact aw_zret hC dX8_doCome_72 rfl (show _ = b2i true from rfl) rfl
      · refine aw_aload_n hC dX8_doCome_36 rfl ?_
        refine aw_iconst hC dX8_doCome_37 (v := 2) (by decide) ?_
        refine aw_bind rfl (fun q6 hq6 => ?_)
        refine aw_cVb hC dX8_doCome_38 cv_RX8_467 rfl rm_6_0_0 (am_some (inj := (fun r => (.inr (some (.int (b2i r.1))), r.2))) hq6 (A_X8_refuse _ (hC.2.2.2.2.2.2.2.2.2.2.2.2.1) _ _ _ (2 : Int32) h)) rfl rfl rfl rfl rfl ⟨rfl, rfl⟩ ?_
        exact aw_zret hC dX8_doCome_41 rfl (show _ = b2i q6.1 from rfl) rfl
  · refine aw_aload_n hC dX8_doCome_12 rfl ?_
    refine aw_iconst hC dX8_doCome_13 (v := 1) (by decide) ?_
    refine aw_bind rfl (fun q7 hq7 => ?_)
    refine aw_cVb hC dX8_doCome_14 cv_RX8_467 rfl rm_6_0_0 (am_some (inj := (fun r => (.inr (some (.int (b2i r.1))), r.2))) hq7 (A_X8_refuse _ (hC.2.2.2.2.2.2.2.2.2.2.2.2.1) _ _ _ (1 : Int32) h)) rfl rfl rfl rfl rfl ⟨rfl, rfl⟩ ?_
    exact aw_zret hC dX8_doCome_17 rfl (show _ = b2i q7.1 from rfl) rfl
set_option maxHeartbeats 4000000 in
set_option maxRecDepth 100000 in
theorem A_X8_come (l : Launch) (hl0 : l.stackTraces = false) (D : va_G) (loc : Rf → Nat) (cy : Nat → ClassId) (p1 : Int32) (h : HD) : AX l D loc cy yX8_come (Cond.code yX8_come cX8_come 3 (some .boolean) :: LW) 6 128 1 6 [.ref (loc (6, 0, 0)), .int p1] h ((jX8_come p1 h).map (fun r => (xi (fun v => some (.int (b2i v))) r.1, r.2))) := by
  refine ax_start (y := yX8_come) (av := [.ref (loc (6, 0, 0)), .int p1]) (nL := 3) (h := h) (RF := fun (r : Option ((Nat ⊕ Bool) × HD)) => r.map (fun r => (xi (fun v => some (.int (b2i v))) r.1, r.2))) (x := jX8_come p1 h) hl0 (by decide +kernel) rfl ?_
  intro p e R s m below meth c A hxt hC
  unfold jX8_come
  refine aw_aload_n hC dX8_come_0 rfl ?_
  refine aw_iload_n hC dX8_come_1 rfl ?_
  refine aw_cVb hC dX8_come_2 cv_RX8_446 rfl rm_6_0_0 (A_X8_canComeTo _ (hC.2.2.2.2.2.2.2.2.2.2.2.2.1) _ _ _ p1 h) rfl rfl rfl rfl rfl ⟨rfl, rfl⟩ ?_
  refine aw_if_ne_b hC dX8_come_5 (tgt := 19) (by decide) ?_ ?_
  · refine aw_aload_n hC dX8_come_19 rfl ?_
    refine aw_bind rfl (fun q1 hq1 => ?_)
    refine aw_cVv hC dX8_come_20 cv_RX8_147 rfl rm_6_0_0 (am_some (inj := (fun r => (.inr (none), r))) hq1 (A_X8_note _ (hC.2.2.2.2.2.2.2.2.2.2.2.2.1) _ _ _ h)) rfl rfl rfl rfl rfl ⟨rfl, rfl⟩ ?_
    refine aw_aload_n hC dX8_come_23 rfl ?_
    refine aw_aload_n hC dX8_come_24 rfl ?_
    refine aw_aload_n hC dX8_come_25 rfl ?_
    refine aw_gfR hC dX8_come_26 fg_RX8_20 rfl rfl rm_6_0_0 ?_
    refine aw_bind rfl (fun q2 hq2 => ?_)
    refine aw_cVj hC dX8_come_29 cv_RX8_451 rfl rm_0_0_0 (am_some (inj := (fun r => (.inr (some (.long r)), q1))) hq2 (A_X1_wholeName _ (hC.2.2.2.2.2.2.2.2.2.2.2.2.1) _ _ _ 0 (by decide) q1)) rfl rfl rfl rfl rfl ⟨rfl, rfl⟩ ?_
    refine aw_iload_n hC dX8_come_32 rfl ?_
    refine aw_bind rfl (fun q3 hq3 => ?_)
    refine aw_cVb hC dX8_come_33 cv_RX8_454 rfl rm_6_0_0 (am_some (inj := (fun r => (.inr (some (.int (b2i r.1))), r.2))) hq3 (A_X8_doCome _ (hC.2.2.2.2.2.2.2.2.2.2.2.2.1) _ _ _ q2 p1 q1)) rfl rfl rfl rfl rfl ⟨rfl, rfl⟩ ?_
    refine aw_bind rfl (fun q4 hq4 => ?_)
    refine aw_cVb hC dX8_come_36 cv_RX8_431 rfl rm_6_0_0 (am_some (inj := (fun r => (.inr (some (.int (b2i r.1))), r.2))) hq4 (A_X8_keepNotedIf _ (hC.2.2.2.2.2.2.2.2.2.2.2.2.1) _ _ _ q3.1 q3.2)) rfl rfl rfl rfl rfl ⟨rfl, rfl⟩ ?_
    refine aw_istore_n hC dX8_come_39 (by decide) ?_
    refine aw_iload_n hC dX8_come_40 rfl ?_
    refine aw_if_eq_b hC dX8_come_41 (tgt := 52) (by decide) ?_ ?_
    · refine aw_iload_n hC dX8_come_52 rfl ?_
      exact aw_zreX hC dX8_come_53 rfl (show _ = b2i q4.1 from rfl) rfl rfl rfl
    · refine aw_aload_n hC dX8_come_44 rfl ?_
      refine aw_gfR hC dX8_come_45 fg_RX8_20 rfl rfl rm_6_0_0 ?_
      refine aw_iconst hC dX8_come_48 (v := 0) (by decide) ?_
      refine aw_bind rfl (fun q5 hq5 => ?_)
      refine aw_cVv hC dX8_come_49 cv_RX8_119 rfl rm_0_0_0 (am_some (inj := (fun r => (.inr (none), r))) hq5 (A_X1_shorten _ (hC.2.2.2.2.2.2.2.2.2.2.2.2.1) _ _ _ 0 (by decide) (0 : Int32) q4.2)) rfl rfl rfl rfl rfl ⟨rfl, rfl⟩ ?_
      refine aw_iload_n hC dX8_come_52 rfl ?_
      exact aw_zreX hC dX8_come_53 rfl (show _ = b2i q4.1 from rfl) rfl rfl rfl
  · exact aw_throw1w (text := "a preference is a spot that there is then") (sid := 449) hC hxt dX8_come_8 dX8_come_11 dX8_come_12 dX8_come_15 dX8_come_18 tw4_48 tw1_13 (by decide +kernel) rfl rfl rfl rfl rfl rfl rfl
set_option maxHeartbeats 4000000 in
set_option maxRecDepth 100000 in
theorem L_X2_remove_4 (o : Nat) (ho : o < 10) (p1 : Int32) (k26 : HD → Option HD) (hC : Cx p l e R s m args meth c D loc cy A cX2_remove 3 (none) RX2 2 62 0 0) (hk26 : ∀  (h2 : HD), AW p l e R s m args below meth c D loc cy A 3 (QM below D loc cy A args s) (fun (r : Option HD) => r.map (fun r => (.inr (none), r))) (0, 0) 26 [(0, .ref (loc (1, o, 0))), (1, .int p1)] [] h2 (k26  h2)) : ∀ (n4 : Nat) (x2 : Int32) (h : HD), AW p l e R s m args below meth c D loc cy A 3 (QM below D loc cy A args s) (fun (r : Option HD) => r.map (fun r => (.inr (none), r))) (0, 0) 4 [(0, .ref (loc (1, o, 0))), (1, .int p1), (2, .int x2)] [] h (jX2_remove_L4 o p1 k26 n4 x2 h) := by
  intro n4
  induction n4 with
  | zero => intro x2 h; exact aw_none rfl
  | succ n4 ih4 =>
    intro x2 h
    rw [jX2_remove_L4]
    refine aw_iload_n hC dX2_remove_4 rfl ?_
    refine aw_aload_n hC dX2_remove_5 rfl ?_
    refine aw_gfI hC dX2_remove_6 fg_RX2_19 rfl (rv_1_0 ho) ?_
    refine aw_icmp_ge hC dX2_remove_9 (tgt := 26) (by decide) ?_ ?_
    · refine aw_sub [0, 1] ?_
      exact hk26 h
    · refine aw_aload_n hC dX2_remove_12 rfl ?_
      refine aw_iload_n hC dX2_remove_13 rfl ?_
      refine aw_iconst hC dX2_remove_14 (v := 1) (by decide) ?_
      refine aw_isub hC dX2_remove_15 ?_
      refine aw_iload_n hC dX2_remove_16 rfl ?_
      refine aw_bind rfl (fun q1 hq1 => ?_)
      refine aw_cVv hC dX2_remove_17 cv_RX2_51 rfl (rv_1_0 ho) (am_some (inj := (fun r => (.inr (none), r))) hq1 (A_X2_exchange _ (hC.2.2.2.2.2.2.2.2.2.2.2.2.1) _ _ _ o ho (x2 - (1 : Int32)) x2 h)) rfl rfl rfl rfl rfl ⟨rfl, rfl⟩ ?_
      refine aw_iinc hC dX2_remove_20 rfl (v := x2 + 1) (by first | rfl | decide) (by decide) ?_
      refine aw_goto hC dX2_remove_23 (tgt := 4) (by decide) ?_
      refine aw_sub [0, 1, 2] ?_
      exact ih4 (x2 + 1) q1
set_option maxHeartbeats 4000000 in
set_option maxRecDepth 100000 in
theorem A_X2_remove (l : Launch) (hl0 : l.stackTraces = false) (D : va_G) (loc : Rf → Nat) (cy : Nat → ClassId) (o : Nat) (ho : o < 10) (p1 : Int32) (h : HD) : AM l D loc cy yX2_remove cX2_remove 3 (none) 2 62 [.ref (loc (1, o, 0)), .int p1] h ((jX2_remove o p1 h).map (fun r => (.inr (none), r))) := by
  refine am_start (y := yX2_remove) (av := [.ref (loc (1, o, 0)), .int p1]) (nL := 3) (h := h) (RF := fun (r : Option HD) => r.map (fun r => (.inr (none), r))) (x := jX2_remove o p1 h) hl0 (by decide +kernel) rfl ?_
  intro p e R s m below meth c A hC
  unfold jX2_remove
  refine aw_iload_n hC dX2_remove_0 rfl ?_
  refine aw_iconst hC dX2_remove_1 (v := 1) (by decide) ?_
  refine aw_iadd hC dX2_remove_2 ?_
  refine aw_istore_n hC dX2_remove_3 (by decide) ?_
  refine aw_sub [0, 1, 2] ?_
  refine L_X2_remove_4 o ho p1 _ hC ?_ FU (p1 + (1 : Int32)) h
  · intro h2
    refine aw_aload_n hC dX2_remove_26 rfl ?_
    refine aw_iload_n hC dX2_remove_27 rfl ?_
    refine aw_cVb hC dX2_remove_28 cv_RX2_26 rfl (rv_1_0 ho) (A_X2_hasCar _ (hC.2.2.2.2.2.2.2.2.2.2.2.2.1) _ _ _ o ho p1 h2) rfl rfl rfl rfl rfl ⟨rfl, rfl⟩ ?_
    refine aw_if_eq_b hC dX2_remove_31 (tgt := 44) (by decide) ?_ ?_
    · exact aw_vret hC dX2_remove_44 rfl rfl
    · refine aw_aload_n hC dX2_remove_34 rfl ?_
      refine aw_dup hC dX2_remove_35 rfl ?_
      refine aw_gfI hC dX2_remove_36 fg_RX2_19 rfl (rv_1_0 ho) ?_
      refine aw_iconst hC dX2_remove_39 (v := 1) (by decide) ?_
      refine aw_isub hC dX2_remove_40 ?_
      refine aw_pfI hC dX2_remove_41 fg_RX2_19 fp_1_2 rfl (rv_1_0 ho) (fun h3 => ?_)
      exact aw_vret hC dX2_remove_44 rfl rfl
set_option maxHeartbeats 4000000 in
set_option maxRecDepth 100000 in
theorem A_X8_doGo (l : Launch) (hl0 : l.stackTraces = false) (D : va_G) (loc : Rf → Nat) (cy : Nat → ClassId) (p1 : Int32) (h : HD) : AM l D loc cy yX8_doGo cX8_doGo 4 (some .boolean) 3 84 [.ref (loc (6, 0, 0)), .int p1] h ((jX8_doGo p1 h).map (fun r => (.inr (some (.int (b2i r.1))), r.2))) := by
  refine am_start (y := yX8_doGo) (av := [.ref (loc (6, 0, 0)), .int p1]) (nL := 4) (h := h) (RF := fun (r : Option (Bool × HD)) => r.map (fun r => (.inr (some (.int (b2i r.1))), r.2))) (x := jX8_doGo p1 h) hl0 (by decide +kernel) rfl ?_
  intro p e R s m below meth c A hC
  unfold jX8_doGo
  refine aw_aload_n hC dX8_doGo_0 rfl ?_
  refine aw_gfR hC dX8_doGo_1 fg_RX8_42 rfl rfl rm_6_0_0 ?_
  refine aw_cVi hC dX8_doGo_4 cv_RX8_305 rfl rm_1_0_0 (A_X2_spots _ (hC.2.2.2.2.2.2.2.2.2.2.2.2.1) _ _ _ 0 (by decide) h) rfl rfl rfl rfl rfl ⟨rfl, rfl⟩ ?_
  refine aw_iconst hC dX8_doGo_7 (v := 1) (by decide) ?_
  refine aw_isub hC dX8_doGo_8 ?_
  refine aw_istore_n hC dX8_doGo_9 (by decide) ?_
  refine aw_aload_n hC dX8_doGo_10 rfl ?_
  refine aw_gfR hC dX8_doGo_11 fg_RX8_42 rfl rfl rm_6_0_0 ?_
  refine aw_iload_n hC dX8_doGo_14 rfl ?_
  refine aw_bind rfl (fun q1 hq1 => ?_)
  refine aw_cVi hC dX8_doGo_15 cv_RX8_249 rfl rm_1_0_0 (am_some (inj := (fun r => (.inr (some (.int r)), h))) hq1 (A_X2_preferenceOf _ (hC.2.2.2.2.2.2.2.2.2.2.2.2.1) _ _ _ 0 (by decide) p1 h)) rfl rfl rfl rfl rfl ⟨rfl, rfl⟩ ?_
  refine aw_iload_n hC dX8_doGo_18 rfl ?_
  refine aw_icmp_ne hC dX8_doGo_19 (tgt := 26) (by decide) ?_ ?_
  · refine aw_iconst hC dX8_doGo_26 (v := 0) (by decide) ?_
    refine aw_istore_n hC dX8_doGo_27 (by decide) ?_
    refine aw_aload_n hC dX8_doGo_28 rfl ?_
    refine aw_gfR hC dX8_doGo_29 fg_RX8_42 rfl rfl rm_6_0_0 ?_
    refine aw_iload_n hC dX8_doGo_32 rfl ?_
    refine aw_bind rfl (fun q2 hq2 => ?_)
    refine aw_cVi hC dX8_doGo_33 cv_RX8_276 rfl rm_1_0_0 (am_some (inj := (fun r => (.inr (some (.int r)), h))) hq2 (A_X2_wishesFor _ (hC.2.2.2.2.2.2.2.2.2.2.2.2.1) _ _ _ 0 (by decide) ((jX2_spots 0 h) - (1 : Int32)) h)) rfl rfl rfl rfl rfl ⟨rfl, rfl⟩ ?_
    refine aw_iload_n hC dX8_doGo_36 rfl ?_
    refine aw_icmp_le hC dX8_doGo_37 (tgt := 46) (by decide) ?_ ?_
    · refine aw_aload_n hC dX8_doGo_46 rfl ?_
      refine aw_gfR hC dX8_doGo_47 fg_RX8_76 rfl rfl rm_6_0_0 ?_
      refine aw_iconst hC dX8_doGo_50 (v := 0) (by decide) ?_
      refine aw_dup2 hC dX8_doGo_51 rfl rfl ?_
      refine aw_iald hC dX8_doGo_52 rm_6_0_2 rfl rfl (by decide) (k := 0) (by decide) ?_
      refine aw_iconst hC dX8_doGo_53 (v := 1) (by decide) ?_
      refine aw_iadd hC dX8_doGo_54 ?_
      refine aw_iast hC dX8_doGo_55 rm_6_0_2 rfl rfl (by decide) (k := 0) (by decide) (fun h3 => ?_)
      refine aw_aload_n hC dX8_doGo_56 rfl ?_
      refine aw_gfR hC dX8_doGo_57 fg_RX8_42 rfl rfl rm_6_0_0 ?_
      refine aw_iload_n hC dX8_doGo_60 rfl ?_
      refine aw_bind rfl (fun q4 hq4 => ?_)
      refine aw_cVv hC dX8_doGo_61 cv_RX8_473 rfl rm_1_0_0 (am_some (inj := (fun r => (.inr (none), r))) hq4 (A_X2_remove _ (hC.2.2.2.2.2.2.2.2.2.2.2.2.1) _ _ _ 0 (by decide) p1 h3)) rfl rfl rfl rfl rfl ⟨rfl, rfl⟩ ?_
      refine aw_aload_n hC dX8_doGo_64 rfl ?_
      refine aw_gfR hC dX8_doGo_65 fg_RX8_76 rfl rfl rm_6_0_0 ?_
      refine aw_iconst hC dX8_doGo_68 (v := 3) (by decide) ?_
      refine aw_dup2 hC dX8_doGo_69 rfl rfl ?_
      refine aw_iald hC dX8_doGo_70 rm_6_0_2 rfl rfl (by decide) (k := 3) (by decide) ?_
      refine aw_iconst hC dX8_doGo_71 (v := 1) (by decide) ?_
      refine aw_iadd hC dX8_doGo_72 ?_
      refine aw_iast hC dX8_doGo_73 rm_6_0_2 rfl rfl (by decide) (k := 3) (by decide) (fun h5 => ?_)
      refine aw_iconst hC dX8_doGo_74 (v := 1) (by decide) ?_
      exact aw_zret hC dX8_doGo_75 rfl (show _ = b2i true from rfl) rfl
    · refine aw_aload_n hC dX8_doGo_40 rfl ?_
      refine aw_iconst hC dX8_doGo_41 (v := 4) (by decide) ?_
      refine aw_bind rfl (fun q6 hq6 => ?_)
      refine aw_cVb hC dX8_doGo_42 cv_RX8_467 rfl rm_6_0_0 (am_some (inj := (fun r => (.inr (some (.int (b2i r.1))), r.2))) hq6 (A_X8_refuse _ (hC.2.2.2.2.2.2.2.2.2.2.2.2.1) _ _ _ (4 : Int32) h)) rfl rfl rfl rfl rfl ⟨rfl, rfl⟩ ?_
      exact aw_zret hC dX8_doGo_45 rfl (show _ = b2i q6.1 from rfl) rfl
  · refine aw_iconst hC dX8_doGo_22 (v := 1) (by decide) ?_
    refine aw_goto hC dX8_doGo_23 (tgt := 27) (by decide) ?_
    refine aw_istore_n hC dX8_doGo_27 (by decide) ?_
    refine aw_aload_n hC dX8_doGo_28 rfl ?_
    refine aw_gfR hC dX8_doGo_29 fg_RX8_42 rfl rfl rm_6_0_0 ?_
    refine aw_iload_n hC dX8_doGo_32 rfl ?_
    refine aw_bind rfl (fun q7 hq7 => ?_)
    refine aw_cVi hC dX8_doGo_33 cv_RX8_276 rfl rm_1_0_0 (am_some (inj := (fun r => (.inr (some (.int r)), h))) hq7 (A_X2_wishesFor _ (hC.2.2.2.2.2.2.2.2.2.2.2.2.1) _ _ _ 0 (by decide) ((jX2_spots 0 h) - (1 : Int32)) h)) rfl rfl rfl rfl rfl ⟨rfl, rfl⟩ ?_
    refine aw_iload_n hC dX8_doGo_36 rfl ?_
    refine aw_icmp_le hC dX8_doGo_37 (tgt := 46) (by decide) ?_ ?_
    · refine aw_aload_n hC dX8_doGo_46 rfl ?_
      refine aw_gfR hC dX8_doGo_47 fg_RX8_76 rfl rfl rm_6_0_0 ?_
      refine aw_iconst hC dX8_doGo_50 (v := 0) (by decide) ?_
      refine aw_dup2 hC dX8_doGo_51 rfl rfl ?_
      refine aw_iald hC dX8_doGo_52 rm_6_0_2 rfl rfl (by decide) (k := 0) (by decide) ?_
      refine aw_iconst hC dX8_doGo_53 (v := 1) (by decide) ?_
      refine aw_iadd hC dX8_doGo_54 ?_
      refine aw_iast hC dX8_doGo_55 rm_6_0_2 rfl rfl (by decide) (k := 0) (by decide) (fun h8 => ?_)
      refine aw_aload_n hC dX8_doGo_56 rfl ?_
      refine aw_gfR hC dX8_doGo_57 fg_RX8_42 rfl rfl rm_6_0_0 ?_
      refine aw_iload_n hC dX8_doGo_60 rfl ?_
      refine aw_bind rfl (fun q9 hq9 => ?_)
      refine aw_cVv hC dX8_doGo_61 cv_RX8_473 rfl rm_1_0_0 (am_some (inj := (fun r => (.inr (none), r))) hq9 (A_X2_remove _ (hC.2.2.2.2.2.2.2.2.2.2.2.2.1) _ _ _ 0 (by decide) p1 h8)) rfl rfl rfl rfl rfl ⟨rfl, rfl⟩ ?_
      refine aw_aload_n hC dX8_doGo_64 rfl ?_
      refine aw_gfR hC dX8_doGo_65 fg_RX8_76 rfl rfl rm_6_0_0 ?_
      refine aw_iconst hC dX8_doGo_68 (v := 3) (by decide) ?_
      refine aw_dup2 hC dX8_doGo_69 rfl rfl ?_
      refine aw_iald hC dX8_doGo_70 rm_6_0_2 rfl rfl (by decide) (k := 3) (by decide) ?_
      refine aw_iconst hC dX8_doGo_71 (v := 1) (by decide) ?_
      refine aw_iadd hC dX8_doGo_72 ?_
      refine aw_iast hC dX8_doGo_73 rm_6_0_2 rfl rfl (by decide) (k := 3) (by decide) (fun h10 => ?_)
      refine aw_iconst hC dX8_doGo_74 (v := 1) (by decide) ?_
      exact aw_zret hC dX8_doGo_75 rfl (show _ = b2i true from rfl) rfl
    · refine aw_aload_n hC dX8_doGo_40 rfl ?_
      refine aw_iconst hC dX8_doGo_41 (v := 4) (by decide) ?_
      refine aw_bind rfl (fun q11 hq11 => ?_)
      refine aw_cVb hC dX8_doGo_42 cv_RX8_467 rfl rm_6_0_0 (am_some (inj := (fun r => (.inr (some (.int (b2i r.1))), r.2))) hq11 (A_X8_refuse _ (hC.2.2.2.2.2.2.2.2.2.2.2.2.1) _ _ _ (4 : Int32) h)) rfl rfl rfl rfl rfl ⟨rfl, rfl⟩ ?_
      exact aw_zret hC dX8_doGo_45 rfl (show _ = b2i q11.1 from rfl) rfl
set_option maxHeartbeats 4000000 in
set_option maxRecDepth 100000 in
theorem A_X8_go (l : Launch) (hl0 : l.stackTraces = false) (D : va_G) (loc : Rf → Nat) (cy : Nat → ClassId) (p1 : Int32) (h : HD) : AX l D loc cy yX8_go (Cond.code yX8_go cX8_go 2 (some .boolean) :: LW) 7 128 1 6 [.ref (loc (6, 0, 0)), .int p1] h ((jX8_go p1 h).map (fun r => (xi (fun v => some (.int (b2i v))) r.1, r.2))) := by
  refine ax_start (y := yX8_go) (av := [.ref (loc (6, 0, 0)), .int p1]) (nL := 2) (h := h) (RF := fun (r : Option ((Nat ⊕ Bool) × HD)) => r.map (fun r => (xi (fun v => some (.int (b2i v))) r.1, r.2))) (x := jX8_go p1 h) hl0 (by decide +kernel) rfl ?_
  intro p e R s m below meth c A hxt hC
  unfold jX8_go
  refine aw_aload_n hC dX8_go_0 rfl ?_
  refine aw_iload_n hC dX8_go_1 rfl ?_
  refine aw_bind rfl (fun q1 hq1 => ?_)
  refine aw_cXv hC hxt dX8_go_2 cv_RX8_234 rfl rm_6_0_0 (ax_some (inj := (fun r => (xi (fun _ => none) r, h))) hq1 (A_X8_needCar _ (hC.2.2.2.2.2.2.2.2.2.2.2.2.1) _ _ _ p1 h)) rfl rfl rfl rfl rfl ⟨rfl, rfl⟩ rfl rfl (fun _ => rfl) (fun v2 => ?_)
  refine aw_aload_n hC dX8_go_5 rfl ?_
  refine aw_bind rfl (fun q3 hq3 => ?_)
  refine aw_cVv hC dX8_go_6 cv_RX8_147 rfl rm_6_0_0 (am_some (inj := (fun r => (.inr (none), r))) hq3 (A_X8_note _ (hC.2.2.2.2.2.2.2.2.2.2.2.2.1) _ _ _ h)) rfl rfl rfl rfl rfl ⟨rfl, rfl⟩ ?_
  refine aw_aload_n hC dX8_go_9 rfl ?_
  refine aw_aload_n hC dX8_go_10 rfl ?_
  refine aw_iload_n hC dX8_go_11 rfl ?_
  refine aw_bind rfl (fun q4 hq4 => ?_)
  refine aw_cVb hC dX8_go_12 cv_RX8_458 rfl rm_6_0_0 (am_some (inj := (fun r => (.inr (some (.int (b2i r.1))), r.2))) hq4 (A_X8_doGo _ (hC.2.2.2.2.2.2.2.2.2.2.2.2.1) _ _ _ p1 q3)) rfl rfl rfl rfl rfl ⟨rfl, rfl⟩ ?_
  refine aw_bind rfl (fun q5 hq5 => ?_)
  refine aw_cVb hC dX8_go_15 cv_RX8_431 rfl rm_6_0_0 (am_some (inj := (fun r => (.inr (some (.int (b2i r.1))), r.2))) hq5 (A_X8_keepNotedIf _ (hC.2.2.2.2.2.2.2.2.2.2.2.2.1) _ _ _ q4.1 q4.2)) rfl rfl rfl rfl rfl ⟨rfl, rfl⟩ ?_
  exact aw_zreX hC dX8_go_18 rfl (show _ = b2i q5.1 from rfl) rfl rfl rfl
set_option maxHeartbeats 4000000 in
set_option maxRecDepth 100000 in
theorem L_X2_takeSorted_9 (o : Nat) (ho : o < 10) (r1 : Nat) (hr1 : r1 < 10) (hC : Cx p l e R s m args meth c D loc cy A cX2_takeSorted 5 (some .int) RX2 2 85 0 0)  : ∀ (n9 : Nat) (x2 : Int32) (x3 : Int32) (h : HD), AW p l e R s m args below meth c D loc cy A 5 (QM below D loc cy A args s) (fun (r : Option (Int32 × HD)) => r.map (fun r => (.inr (some (.int r.1)), r.2))) (0, 0) 9 [(0, .ref (loc (1, o, 0))), (1, .ref (loc (1, r1, 0))), (2, .int x2), (3, .int x3)] [] h (jX2_takeSorted_L9 o r1 n9 x2 x3 h) := by
  intro n9
  induction n9 with
  | zero => intro x2 x3 h; exact aw_none rfl
  | succ n9 ih9 =>
    intro x2 x3 h
    rw [jX2_takeSorted_L9]
    refine aw_iload_n hC dX2_takeSorted_9 rfl ?_
    refine aw_aload_n hC dX2_takeSorted_10 rfl ?_
    refine aw_gfI hC dX2_takeSorted_11 fg_RX2_19 rfl (rv_1_0 ho) ?_
    refine aw_icmp_ge hC dX2_takeSorted_14 (tgt := 55) (by decide) ?_ ?_
    · refine aw_iload_n hC dX2_takeSorted_55 rfl ?_
      exact aw_iret hC dX2_takeSorted_56 rfl rfl
    · refine aw_aload_n hC dX2_takeSorted_17 rfl ?_
      refine aw_iload_n hC dX2_takeSorted_18 rfl ?_
      refine aw_bind rfl (fun q2 hq2 => ?_)
      refine aw_cVi hC dX2_takeSorted_19 cv_RX2_66 rfl (rv_1_0 hr1) (am_some (inj := (fun r => (.inr (some (.int r)), h))) hq2 (A_X2_rankOf _ (hC.2.2.2.2.2.2.2.2.2.2.2.2.1) _ _ _ r1 hr1 x3 h)) rfl rfl rfl rfl rfl ⟨rfl, rfl⟩ ?_
      refine aw_istore hC dX2_takeSorted_22 (by decide) ?_
      refine aw_aload_n hC dX2_takeSorted_24 rfl ?_
      refine aw_iload hC dX2_takeSorted_25 rfl ?_
      refine aw_aload_n hC dX2_takeSorted_27 rfl ?_
      refine aw_iload_n hC dX2_takeSorted_28 rfl ?_
      refine aw_bind rfl (fun q3 hq3 => ?_)
      refine aw_cVj hC dX2_takeSorted_29 cv_RX2_30 rfl (rv_1_0 hr1) (am_some (inj := (fun r => (.inr (some (.long r)), h))) hq3 (A_X2_nameOf _ (hC.2.2.2.2.2.2.2.2.2.2.2.2.1) _ _ _ r1 hr1 x3 h)) rfl rfl rfl rfl rfl ⟨rfl, rfl⟩ ?_
      refine aw_aload_n hC dX2_takeSorted_32 rfl ?_
      refine aw_iload_n hC dX2_takeSorted_33 rfl ?_
      refine aw_bind rfl (fun q4 hq4 => ?_)
      refine aw_cVi hC dX2_takeSorted_34 cv_RX2_34 rfl (rv_1_0 hr1) (am_some (inj := (fun r => (.inr (some (.int r)), h))) hq4 (A_X2_preferenceOf _ (hC.2.2.2.2.2.2.2.2.2.2.2.2.1) _ _ _ r1 hr1 x3 h)) rfl rfl rfl rfl rfl ⟨rfl, rfl⟩ ?_
      refine aw_bind rfl (fun q5 hq5 => ?_)
      refine aw_cVv hC dX2_takeSorted_37 cv_RX2_47 rfl (rv_1_0 ho) (am_some (inj := (fun r => (.inr (none), r))) hq5 (A_X2_put _ (hC.2.2.2.2.2.2.2.2.2.2.2.2.1) _ _ _ o ho q2 q3 q4 h)) rfl rfl rfl rfl rfl ⟨rfl, rfl⟩ ?_
      refine aw_iload hC dX2_takeSorted_40 rfl ?_
      refine aw_iload_n hC dX2_takeSorted_42 rfl ?_
      refine aw_icmp_eq hC dX2_takeSorted_43 (tgt := 49) (by decide) ?_ ?_
      · refine aw_iinc hC dX2_takeSorted_49 rfl (v := x3 + 1) (by first | rfl | decide) (by decide) ?_
        refine aw_goto hC dX2_takeSorted_52 (tgt := 9) (by decide) ?_
        refine aw_sub [0, 1, 2, 3] ?_
        exact ih9 x2 (x3 + 1) q5
      · refine aw_iinc hC dX2_takeSorted_46 rfl (v := x2 + 1) (by first | rfl | decide) (by decide) ?_
        refine aw_iinc hC dX2_takeSorted_49 rfl (v := x3 + 1) (by first | rfl | decide) (by decide) ?_
        refine aw_goto hC dX2_takeSorted_52 (tgt := 9) (by decide) ?_
        refine aw_sub [0, 1, 2, 3] ?_
        exact ih9 (x2 + 1) (x3 + 1) q5
set_option maxHeartbeats 4000000 in
set_option maxRecDepth 100000 in
theorem A_X2_takeSorted (l : Launch) (hl0 : l.stackTraces = false) (D : va_G) (loc : Rf → Nat) (cy : Nat → ClassId) (o : Nat) (ho : o < 10) (r1 : Nat) (hr1 : r1 < 10) (h : HD) : AM l D loc cy yX2_takeSorted cX2_takeSorted 5 (some .int) 2 85 [.ref (loc (1, o, 0)), .ref (loc (1, r1, 0))] h ((jX2_takeSorted o r1 h).map (fun r => (.inr (some (.int r.1)), r.2))) := by
  refine am_start (y := yX2_takeSorted) (av := [.ref (loc (1, o, 0)), .ref (loc (1, r1, 0))]) (nL := 5) (h := h) (RF := fun (r : Option (Int32 × HD)) => r.map (fun r => (.inr (some (.int r.1)), r.2))) (x := jX2_takeSorted o r1 h) hl0 (by decide +kernel) rfl ?_
  intro p e R s m below meth c A hC
  unfold jX2_takeSorted
  refine aw_aload_n hC dX2_takeSorted_0 rfl ?_
  refine aw_aload_n hC dX2_takeSorted_1 rfl ?_
  refine aw_bind rfl (fun q1 hq1 => ?_)
  refine aw_cVv hC dX2_takeSorted_2 cv_RX2_62 rfl (rv_1_0 ho) (am_some (inj := (fun r => (.inr (none), r))) hq1 (A_X2_copyFrom _ (hC.2.2.2.2.2.2.2.2.2.2.2.2.1) _ _ _ o ho r1 hr1 h)) rfl rfl rfl rfl rfl ⟨rfl, rfl⟩ ?_
  refine aw_iconst hC dX2_takeSorted_5 (v := 0) (by decide) ?_
  refine aw_istore_n hC dX2_takeSorted_6 (by decide) ?_
  refine aw_iconst hC dX2_takeSorted_7 (v := 0) (by decide) ?_
  refine aw_istore_n hC dX2_takeSorted_8 (by decide) ?_
  refine aw_sub [0, 1, 2, 3] ?_
  exact L_X2_takeSorted_9 o ho r1 hr1  hC FU (0 : Int32) (0 : Int32) q1
set_option maxHeartbeats 4000000 in
set_option maxRecDepth 100000 in
theorem A_X8_doSort (l : Launch) (hl0 : l.stackTraces = false) (D : va_G) (loc : Rf → Nat) (cy : Nat → ClassId)  (h : HD) : AM l D loc cy yX8_doSort cX8_doSort 1 (some .int) 3 109 [.ref (loc (6, 0, 0))] h ((jX8_doSort h).map (fun r => (.inr (some (.int r.1)), r.2))) := by
  refine am_start (y := yX8_doSort) (av := [.ref (loc (6, 0, 0))]) (nL := 1) (h := h) (RF := fun (r : Option (Int32 × HD)) => r.map (fun r => (.inr (some (.int r.1)), r.2))) (x := jX8_doSort h) hl0 (by decide +kernel) rfl ?_
  intro p e R s m below meth c A hC
  unfold jX8_doSort
  refine aw_aload_n hC dX8_doSort_0 rfl ?_
  refine aw_gfR hC dX8_doSort_1 fg_RX8_76 rfl rfl rm_6_0_0 ?_
  refine aw_iconst hC dX8_doSort_4 (v := 0) (by decide) ?_
  refine aw_dup2 hC dX8_doSort_5 rfl rfl ?_
  refine aw_iald hC dX8_doSort_6 rm_6_0_2 rfl rfl (by decide) (k := 0) (by decide) ?_
  refine aw_iconst hC dX8_doSort_7 (v := 1) (by decide) ?_
  refine aw_iadd hC dX8_doSort_8 ?_
  refine aw_iast hC dX8_doSort_9 rm_6_0_2 rfl rfl (by decide) (k := 0) (by decide) (fun h1 => ?_)
  refine aw_aload_n hC dX8_doSort_10 rfl ?_
  refine aw_gfR hC dX8_doSort_11 fg_RX8_46 rfl rfl rm_6_0_0 ?_
  refine aw_aload_n hC dX8_doSort_14 rfl ?_
  refine aw_gfR hC dX8_doSort_15 fg_RX8_42 rfl rfl rm_6_0_0 ?_
  refine aw_bind rfl (fun q2 hq2 => ?_)
  refine aw_cVv hC dX8_doSort_18 cv_RX8_134 rfl rm_1_1_0 (am_some (inj := (fun r => (.inr (none), r))) hq2 (A_X2_copyFrom _ (hC.2.2.2.2.2.2.2.2.2.2.2.2.1) _ _ _ 1 (by decide) 0 (by decide) h1)) rfl rfl rfl rfl rfl ⟨rfl, rfl⟩ ?_
  refine aw_aload_n hC dX8_doSort_21 rfl ?_
  refine aw_gfR hC dX8_doSort_22 fg_RX8_42 rfl rfl rm_6_0_0 ?_
  refine aw_aload_n hC dX8_doSort_25 rfl ?_
  refine aw_gfR hC dX8_doSort_26 fg_RX8_46 rfl rfl rm_6_0_0 ?_
  refine aw_bind rfl (fun q3 hq3 => ?_)
  refine aw_cVi hC dX8_doSort_29 cv_RX8_476 rfl rm_1_0_0 (am_some (inj := (fun r => (.inr (some (.int r.1)), r.2))) hq3 (A_X2_takeSorted _ (hC.2.2.2.2.2.2.2.2.2.2.2.2.1) _ _ _ 0 (by decide) 1 (by decide) q2)) rfl rfl rfl rfl rfl ⟨rfl, rfl⟩ ?_
  exact aw_iret hC dX8_doSort_32 rfl rfl
set_option maxHeartbeats 4000000 in
set_option maxRecDepth 100000 in
theorem A_X8_sort (l : Launch) (hl0 : l.stackTraces = false) (D : va_G) (loc : Rf → Nat) (cy : Nat → ClassId)  (h : HD) : AM l D loc cy yX8_sort cX8_sort 2 (some .int) 4 129 [.ref (loc (6, 0, 0))] h ((jX8_sort h).map (fun r => (.inr (some (.int r.1)), r.2))) := by
  refine am_start (y := yX8_sort) (av := [.ref (loc (6, 0, 0))]) (nL := 2) (h := h) (RF := fun (r : Option (Int32 × HD)) => r.map (fun r => (.inr (some (.int r.1)), r.2))) (x := jX8_sort h) hl0 (by decide +kernel) rfl ?_
  intro p e R s m below meth c A hC
  unfold jX8_sort
  refine aw_aload_n hC dX8_sort_0 rfl ?_
  refine aw_bind rfl (fun q1 hq1 => ?_)
  refine aw_cVv hC dX8_sort_1 cv_RX8_147 rfl rm_6_0_0 (am_some (inj := (fun r => (.inr (none), r))) hq1 (A_X8_note _ (hC.2.2.2.2.2.2.2.2.2.2.2.2.1) _ _ _ h)) rfl rfl rfl rfl rfl ⟨rfl, rfl⟩ ?_
  refine aw_aload_n hC dX8_sort_4 rfl ?_
  refine aw_bind rfl (fun q2 hq2 => ?_)
  refine aw_cVi hC dX8_sort_5 cv_RX8_461 rfl rm_6_0_0 (am_some (inj := (fun r => (.inr (some (.int r.1)), r.2))) hq2 (A_X8_doSort _ (hC.2.2.2.2.2.2.2.2.2.2.2.2.1) _ _ _ q1)) rfl rfl rfl rfl rfl ⟨rfl, rfl⟩ ?_
  refine aw_istore_n hC dX8_sort_8 (by decide) ?_
  refine aw_aload_n hC dX8_sort_9 rfl ?_
  refine aw_bind rfl (fun q3 hq3 => ?_)
  refine aw_cVv hC dX8_sort_10 cv_RX8_155 rfl rm_6_0_0 (am_some (inj := (fun r => (.inr (none), r))) hq3 (A_X8_keepNoted _ (hC.2.2.2.2.2.2.2.2.2.2.2.2.1) _ _ _ q2.2)) rfl rfl rfl rfl rfl ⟨rfl, rfl⟩ ?_
  refine aw_iload_n hC dX8_sort_13 rfl ?_
  exact aw_iret hC dX8_sort_14 rfl rfl
set_option maxHeartbeats 4000000 in
set_option maxRecDepth 100000 in
theorem L_X8_doReverse_20 (x1 : Int32) (hC : Cx p l e R s m args meth c D loc cy A cX8_doReverse 3 (some .boolean) RX8 2 62 0 0)  : ∀ (n20 : Nat) (x2 : Int32) (h : HD), AW p l e R s m args below meth c D loc cy A 3 (QM below D loc cy A args s) (fun (r : Option (Bool × HD)) => r.map (fun r => (.inr (some (.int (b2i r.1))), r.2))) (0, 0) 20 [(0, .ref (loc (6, 0, 0))), (1, .int x1), (2, .int x2)] [] h (jX8_doReverse_L20 x1 n20 x2 h) := by
  intro n20
  induction n20 with
  | zero => intro x2 h; exact aw_none rfl
  | succ n20 ih20 =>
    intro x2 h
    rw [jX8_doReverse_L20]
    refine aw_iload_n hC dX8_doReverse_20 rfl ?_
    refine aw_iload_n hC dX8_doReverse_21 rfl ?_
    refine aw_iconst hC dX8_doReverse_22 (v := 1) (by decide) ?_
    refine aw_isub hC dX8_doReverse_23 ?_
    refine aw_iload_n hC dX8_doReverse_24 rfl ?_
    refine aw_isub hC dX8_doReverse_25 ?_
    refine aw_icmp_ge hC dX8_doReverse_26 (tgt := 48) (by decide) ?_ ?_
    · refine aw_iconst hC dX8_doReverse_48 (v := 1) (by decide) ?_
      exact aw_zret hC dX8_doReverse_49 rfl (show _ = b2i true from rfl) rfl
    · refine aw_aload_n hC dX8_doReverse_29 rfl ?_
      refine aw_gfR hC dX8_doReverse_30 fg_RX8_42 rfl rfl rm_6_0_0 ?_
      refine aw_iload_n hC dX8_doReverse_33 rfl ?_
      refine aw_iload_n hC dX8_doReverse_34 rfl ?_
      refine aw_iconst hC dX8_doReverse_35 (v := 1) (by decide) ?_
      refine aw_isub hC dX8_doReverse_36 ?_
      refine aw_iload_n hC dX8_doReverse_37 rfl ?_
      refine aw_isub hC dX8_doReverse_38 ?_
      refine aw_bind rfl (fun q2 hq2 => ?_)
      refine aw_cVv hC dX8_doReverse_39 cv_RX8_416 rfl rm_1_0_0 (am_some (inj := (fun r => (.inr (none), r))) hq2 (A_X2_exchange _ (hC.2.2.2.2.2.2.2.2.2.2.2.2.1) _ _ _ 0 (by decide) x2 ((x1 - (1 : Int32)) - x2) h)) rfl rfl rfl rfl rfl ⟨rfl, rfl⟩ ?_
      refine aw_iinc hC dX8_doReverse_42 rfl (v := x2 + 1) (by first | rfl | decide) (by decide) ?_
      refine aw_goto hC dX8_doReverse_45 (tgt := 20) (by decide) ?_
      refine aw_sub [0, 1, 2] ?_
      exact ih20 (x2 + 1) q2
set_option maxHeartbeats 4000000 in
set_option maxRecDepth 100000 in
theorem A_X8_doReverse (l : Launch) (hl0 : l.stackTraces = false) (D : va_G) (loc : Rf → Nat) (cy : Nat → ClassId)  (h : HD) : AM l D loc cy yX8_doReverse cX8_doReverse 3 (some .boolean) 2 62 [.ref (loc (6, 0, 0))] h ((jX8_doReverse h).map (fun r => (.inr (some (.int (b2i r.1))), r.2))) := by
  refine am_start (y := yX8_doReverse) (av := [.ref (loc (6, 0, 0))]) (nL := 3) (h := h) (RF := fun (r : Option (Bool × HD)) => r.map (fun r => (.inr (some (.int (b2i r.1))), r.2))) (x := jX8_doReverse h) hl0 (by decide +kernel) rfl ?_
  intro p e R s m below meth c A hC
  unfold jX8_doReverse
  refine aw_aload_n hC dX8_doReverse_0 rfl ?_
  refine aw_gfR hC dX8_doReverse_1 fg_RX8_76 rfl rfl rm_6_0_0 ?_
  refine aw_iconst hC dX8_doReverse_4 (v := 0) (by decide) ?_
  refine aw_dup2 hC dX8_doReverse_5 rfl rfl ?_
  refine aw_iald hC dX8_doReverse_6 rm_6_0_2 rfl rfl (by decide) (k := 0) (by decide) ?_
  refine aw_iconst hC dX8_doReverse_7 (v := 1) (by decide) ?_
  refine aw_iadd hC dX8_doReverse_8 ?_
  refine aw_iast hC dX8_doReverse_9 rm_6_0_2 rfl rfl (by decide) (k := 0) (by decide) (fun h1 => ?_)
  refine aw_aload_n hC dX8_doReverse_10 rfl ?_
  refine aw_gfR hC dX8_doReverse_11 fg_RX8_42 rfl rfl rm_6_0_0 ?_
  refine aw_cVi hC dX8_doReverse_14 cv_RX8_138 rfl rm_1_0_0 (A_X2_count _ (hC.2.2.2.2.2.2.2.2.2.2.2.2.1) _ _ _ 0 (by decide) h1) rfl rfl rfl rfl rfl ⟨rfl, rfl⟩ ?_
  refine aw_istore_n hC dX8_doReverse_17 (by decide) ?_
  refine aw_iconst hC dX8_doReverse_18 (v := 0) (by decide) ?_
  refine aw_istore_n hC dX8_doReverse_19 (by decide) ?_
  refine aw_sub [0, 1, 2] ?_
  exact L_X8_doReverse_20 (jX2_count 0 h1)  hC FU (0 : Int32) h1
set_option maxHeartbeats 4000000 in
set_option maxRecDepth 100000 in
theorem A_X8_reverse (l : Launch) (hl0 : l.stackTraces = false) (D : va_G) (loc : Rf → Nat) (cy : Nat → ClassId)  (h : HD) : AM l D loc cy yX8_reverse cX8_reverse 1 (some .int) 7 168 [.ref (loc (6, 0, 0))] h ((jX8_reverse h).map (fun r => (.inr (some (.int r.1)), r.2))) := by
  refine am_start (y := yX8_reverse) (av := [.ref (loc (6, 0, 0))]) (nL := 1) (h := h) (RF := fun (r : Option (Int32 × HD)) => r.map (fun r => (.inr (some (.int r.1)), r.2))) (x := jX8_reverse h) hl0 (by decide +kernel) rfl ?_
  intro p e R s m below meth c A hC
  unfold jX8_reverse
  refine aw_aload_n hC dX8_reverse_0 rfl ?_
  refine aw_bind rfl (fun q1 hq1 => ?_)
  refine aw_cVv hC dX8_reverse_1 cv_RX8_147 rfl rm_6_0_0 (am_some (inj := (fun r => (.inr (none), r))) hq1 (A_X8_note _ (hC.2.2.2.2.2.2.2.2.2.2.2.2.1) _ _ _ h)) rfl rfl rfl rfl rfl ⟨rfl, rfl⟩ ?_
  refine aw_aload_n hC dX8_reverse_4 rfl ?_
  refine aw_bind rfl (fun q2 hq2 => ?_)
  refine aw_cVb hC dX8_reverse_5 cv_RX8_464 rfl rm_6_0_0 (am_some (inj := (fun r => (.inr (some (.int (b2i r.1))), r.2))) hq2 (A_X8_doReverse _ (hC.2.2.2.2.2.2.2.2.2.2.2.2.1) _ _ _ q1)) rfl rfl rfl rfl rfl ⟨rfl, rfl⟩ ?_
  refine aw_pop hC dX8_reverse_8 rfl ?_
  refine aw_aload_n hC dX8_reverse_9 rfl ?_
  refine aw_bind rfl (fun q3 hq3 => ?_)
  refine aw_cVv hC dX8_reverse_10 cv_RX8_155 rfl rm_6_0_0 (am_some (inj := (fun r => (.inr (none), r))) hq3 (A_X8_keepNoted _ (hC.2.2.2.2.2.2.2.2.2.2.2.2.1) _ _ _ q2.2)) rfl rfl rfl rfl rfl ⟨rfl, rfl⟩ ?_
  refine aw_aload_n hC dX8_reverse_13 rfl ?_
  refine aw_bind rfl (fun q4 hq4 => ?_)
  refine aw_cVr hC dX8_reverse_14 cv_RX8_245 rfl rm_6_0_0 (am_some (inj := (fun r => (.inr (some (.ref (loc (2, 0, 0)))), r))) hq4 (A_X8_parked _ (hC.2.2.2.2.2.2.2.2.2.2.2.2.1) _ _ _ q3)) rfl rfl rfl rfl rfl ⟨rfl, rfl⟩ ?_
  refine aw_bind rfl (fun q5 hq5 => ?_)
  refine aw_cVi hC dX8_reverse_17 cv_RX8_317 rfl rm_2_0_0 (am_some (inj := (fun r => (.inr (some (.int r)), q4))) hq5 (A_X4_luckyCars _ (hC.2.2.2.2.2.2.2.2.2.2.2.2.1) _ _ _ 0 (by decide) q4)) rfl rfl rfl rfl rfl ⟨rfl, rfl⟩ ?_
  exact aw_iret hC dX8_reverse_20 rfl rfl
set_option maxHeartbeats 4000000 in
set_option maxRecDepth 100000 in
theorem A_X8_refusal (l : Launch) (hl0 : l.stackTraces = false) (D : va_G) (loc : Rf → Nat) (cy : Nat → ClassId)  (h : HD) : AM l D loc cy yX8_refusal cX8_refusal 1 (some .int) 0 16 [.ref (loc (6, 0, 0))] h (some (.inr (some (.int (jX8_refusal h))), h)) := by
  refine am_start (y := yX8_refusal) (av := [.ref (loc (6, 0, 0))]) (nL := 1) (h := h) (RF := fun (r : Int32) => some (.inr (some (.int r)), h)) (x := jX8_refusal h) hl0 (by decide +kernel) rfl ?_
  intro p e R s m below meth c A hC
  unfold jX8_refusal
  refine aw_aload_n hC dX8_refusal_0 rfl ?_
  refine aw_gfI hC dX8_refusal_1 fg_RX8_91 rfl rm_6_0_0 ?_
  exact aw_iret hC dX8_refusal_4 rfl rfl
set_option maxHeartbeats 4000000 in
set_option maxRecDepth 100000 in
theorem A_X8_account (l : Launch) (hl0 : l.stackTraces = false) (D : va_G) (loc : Rf → Nat) (cy : Nat → ClassId) (p1 : Int32) (h : HD) : AX l D loc cy yX8_account (Cond.code yX8_account cX8_account 2 (some .int) :: LW) 6 100 1 6 [.ref (loc (6, 0, 0)), .int p1] h ((jX8_account p1 h).map (fun r => (xi (fun v => some (.int v)) r, h))) := by
  refine ax_start (y := yX8_account) (av := [.ref (loc (6, 0, 0)), .int p1]) (nL := 2) (h := h) (RF := fun (r : Option (Nat ⊕ Int32)) => r.map (fun r => (xi (fun v => some (.int v)) r, h))) (x := jX8_account p1 h) hl0 (by decide +kernel) rfl ?_
  intro p e R s m below meth c A hxt hC
  unfold jX8_account
  refine aw_iload_n hC dX8_account_0 rfl ?_
  refine aw_if_lt hC dX8_account_1 (tgt := 9) (by decide) ?_ ?_
  · exact aw_throw1w (text := "there is no such account") (sid := 511) hC hxt dX8_account_9 dX8_account_12 dX8_account_13 dX8_account_16 dX8_account_19 tw4_48 tw1_13 (by decide +kernel) rfl rfl rfl rfl rfl rfl rfl
  · refine aw_iload_n hC dX8_account_4 rfl ?_
    refine aw_iconst hC dX8_account_5 (v := 5) (by decide) ?_
    refine aw_icmp_lt hC dX8_account_6 (tgt := 20) (by decide) ?_ ?_
    · refine aw_aload_n hC dX8_account_20 rfl ?_
      refine aw_gfR hC dX8_account_21 fg_RX8_76 rfl rfl rm_6_0_0 ?_
      refine aw_iload_n hC dX8_account_24 rfl ?_
      refine aw_guard rfl (fun g1 => ?_)
      refine aw_iald hC dX8_account_25 rm_6_0_2 rfl rfl g1 rfl ?_
      exact aw_ireX hC dX8_account_26 rfl rfl rfl rfl
    · exact aw_throw1w (text := "there is no such account") (sid := 511) hC hxt dX8_account_9 dX8_account_12 dX8_account_13 dX8_account_16 dX8_account_19 tw4_48 tw1_13 (by decide +kernel) rfl rfl rfl rfl rfl rfl rfl
set_option maxHeartbeats 4000000 in
set_option maxRecDepth 100000 in
theorem A_X8_undo (l : Launch) (hl0 : l.stackTraces = false) (D : va_G) (loc : Rf → Nat) (cy : Nat → ClassId)  (h : HD) : AM l D loc cy yX8_undo cX8_undo 1 (some .int) 2 85 [.ref (loc (6, 0, 0))] h ((jX8_undo h).map (fun r => (.inr (some (.int r.1)), r.2))) := by
  refine am_start (y := yX8_undo) (av := [.ref (loc (6, 0, 0))]) (nL := 1) (h := h) (RF := fun (r : Option (Int32 × HD)) => r.map (fun r => (.inr (some (.int r.1)), r.2))) (x := jX8_undo h) hl0 (by decide +kernel) rfl ?_
  intro p e R s m below meth c A hC
  unfold jX8_undo
  refine aw_aload_n hC dX8_undo_0 rfl ?_
  refine aw_gfI hC dX8_undo_1 fg_RX8_80 rfl rm_6_0_0 ?_
  refine aw_iconst hC dX8_undo_4 (v := 1) (by decide) ?_
  refine aw_icmp_lt hC dX8_undo_5 (tgt := 17) (by decide) ?_ ?_
  · refine aw_iconst hC dX8_undo_17 (v := -1) (by decide) ?_
    exact aw_iret hC dX8_undo_18 rfl rfl
  · refine aw_aload_n hC dX8_undo_8 rfl ?_
    refine aw_gfI hC dX8_undo_9 fg_RX8_80 rfl rm_6_0_0 ?_
    refine aw_bipush hC dX8_undo_12 (v := 6) (by decide) ?_
    refine aw_icmp_le hC dX8_undo_14 (tgt := 19) (by decide) ?_ ?_
    · refine aw_aload_n hC dX8_undo_19 rfl ?_
      refine aw_dup hC dX8_undo_20 rfl ?_
      refine aw_gfI hC dX8_undo_21 fg_RX8_80 rfl rm_6_0_0 ?_
      refine aw_iconst hC dX8_undo_24 (v := 1) (by decide) ?_
      refine aw_isub hC dX8_undo_25 ?_
      refine aw_pfI hC dX8_undo_26 fg_RX8_80 fp_6_13 rfl rm_6_0_0 (fun h1 => ?_)
      refine aw_aload_n hC dX8_undo_29 rfl ?_
      refine aw_gfR hC dX8_undo_30 fg_RX8_42 rfl rfl rm_6_0_0 ?_
      refine aw_aload_n hC dX8_undo_33 rfl ?_
      refine aw_gfR hC dX8_undo_34 fg_RX8_55 rfl rfl rm_6_0_0 ?_
      refine aw_aload_n hC dX8_undo_37 rfl ?_
      refine aw_gfI hC dX8_undo_38 fg_RX8_80 rfl rm_6_0_0 ?_
      refine aw_guard rfl (fun g3 => ?_)
      refine aw_kald hC dX8_undo_41 g3 rfl (fun f2 => ?_)
      refine aw_bind rfl (fun q4 hq4 => ?_)
      refine aw_cVv hC dX8_undo_42 cv_RX8_134 rfl rm_1_0_0 (am_some (inj := (fun r => (.inr (none), r))) hq4 (A_X2_copyFrom _ (hC.2.2.2.2.2.2.2.2.2.2.2.2.1) _ _ _ 0 (by decide) (gK h1 ((gI h1 (6, 0, 0) 13).toNatClampNeg)) f2 h1)) rfl rfl rfl rfl rfl ⟨rfl, rfl⟩ ?_
      refine aw_aload_n hC dX8_undo_45 rfl ?_
      refine aw_gfR hC dX8_undo_46 fg_RX8_76 rfl rfl rm_6_0_0 ?_
      refine aw_iconst hC dX8_undo_49 (v := 4) (by decide) ?_
      refine aw_dup2 hC dX8_undo_50 rfl rfl ?_
      refine aw_iald hC dX8_undo_51 rm_6_0_2 rfl rfl (by decide) (k := 4) (by decide) ?_
      refine aw_iconst hC dX8_undo_52 (v := 1) (by decide) ?_
      refine aw_iadd hC dX8_undo_53 ?_
      refine aw_iast hC dX8_undo_54 rm_6_0_2 rfl rfl (by decide) (k := 4) (by decide) (fun h5 => ?_)
      refine aw_aload_n hC dX8_undo_55 rfl ?_
      refine aw_gfI hC dX8_undo_56 fg_RX8_80 rfl rm_6_0_0 ?_
      exact aw_iret hC dX8_undo_59 rfl rfl
    · refine aw_iconst hC dX8_undo_17 (v := -1) (by decide) ?_
      exact aw_iret hC dX8_undo_18 rfl rfl
set_option maxHeartbeats 4000000 in
set_option maxRecDepth 100000 in
theorem L_X1_addName_2 (o : Nat) (ho : o < 2) (p1 : Int64) (hC : Cx p l e R s m args meth c D loc cy A cX1_addName 4 (none) RX1 1 38 0 0)  : ∀ (n2 : Nat) (x3 : Int32) (h : HD), AW p l e R s m args below meth c D loc cy A 4 (QM below D loc cy A args s) (fun (r : Option HD) => r.map (fun r => (.inr (none), r))) (0, 0) 2 [(0, .ref (loc (0, o, 0))), (1, .long p1), (3, .int x3)] [] h (jX1_addName_L2 o p1 n2 x3 h) := by
  intro n2
  induction n2 with
  | zero => intro x3 h; exact aw_none rfl
  | succ n2 ih2 =>
    intro x3 h
    rw [jX1_addName_L2]
    refine aw_iload_n hC dX1_addName_2 rfl ?_
    refine aw_bipush hC dX1_addName_3 (v := 8) (by decide) ?_
    refine aw_icmp_ge hC dX1_addName_5 (tgt := 34) (by decide) ?_ ?_
    · exact aw_vret hC dX1_addName_34 rfl rfl
    · refine aw_lload_n hC dX1_addName_8 rfl ?_
      refine aw_iload_n hC dX1_addName_9 rfl ?_
      refine aw_cNi hC dX1_addName_10 cv_RX1_23 (A_X8_letterOf _ (hC.2.2.2.2.2.2.2.2.2.2.2.2.1) _ _ _ p1 x3 h) rfl rfl rfl rfl rfl ⟨rfl, rfl⟩ ?_
      refine aw_if_le hC dX1_addName_13 (tgt := 34) (by decide) ?_ ?_
      · exact aw_vret hC dX1_addName_34 rfl rfl
      · refine aw_aload_n hC dX1_addName_16 rfl ?_
        refine aw_bipush hC dX1_addName_17 (v := 96) (by decide) ?_
        refine aw_lload_n hC dX1_addName_19 rfl ?_
        refine aw_iload_n hC dX1_addName_20 rfl ?_
        refine aw_cNi hC dX1_addName_21 cv_RX1_23 (A_X8_letterOf _ (hC.2.2.2.2.2.2.2.2.2.2.2.2.1) _ _ _ p1 x3 h) rfl rfl rfl rfl rfl ⟨rfl, rfl⟩ ?_
        refine aw_iadd hC dX1_addName_24 ?_
        refine aw_bind rfl (fun q1 hq1 => ?_)
        refine aw_cVv hC dX1_addName_25 cv_RX1_19 rfl (rv_0_0 ho) (am_some (inj := (fun r => (.inr (none), r))) hq1 (A_X1_add _ (hC.2.2.2.2.2.2.2.2.2.2.2.2.1) _ _ _ o ho ((96 : Int32) + (jX8_letterOf p1 x3 h)) h)) rfl rfl rfl rfl rfl ⟨rfl, rfl⟩ ?_
        refine aw_iinc hC dX1_addName_28 rfl (v := x3 + 1) (by first | rfl | decide) (by decide) ?_
        refine aw_goto hC dX1_addName_31 (tgt := 2) (by decide) ?_
        refine aw_sub [0, 1, 3] ?_
        exact ih2 (x3 + 1) q1
set_option maxHeartbeats 4000000 in
set_option maxRecDepth 100000 in
theorem A_X1_addName (l : Launch) (hl0 : l.stackTraces = false) (D : va_G) (loc : Rf → Nat) (cy : Nat → ClassId) (o : Nat) (ho : o < 2) (p1 : Int64) (h : HD) : AM l D loc cy yX1_addName cX1_addName 4 (none) 1 38 [.ref (loc (0, o, 0)), .long p1] h ((jX1_addName o p1 h).map (fun r => (.inr (none), r))) := by
  refine am_start (y := yX1_addName) (av := [.ref (loc (0, o, 0)), .long p1]) (nL := 4) (h := h) (RF := fun (r : Option HD) => r.map (fun r => (.inr (none), r))) (x := jX1_addName o p1 h) hl0 (by decide +kernel) rfl ?_
  intro p e R s m below meth c A hC
  unfold jX1_addName
  refine aw_iconst hC dX1_addName_0 (v := 0) (by decide) ?_
  refine aw_istore_n hC dX1_addName_1 (by decide) ?_
  refine aw_sub [0, 1, 3] ?_
  exact L_X1_addName_2 o ho p1  hC FU (0 : Int32) h
set_option maxHeartbeats 4000000 in
set_option maxRecDepth 100000 in
theorem L_X8_report_15 (k100 : HD → Option (Int32 × HD)) (hC : Cx p l e R s m args meth c D loc cy A cX8_report 4 (some .int) RX8 7 168 0 0) (hk100 : ∀  (h2 : HD), AW p l e R s m args below meth c D loc cy A 4 (QM below D loc cy A args s) (fun (r : Option (Int32 × HD)) => r.map (fun r => (.inr (some (.int r.1)), r.2))) (0, 0) 100 [(0, .ref (loc (6, 0, 0)))] [] h2 (k100  h2)) : ∀ (n15 : Nat) (x2 : Int32) (h : HD), AW p l e R s m args below meth c D loc cy A 4 (QM below D loc cy A args s) (fun (r : Option (Int32 × HD)) => r.map (fun r => (.inr (some (.int r.1)), r.2))) (0, 0) 15 [(0, .ref (loc (6, 0, 0))), (1, .ref (loc (2, 0, 0))), (2, .int x2)] [] h (jX8_report_L15 k100 n15 x2 h) := by
  intro n15
  induction n15 with
  | zero => intro x2 h; exact aw_none rfl
  | succ n15 ih15 =>
    intro x2 h
    rw [jX8_report_L15]
    refine aw_iload_n hC dX8_report_15 rfl ?_
    refine aw_aload_n hC dX8_report_16 rfl ?_
    refine aw_gfR hC dX8_report_17 fg_RX8_42 rfl rfl rm_6_0_0 ?_
    refine aw_cVi hC dX8_report_20 cv_RX8_305 rfl rm_1_0_0 (A_X2_spots _ (hC.2.2.2.2.2.2.2.2.2.2.2.2.1) _ _ _ 0 (by decide) h) rfl rfl rfl rfl rfl ⟨rfl, rfl⟩ ?_
    refine aw_icmp_ge hC dX8_report_23 (tgt := 100) (by decide) ?_ ?_
    · refine aw_sub [0] ?_
      exact hk100 h
    · refine aw_iload_n hC dX8_report_26 rfl ?_
      refine aw_if_le hC dX8_report_27 (tgt := 39) (by decide) ?_ ?_
      · refine aw_aload_n hC dX8_report_39 rfl ?_
        refine aw_iload_n hC dX8_report_40 rfl ?_
        refine aw_bind rfl (fun q3 hq3 => ?_)
        refine aw_cVi hC dX8_report_41 cv_RX8_273 rfl rm_2_0_0 (am_some (inj := (fun r => (.inr (some (.int r)), h))) hq3 (A_X4_takerOf _ (hC.2.2.2.2.2.2.2.2.2.2.2.2.1) _ _ _ 0 (by decide) x2 h)) rfl rfl rfl rfl rfl ⟨rfl, rfl⟩ ?_
        refine aw_istore_n hC dX8_report_44 (by decide) ?_
        refine aw_iload_n hC dX8_report_45 rfl ?_
        refine aw_iconst hC dX8_report_46 (v := -1) (by decide) ?_
        refine aw_icmp_ne hC dX8_report_47 (tgt := 62) (by decide) ?_ ?_
        · refine aw_aload_n hC dX8_report_62 rfl ?_
          refine aw_gfR hC dX8_report_63 fg_RX8_29 rfl rfl rm_6_0_0 ?_
          refine aw_aload_n hC dX8_report_66 rfl ?_
          refine aw_gfR hC dX8_report_67 fg_RX8_42 rfl rfl rm_6_0_0 ?_
          refine aw_iload_n hC dX8_report_70 rfl ?_
          refine aw_bind rfl (fun q4 hq4 => ?_)
          refine aw_cVj hC dX8_report_71 cv_RX8_237 rfl rm_1_0_0 (am_some (inj := (fun r => (.inr (some (.long r)), h))) hq4 (A_X2_nameOf _ (hC.2.2.2.2.2.2.2.2.2.2.2.2.1) _ _ _ 0 (by decide) q3 h)) rfl rfl rfl rfl rfl ⟨rfl, rfl⟩ ?_
          refine aw_bind rfl (fun q5 hq5 => ?_)
          refine aw_cVv hC dX8_report_74 cv_RX8_515 rfl rm_0_1_0 (am_some (inj := (fun r => (.inr (none), r))) hq5 (A_X1_addName _ (hC.2.2.2.2.2.2.2.2.2.2.2.2.1) _ _ _ 1 (by decide) q4 h)) rfl rfl rfl rfl rfl ⟨rfl, rfl⟩ ?_
          refine aw_aload_n hC dX8_report_77 rfl ?_
          refine aw_iload_n hC dX8_report_78 rfl ?_
          refine aw_bind rfl (fun q6 hq6 => ?_)
          refine aw_cVb hC dX8_report_79 cv_RX8_259 rfl rm_2_0_0 (am_some (inj := (fun r => (.inr (some (.int (b2i r))), q5))) hq6 (A_X4_isLucky _ (hC.2.2.2.2.2.2.2.2.2.2.2.2.1) _ _ _ 0 (by decide) q3 q5)) rfl rfl rfl rfl rfl ⟨rfl, rfl⟩ ?_
          refine aw_if_eq_b hC dX8_report_82 (tgt := 94) (by decide) ?_ ?_
          · refine aw_iinc hC dX8_report_94 rfl (v := x2 + 1) (by first | rfl | decide) (by decide) ?_
            refine aw_goto hC dX8_report_97 (tgt := 15) (by decide) ?_
            refine aw_sub [0, 1, 2] ?_
            exact ih15 (x2 + 1) q5
          · refine aw_aload_n hC dX8_report_85 rfl ?_
            refine aw_gfR hC dX8_report_86 fg_RX8_29 rfl rfl rm_6_0_0 ?_
            refine aw_bipush hC dX8_report_89 (v := 33) (by decide) ?_
            refine aw_bind rfl (fun q7 hq7 => ?_)
            refine aw_cVv hC dX8_report_91 cv_RX8_513 rfl rm_0_1_0 (am_some (inj := (fun r => (.inr (none), r))) hq7 (A_X1_add _ (hC.2.2.2.2.2.2.2.2.2.2.2.2.1) _ _ _ 1 (by decide) (33 : Int32) q5)) rfl rfl rfl rfl rfl ⟨rfl, rfl⟩ ?_
            refine aw_iinc hC dX8_report_94 rfl (v := x2 + 1) (by first | rfl | decide) (by decide) ?_
            refine aw_goto hC dX8_report_97 (tgt := 15) (by decide) ?_
            refine aw_sub [0, 1, 2] ?_
            exact ih15 (x2 + 1) q7
        · refine aw_aload_n hC dX8_report_50 rfl ?_
          refine aw_gfR hC dX8_report_51 fg_RX8_29 rfl rfl rm_6_0_0 ?_
          refine aw_bipush hC dX8_report_54 (v := 46) (by decide) ?_
          refine aw_bind rfl (fun q8 hq8 => ?_)
          refine aw_cVv hC dX8_report_56 cv_RX8_513 rfl rm_0_1_0 (am_some (inj := (fun r => (.inr (none), r))) hq8 (A_X1_add _ (hC.2.2.2.2.2.2.2.2.2.2.2.2.1) _ _ _ 1 (by decide) (46 : Int32) h)) rfl rfl rfl rfl rfl ⟨rfl, rfl⟩ ?_
          refine aw_goto hC dX8_report_59 (tgt := 94) (by decide) ?_
          refine aw_iinc hC dX8_report_94 rfl (v := x2 + 1) (by first | rfl | decide) (by decide) ?_
          refine aw_goto hC dX8_report_97 (tgt := 15) (by decide) ?_
          refine aw_sub [0, 1, 2] ?_
          exact ih15 (x2 + 1) q8
      · refine aw_aload_n hC dX8_report_30 rfl ?_
        refine aw_gfR hC dX8_report_31 fg_RX8_29 rfl rfl rm_6_0_0 ?_
        refine aw_bipush hC dX8_report_34 (v := 32) (by decide) ?_
        refine aw_bind rfl (fun q9 hq9 => ?_)
        refine aw_cVv hC dX8_report_36 cv_RX8_513 rfl rm_0_1_0 (am_some (inj := (fun r => (.inr (none), r))) hq9 (A_X1_add _ (hC.2.2.2.2.2.2.2.2.2.2.2.2.1) _ _ _ 1 (by decide) (32 : Int32) h)) rfl rfl rfl rfl rfl ⟨rfl, rfl⟩ ?_
        refine aw_aload_n hC dX8_report_39 rfl ?_
        refine aw_iload_n hC dX8_report_40 rfl ?_
        refine aw_bind rfl (fun q10 hq10 => ?_)
        refine aw_cVi hC dX8_report_41 cv_RX8_273 rfl rm_2_0_0 (am_some (inj := (fun r => (.inr (some (.int r)), q9))) hq10 (A_X4_takerOf _ (hC.2.2.2.2.2.2.2.2.2.2.2.2.1) _ _ _ 0 (by decide) x2 q9)) rfl rfl rfl rfl rfl ⟨rfl, rfl⟩ ?_
        refine aw_istore_n hC dX8_report_44 (by decide) ?_
        refine aw_iload_n hC dX8_report_45 rfl ?_
        refine aw_iconst hC dX8_report_46 (v := -1) (by decide) ?_
        refine aw_icmp_ne hC dX8_report_47 (tgt := 62) (by decide) ?_ ?_
        · refine aw_aload_n hC dX8_report_62 rfl ?_
          refine aw_gfR hC dX8_report_63 fg_RX8_29 rfl rfl rm_6_0_0 ?_
          refine aw_aload_n hC dX8_report_66 rfl ?_
          refine aw_gfR hC dX8_report_67 fg_RX8_42 rfl rfl rm_6_0_0 ?_
          refine aw_iload_n hC dX8_report_70 rfl ?_
          refine aw_bind rfl (fun q11 hq11 => ?_)
          refine aw_cVj hC dX8_report_71 cv_RX8_237 rfl rm_1_0_0 (am_some (inj := (fun r => (.inr (some (.long r)), q9))) hq11 (A_X2_nameOf _ (hC.2.2.2.2.2.2.2.2.2.2.2.2.1) _ _ _ 0 (by decide) q10 q9)) rfl rfl rfl rfl rfl ⟨rfl, rfl⟩ ?_
          refine aw_bind rfl (fun q12 hq12 => ?_)
          refine aw_cVv hC dX8_report_74 cv_RX8_515 rfl rm_0_1_0 (am_some (inj := (fun r => (.inr (none), r))) hq12 (A_X1_addName _ (hC.2.2.2.2.2.2.2.2.2.2.2.2.1) _ _ _ 1 (by decide) q11 q9)) rfl rfl rfl rfl rfl ⟨rfl, rfl⟩ ?_
          refine aw_aload_n hC dX8_report_77 rfl ?_
          refine aw_iload_n hC dX8_report_78 rfl ?_
          refine aw_bind rfl (fun q13 hq13 => ?_)
          refine aw_cVb hC dX8_report_79 cv_RX8_259 rfl rm_2_0_0 (am_some (inj := (fun r => (.inr (some (.int (b2i r))), q12))) hq13 (A_X4_isLucky _ (hC.2.2.2.2.2.2.2.2.2.2.2.2.1) _ _ _ 0 (by decide) q10 q12)) rfl rfl rfl rfl rfl ⟨rfl, rfl⟩ ?_
          refine aw_if_eq_b hC dX8_report_82 (tgt := 94) (by decide) ?_ ?_
          · refine aw_iinc hC dX8_report_94 rfl (v := x2 + 1) (by first | rfl | decide) (by decide) ?_
            refine aw_goto hC dX8_report_97 (tgt := 15) (by decide) ?_
            refine aw_sub [0, 1, 2] ?_
            exact ih15 (x2 + 1) q12
          · refine aw_aload_n hC dX8_report_85 rfl ?_
            refine aw_gfR hC dX8_report_86 fg_RX8_29 rfl rfl rm_6_0_0 ?_
            refine aw_bipush hC dX8_report_89 (v := 33) (by decide) ?_
            refine aw_bind rfl (fun q14 hq14 => ?_)
            refine aw_cVv hC dX8_report_91 cv_RX8_513 rfl rm_0_1_0 (am_some (inj := (fun r => (.inr (none), r))) hq14 (A_X1_add _ (hC.2.2.2.2.2.2.2.2.2.2.2.2.1) _ _ _ 1 (by decide) (33 : Int32) q12)) rfl rfl rfl rfl rfl ⟨rfl, rfl⟩ ?_
            refine aw_iinc hC dX8_report_94 rfl (v := x2 + 1) (by first | rfl | decide) (by decide) ?_
            refine aw_goto hC dX8_report_97 (tgt := 15) (by decide) ?_
            refine aw_sub [0, 1, 2] ?_
            exact ih15 (x2 + 1) q14
        · refine aw_aload_n hC dX8_report_50 rfl ?_
          refine aw_gfR hC dX8_report_51 fg_RX8_29 rfl rfl rm_6_0_0 ?_
          refine aw_bipush hC dX8_report_54 (v := 46) (by decide) ?_
          refine aw_bind rfl (fun q15 hq15 => ?_)
          refine aw_cVv hC dX8_report_56 cv_RX8_513 rfl rm_0_1_0 (am_some (inj := (fun r => (.inr (none), r))) hq15 (A_X1_add _ (hC.2.2.2.2.2.2.2.2.2.2.2.2.1) _ _ _ 1 (by decide) (46 : Int32) q9)) rfl rfl rfl rfl rfl ⟨rfl, rfl⟩ ?_
          refine aw_goto hC dX8_report_59 (tgt := 94) (by decide) ?_
          refine aw_iinc hC dX8_report_94 rfl (v := x2 + 1) (by first | rfl | decide) (by decide) ?_
          refine aw_goto hC dX8_report_97 (tgt := 15) (by decide) ?_
          refine aw_sub [0, 1, 2] ?_
          exact ih15 (x2 + 1) q15
set_option maxHeartbeats 4000000 in
set_option maxRecDepth 100000 in
theorem A_X8_report (l : Launch) (hl0 : l.stackTraces = false) (D : va_G) (loc : Rf → Nat) (cy : Nat → ClassId)  (h : HD) : AM l D loc cy yX8_report cX8_report 4 (some .int) 7 168 [.ref (loc (6, 0, 0))] h ((jX8_report h).map (fun r => (.inr (some (.int r.1)), r.2))) := by
  refine am_start (y := yX8_report) (av := [.ref (loc (6, 0, 0))]) (nL := 4) (h := h) (RF := fun (r : Option (Int32 × HD)) => r.map (fun r => (.inr (some (.int r.1)), r.2))) (x := jX8_report h) hl0 (by decide +kernel) rfl ?_
  intro p e R s m below meth c A hC
  unfold jX8_report
  refine aw_aload_n hC dX8_report_0 rfl ?_
  refine aw_bind rfl (fun q1 hq1 => ?_)
  refine aw_cVr hC dX8_report_1 cv_RX8_245 rfl rm_6_0_0 (am_some (inj := (fun r => (.inr (some (.ref (loc (2, 0, 0)))), r))) hq1 (A_X8_parked _ (hC.2.2.2.2.2.2.2.2.2.2.2.2.1) _ _ _ h)) rfl rfl rfl rfl rfl ⟨rfl, rfl⟩ ?_
  refine aw_astore_n hC dX8_report_4 (by decide) ?_
  refine aw_aload_n hC dX8_report_5 rfl ?_
  refine aw_gfR hC dX8_report_6 fg_RX8_29 rfl rfl rm_6_0_0 ?_
  refine aw_iconst hC dX8_report_9 (v := 0) (by decide) ?_
  refine aw_bind rfl (fun q2 hq2 => ?_)
  refine aw_cVv hC dX8_report_10 cv_RX8_119 rfl rm_0_1_0 (am_some (inj := (fun r => (.inr (none), r))) hq2 (A_X1_shorten _ (hC.2.2.2.2.2.2.2.2.2.2.2.2.1) _ _ _ 1 (by decide) (0 : Int32) q1)) rfl rfl rfl rfl rfl ⟨rfl, rfl⟩ ?_
  refine aw_iconst hC dX8_report_13 (v := 0) (by decide) ?_
  refine aw_istore_n hC dX8_report_14 (by decide) ?_
  refine aw_sub [0, 1, 2] ?_
  refine L_X8_report_15  _ hC ?_ FU (0 : Int32) q2
  · intro h16
    refine aw_aload_n hC dX8_report_100 rfl ?_
    refine aw_gfR hC dX8_report_101 fg_RX8_29 rfl rfl rm_6_0_0 ?_
    refine aw_bipush hC dX8_report_104 (v := 10) (by decide) ?_
    refine aw_bind rfl (fun q17 hq17 => ?_)
    refine aw_cVv hC dX8_report_106 cv_RX8_513 rfl rm_0_1_0 (am_some (inj := (fun r => (.inr (none), r))) hq17 (A_X1_add _ (hC.2.2.2.2.2.2.2.2.2.2.2.2.1) _ _ _ 1 (by decide) (10 : Int32) h16)) rfl rfl rfl rfl rfl ⟨rfl, rfl⟩ ?_
    refine aw_aload_n hC dX8_report_109 rfl ?_
    refine aw_gfR hC dX8_report_110 fg_RX8_29 rfl rfl rm_6_0_0 ?_
    refine aw_cVi hC dX8_report_113 cv_RX8_100 rfl rm_0_1_0 (A_X1_length _ (hC.2.2.2.2.2.2.2.2.2.2.2.2.1) _ _ _ 1 (by decide) q17) rfl rfl rfl rfl rfl ⟨rfl, rfl⟩ ?_
    exact aw_iret hC dX8_report_116 rfl rfl
set_option maxHeartbeats 4000000 in
set_option maxRecDepth 100000 in
theorem A_X8_reportByte (l : Launch) (hl0 : l.stackTraces = false) (D : va_G) (loc : Rf → Nat) (cy : Nat → ClassId) (p1 : Int32) (h : HD) : AX l D loc cy yX8_reportByte (Cond.code yX8_reportByte cX8_reportByte 2 (some .int) :: LW) 6 100 1 6 [.ref (loc (6, 0, 0)), .int p1] h ((jX8_reportByte p1 h).map (fun r => (xi (fun v => some (.int v)) r, h))) := by
  refine ax_start (y := yX8_reportByte) (av := [.ref (loc (6, 0, 0)), .int p1]) (nL := 2) (h := h) (RF := fun (r : Option (Nat ⊕ Int32)) => r.map (fun r => (xi (fun v => some (.int v)) r, h))) (x := jX8_reportByte p1 h) hl0 (by decide +kernel) rfl ?_
  intro p e R s m below meth c A hxt hC
  unfold jX8_reportByte
  refine aw_iload_n hC dX8_reportByte_0 rfl ?_
  refine aw_if_lt hC dX8_reportByte_1 (tgt := 15) (by decide) ?_ ?_
  · exact aw_throw2w (text := "the report has no such byte") (sid := 519) hC hxt dX8_reportByte_15 dX8_reportByte_18 dX8_reportByte_19 dX8_reportByte_22 dX8_reportByte_25 tw5_192 tw1_24 (by decide +kernel) rfl rfl rfl rfl rfl rfl rfl
  · refine aw_iload_n hC dX8_reportByte_4 rfl ?_
    refine aw_aload_n hC dX8_reportByte_5 rfl ?_
    refine aw_gfR hC dX8_reportByte_6 fg_RX8_29 rfl rfl rm_6_0_0 ?_
    refine aw_cVi hC dX8_reportByte_9 cv_RX8_100 rfl rm_0_1_0 (A_X1_length _ (hC.2.2.2.2.2.2.2.2.2.2.2.2.1) _ _ _ 1 (by decide) h) rfl rfl rfl rfl rfl ⟨rfl, rfl⟩ ?_
    refine aw_icmp_lt hC dX8_reportByte_12 (tgt := 26) (by decide) ?_ ?_
    · refine aw_aload_n hC dX8_reportByte_26 rfl ?_
      refine aw_gfR hC dX8_reportByte_27 fg_RX8_29 rfl rfl rm_6_0_0 ?_
      refine aw_iload_n hC dX8_reportByte_30 rfl ?_
      refine aw_bind rfl (fun q1 hq1 => ?_)
      refine aw_cVi hC dX8_reportByte_31 cv_RX8_521 rfl rm_0_1_0 (am_some (inj := (fun r => (.inr (some (.int r)), h))) hq1 (A_X1_at _ (hC.2.2.2.2.2.2.2.2.2.2.2.2.1) _ _ _ 1 (by decide) p1 h)) rfl rfl rfl rfl rfl ⟨rfl, rfl⟩ ?_
      exact aw_ireX hC dX8_reportByte_34 rfl rfl rfl rfl
    · exact aw_throw2w (text := "the report has no such byte") (sid := 519) hC hxt dX8_reportByte_15 dX8_reportByte_18 dX8_reportByte_19 dX8_reportByte_22 dX8_reportByte_25 tw5_192 tw1_24 (by decide +kernel) rfl rfl rfl rfl rfl rfl rfl
set_option maxHeartbeats 4000000 in
set_option maxRecDepth 100000 in
theorem A_X8_save (l : Launch) (hl0 : l.stackTraces = false) (D : va_G) (loc : Rf → Nat) (cy : Nat → ClassId)  (h : HD) : AM l D loc cy yX8_save cX8_save 1 (some .int) 2 85 [.ref (loc (6, 0, 0))] h ((jX8_save h).map (fun r => (.inr (some (.int r.1)), r.2))) := by
  refine am_start (y := yX8_save) (av := [.ref (loc (6, 0, 0))]) (nL := 1) (h := h) (RF := fun (r : Option (Int32 × HD)) => r.map (fun r => (.inr (some (.int r.1)), r.2))) (x := jX8_save h) hl0 (by decide +kernel) rfl ?_
  intro p e R s m below meth c A hC
  unfold jX8_save
  refine aw_aload_n hC dX8_save_0 rfl ?_
  refine aw_gfR hC dX8_save_1 fg_RX8_49 rfl rfl rm_6_0_0 ?_
  refine aw_aload_n hC dX8_save_4 rfl ?_
  refine aw_gfR hC dX8_save_5 fg_RX8_42 rfl rfl rm_6_0_0 ?_
  refine aw_bind rfl (fun q1 hq1 => ?_)
  refine aw_cVv hC dX8_save_8 cv_RX8_134 rfl rm_1_2_0 (am_some (inj := (fun r => (.inr (none), r))) hq1 (A_X2_copyFrom _ (hC.2.2.2.2.2.2.2.2.2.2.2.2.1) _ _ _ 2 (by decide) 0 (by decide) h)) rfl rfl rfl rfl rfl ⟨rfl, rfl⟩ ?_
  refine aw_aload_n hC dX8_save_11 rfl ?_
  refine aw_iconst hC dX8_save_12 (v := 1) (by decide) ?_
  refine aw_pfZ hC dX8_save_13 fg_RX8_84 fp_6_14 rfl rm_6_0_0 (show _ = b2i true from rfl) (fun h2 => ?_)
  refine aw_aload_n hC dX8_save_16 rfl ?_
  refine aw_gfR hC dX8_save_17 fg_RX8_42 rfl rfl rm_6_0_0 ?_
  refine aw_cVi hC dX8_save_20 cv_RX8_138 rfl rm_1_0_0 (A_X2_count _ (hC.2.2.2.2.2.2.2.2.2.2.2.2.1) _ _ _ 0 (by decide) h2) rfl rfl rfl rfl rfl ⟨rfl, rfl⟩ ?_
  exact aw_iret hC dX8_save_23 rfl rfl
set_option maxHeartbeats 4000000 in
set_option maxRecDepth 100000 in
theorem A_X8_restore (l : Launch) (hl0 : l.stackTraces = false) (D : va_G) (loc : Rf → Nat) (cy : Nat → ClassId)  (h : HD) : AX l D loc cy yX8_restore (Cond.code yX8_restore cX8_restore 1 (some .int) :: LW) 6 100 1 6 [.ref (loc (6, 0, 0))] h ((jX8_restore h).map (fun r => (xi (fun v => some (.int v)) r.1, r.2))) := by
  refine ax_start (y := yX8_restore) (av := [.ref (loc (6, 0, 0))]) (nL := 1) (h := h) (RF := fun (r : Option ((Nat ⊕ Int32) × HD)) => r.map (fun r => (xi (fun v => some (.int v)) r.1, r.2))) (x := jX8_restore h) hl0 (by decide +kernel) rfl ?_
  intro p e R s m below meth c A hxt hC
  unfold jX8_restore
  refine aw_aload_n hC dX8_restore_0 rfl ?_
  refine aw_gfI hC dX8_restore_1 fg_RX8_84 rfl rm_6_0_0 ?_
  refine aw_if_ne hC dX8_restore_4 (tgt := 18) (by decide) ?_ ?_
  · refine aw_aload_n hC dX8_restore_18 rfl ?_
    refine aw_gfR hC dX8_restore_19 fg_RX8_42 rfl rfl rm_6_0_0 ?_
    refine aw_aload_n hC dX8_restore_22 rfl ?_
    refine aw_gfR hC dX8_restore_23 fg_RX8_49 rfl rfl rm_6_0_0 ?_
    refine aw_bind rfl (fun q1 hq1 => ?_)
    refine aw_cVv hC dX8_restore_26 cv_RX8_134 rfl rm_1_0_0 (am_some (inj := (fun r => (.inr (none), r))) hq1 (A_X2_copyFrom _ (hC.2.2.2.2.2.2.2.2.2.2.2.2.1) _ _ _ 0 (by decide) 2 (by decide) h)) rfl rfl rfl rfl rfl ⟨rfl, rfl⟩ ?_
    refine aw_aload_n hC dX8_restore_29 rfl ?_
    refine aw_iconst hC dX8_restore_30 (v := 0) (by decide) ?_
    refine aw_pfI hC dX8_restore_31 fg_RX8_80 fp_6_13 rfl rm_6_0_0 (fun h2 => ?_)
    refine aw_aload_n hC dX8_restore_34 rfl ?_
    refine aw_gfR hC dX8_restore_35 fg_RX8_42 rfl rfl rm_6_0_0 ?_
    refine aw_cVi hC dX8_restore_38 cv_RX8_138 rfl rm_1_0_0 (A_X2_count _ (hC.2.2.2.2.2.2.2.2.2.2.2.2.1) _ _ _ 0 (by decide) h2) rfl rfl rfl rfl rfl ⟨rfl, rfl⟩ ?_
    exact aw_ireX hC dX8_restore_41 rfl rfl rfl rfl
  · exact aw_throw0w (text := "nothing was saved") (sid := 524) hC hxt dX8_restore_7 dX8_restore_10 dX8_restore_11 dX8_restore_14 dX8_restore_17 tw3_209 tw1_12 (by decide +kernel) rfl rfl rfl rfl rfl rfl rfl
set_option maxHeartbeats 4000000 in
set_option maxRecDepth 100000 in
theorem A_X9_thrown (l : Launch) (hl0 : l.stackTraces = false) (D : va_G) (loc : Rf → Nat) (cy : Nat → ClassId)  (h : HD) : AM l D loc cy yX9_thrown cX9_thrown 1 (some .int) 0 16 [.ref (loc (7, 0, 0))] h (some (.inr (some (.int (jX9_thrown h))), h)) := by
  refine am_start (y := yX9_thrown) (av := [.ref (loc (7, 0, 0))]) (nL := 1) (h := h) (RF := fun (r : Int32) => some (.inr (some (.int r)), h)) (x := jX9_thrown h) hl0 (by decide +kernel) rfl ?_
  intro p e R s m below meth c A hC
  unfold jX9_thrown
  refine aw_aload_n hC dX9_thrown_0 rfl ?_
  refine aw_gfI hC dX9_thrown_1 fg_RX9_112 rfl rm_7_0_0 ?_
  exact aw_iret hC dX9_thrown_4 rfl rfl
set_option maxHeartbeats 4000000 in
set_option maxRecDepth 100000 in
theorem A_X9_isIn (l : Launch) (hl0 : l.stackTraces = false) (D : va_G) (loc : Rf → Nat) (cy : Nat → ClassId) (p1 : Int64) (p2 : Int64) (p3 : Int64) (h : HD) : AM l D loc cy yX9_isIn cX9_isIn 6 (some .boolean) 0 16 [.long p1, .long p2, .long p3] h (some (.inr (some (.int (b2i (jX9_isIn p1 p2 p3 h)))), h)) := by
  refine am_start (y := yX9_isIn) (av := [.long p1, .long p2, .long p3]) (nL := 6) (h := h) (RF := fun (r : Bool) => some (.inr (some (.int (b2i r))), h)) (x := jX9_isIn p1 p2 p3 h) hl0 (by decide +kernel) rfl ?_
  intro p e R s m below meth c A hC
  unfold jX9_isIn
  refine aw_lload_n hC dX9_isIn_0 rfl ?_
  refine aw_lload_n hC dX9_isIn_1 rfl ?_
  refine aw_lcmp hC dX9_isIn_2 ?_
  refine aw_if_lt hC dX9_isIn_3 (tgt := 17) (by decide) ?_ ?_
  · refine aw_iconst hC dX9_isIn_17 (v := 0) (by decide) ?_
    exact aw_zret hC dX9_isIn_18 rfl (show _ = b2i false from rfl) rfl
  · refine aw_lload_n hC dX9_isIn_6 rfl ?_
    refine aw_lload hC dX9_isIn_7 rfl ?_
    refine aw_lcmp hC dX9_isIn_9 ?_
    refine aw_if_gt hC dX9_isIn_10 (tgt := 17) (by decide) ?_ ?_
    · refine aw_iconst hC dX9_isIn_17 (v := 0) (by decide) ?_
      exact aw_zret hC dX9_isIn_18 rfl (show _ = b2i false from rfl) rfl
    · refine aw_iconst hC dX9_isIn_13 (v := 1) (by decide) ?_
      refine aw_goto hC dX9_isIn_14 (tgt := 18) (by decide) ?_
      exact aw_zret hC dX9_isIn_18 rfl (show _ = b2i true from rfl) rfl
set_option maxHeartbeats 4000000 in
set_option maxRecDepth 100000 in
theorem A_X9_truth (l : Launch) (hl0 : l.stackTraces = false) (D : va_G) (loc : Rf → Nat) (cy : Nat → ClassId) (p1 : Bool) (h : HD) : AM l D loc cy yX9_truth cX9_truth 1 (some .int) 0 16 [.int (b2i p1)] h (some (.inr (some (.int (jX9_truth p1 h))), h)) := by
  refine am_start (y := yX9_truth) (av := [.int (b2i p1)]) (nL := 1) (h := h) (RF := fun (r : Int32) => some (.inr (some (.int r)), h)) (x := jX9_truth p1 h) hl0 (by decide +kernel) rfl ?_
  intro p e R s m below meth c A hC
  unfold jX9_truth
  refine aw_iload_n hC dX9_truth_0 rfl ?_
  refine aw_if_eq_b hC dX9_truth_1 (tgt := 8) (by decide) ?_ ?_
  · refine aw_iconst hC dX9_truth_8 (v := 0) (by decide) ?_
    exact aw_iret hC dX9_truth_9 rfl rfl
  · refine aw_iconst hC dX9_truth_4 (v := 1) (by decide) ?_
    refine aw_goto hC dX9_truth_5 (tgt := 9) (by decide) ?_
    exact aw_iret hC dX9_truth_9 rfl rfl
set_option maxHeartbeats 4000000 in
set_option maxRecDepth 100000 in
theorem A_X9_goes (l : Launch) (hl0 : l.stackTraces = false) (D : va_G) (loc : Rf → Nat) (cy : Nat → ClassId) (p1 : Bool) (h : HD) : AM l D loc cy yX9_goes cX9_goes 2 (some .boolean) 1 36 [.ref (loc (7, 0, 0)), .int (b2i p1)] h ((jX9_goes p1 h).map (fun r => (.inr (some (.int (b2i r.1))), r.2))) := by
  refine am_start (y := yX9_goes) (av := [.ref (loc (7, 0, 0)), .int (b2i p1)]) (nL := 2) (h := h) (RF := fun (r : Option (Bool × HD)) => r.map (fun r => (.inr (some (.int (b2i r.1))), r.2))) (x := jX9_goes p1 h) hl0 (by decide +kernel) rfl ?_
  intro p e R s m below meth c A hC
  unfold jX9_goes
  refine aw_aload_n hC dX9_goes_0 rfl ?_
  refine aw_iload_n hC dX9_goes_1 rfl ?_
  refine aw_if_ne_b hC dX9_goes_2 (tgt := 9) (by decide) ?_ ?_
  · refine aw_iconst hC dX9_goes_9 (v := 0) (by decide) ?_
    refine aw_cSi hC dX9_goes_10 cv_RX9_115 (A_X9_truth _ (hC.2.2.2.2.2.2.2.2.2.2.2.2.1) _ _ _ false h) rfl rfl rfl rfl rfl ⟨rfl, rfl⟩ ?_
    refine aw_pfI hC dX9_goes_13 fg_RX9_112 fp_7_0 rfl rm_7_0_0 (fun h1 => ?_)
    refine aw_iload_n hC dX9_goes_16 rfl ?_
    exact aw_zret hC dX9_goes_17 rfl (show _ = b2i p1 from rfl) rfl
  · refine aw_iconst hC dX9_goes_5 (v := 1) (by decide) ?_
    refine aw_goto hC dX9_goes_6 (tgt := 10) (by decide) ?_
    refine aw_cSi hC dX9_goes_10 cv_RX9_115 (A_X9_truth _ (hC.2.2.2.2.2.2.2.2.2.2.2.2.1) _ _ _ true h) rfl rfl rfl rfl rfl ⟨rfl, rfl⟩ ?_
    refine aw_pfI hC dX9_goes_13 fg_RX9_112 fp_7_0 rfl rm_7_0_0 (fun h2 => ?_)
    refine aw_iload_n hC dX9_goes_16 rfl ?_
    exact aw_zret hC dX9_goes_17 rfl (show _ = b2i p1 from rfl) rfl
end PRF
