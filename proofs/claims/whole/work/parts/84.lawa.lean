theorem A_L_feed (l : Launch) (hl0 : l.stackTraces = false) (D : va_G) (loc : Rf → Nat) (cy : Nat → ClassId) (p1 : Int32) (p2 : Int32) (p3 : Int32) (p4 : Int32) (p5 : Int32) (h : HD) {rr : RR} {k : Int32} {h2 : HD} (hA : AX l D loc cy yX8_feed (Cond.code yX8_feed cX8_feed 6 (some .int) :: LW) 6 100 1 6 [.ref (loc (6, 0, 0)), .int p1, .int p2, .int p3, .int p4, .int p5] h (some rr)) (hq : LQ [0] rr k h2) : AL l D loc cy yL_feed cL_feed 8 [(0, 16, 19, 13)] 7 125 1 6 [.ref (loc (6, 0, 0)), .int p1, .int p2, .int p3, .int p4, .int p5, .ref (loc (8, 0, 1))] h (some (.inr (some (.int k)), h2)) := by
  refine al_start (y := yL_feed) (av := [.ref (loc (6, 0, 0)), .int p1, .int p2, .int p3, .int p4, .int p5, .ref (loc (8, 0, 1))]) (nL := 8) (h := h) (RF := fun (x : Option RR) => x) (x := some (.inr (some (.int k)), h2)) hl0 (by decide +kernel) rfl ?_
  intro p e R s m below meth c A htab hC
  refine aw_aload hC dL_feed_0 rfl ?_
  refine aw_iconst hC dL_feed_2 (v := 0) (by decide) ?_
  refine aw_aload_n hC dL_feed_3 rfl ?_
  refine aw_iload_n hC dL_feed_4 rfl ?_
  refine aw_iload_n hC dL_feed_5 rfl ?_
  refine aw_iload_n hC dL_feed_6 rfl ?_
  refine aw_iload hC dL_feed_7 rfl ?_
  refine aw_iload hC dL_feed_9 rfl ?_
  refine aw_callC (n := 5) (h := h) (mc2 := 1) (ms2 := 6) hC htab dL_feed_11 cv_RL_7 rfl rm_6_0_0 hA rfl rfl rfl rfl rfl ⟨rfl, rfl⟩ (fun e1 he => ?_) (fun rv hrv => ?_)
  · rcases hq with ⟨v, e2, -, -⟩ | ⟨i, e0, e2, hi, rfl, rfl⟩
    · rw [he] at e2; cases e2
    · rw [he] at e2
      cases e2
      obtain ⟨rfl, rfl⟩ := ix1 hi
      refine ⟨19, ⟨[], ⟨0, 16, 19, 13⟩, [], rfl, (fun z hz => by cases hz), by decide, by decide, tw3_204, by decide +kernel, rfl⟩, fun q => ?_⟩
      refine aw_astore hC dL_feed_19 (by decide) ?_
      refine aw_iconst hC dL_feed_21 (v := 1) (by decide) ?_
      exact aw_irL hC dL_feed_22 rfl rfl rfl rfl
  · rcases hq with ⟨v, e2, rfl, rfl⟩ | ⟨i, e0, e2, -, -, -⟩
    · rw [hrv] at e2
      cases e2
      refine aw_i2l hC dL_feed_14 ?_
      refine aw_last (r := (8, 0, 1)) (n := 1) (k := 0) (F := wF) hC dL_feed_15 (by decide +kernel) rfl rfl rfl rfl (fun h2 => ?_)
      refine aw_goto hC dL_feed_16 (tgt := 23) (by decide) ?_
      refine aw_iconst hC dL_feed_23 (v := 0) (by decide) ?_
      exact aw_irL hC dL_feed_24 rfl rfl rfl rfl
    · rw [hrv] at e2; cases e2
theorem A_L_truncate (l : Launch) (hl0 : l.stackTraces = false) (D : va_G) (loc : Rf → Nat) (cy : Nat → ClassId) (p1 : Int32) (h : HD) {rr : RR} {k : Int32} {h2 : HD} (hA : AX l D loc cy yX8_truncate (Cond.code yX8_truncate cX8_truncate 2 (some .int) :: LW) 6 100 1 6 [.ref (loc (6, 0, 0)), .int p1] h (some rr)) (hq : LQ [1] rr k h2) : AL l D loc cy yL_truncate cL_truncate 4 [(0, 9, 12, 19)] 7 121 1 6 [.ref (loc (6, 0, 0)), .int p1, .ref (loc (8, 0, 1))] h (some (.inr (some (.int k)), h2)) := by
  refine al_start (y := yL_truncate) (av := [.ref (loc (6, 0, 0)), .int p1, .ref (loc (8, 0, 1))]) (nL := 4) (h := h) (RF := fun (x : Option RR) => x) (x := some (.inr (some (.int k)), h2)) hl0 (by decide +kernel) rfl ?_
  intro p e R s m below meth c A htab hC
  refine aw_aload_n hC dL_truncate_0 rfl ?_
  refine aw_iconst hC dL_truncate_1 (v := 0) (by decide) ?_
  refine aw_aload_n hC dL_truncate_2 rfl ?_
  refine aw_iload_n hC dL_truncate_3 rfl ?_
  refine aw_callC (n := 1) (h := h) (mc2 := 1) (ms2 := 6) hC htab dL_truncate_4 cv_RL_15 rfl rm_6_0_0 hA rfl rfl rfl rfl rfl ⟨rfl, rfl⟩ (fun e1 he => ?_) (fun rv hrv => ?_)
  · rcases hq with ⟨v, e2, -, -⟩ | ⟨i, e0, e2, hi, rfl, rfl⟩
    · rw [he] at e2; cases e2
    · rw [he] at e2
      cases e2
      obtain ⟨rfl, rfl⟩ := ix1 hi
      refine ⟨12, ⟨[], ⟨0, 9, 12, 19⟩, [], rfl, (fun z hz => by cases hz), by decide, by decide, tw4_43, by decide +kernel, rfl⟩, fun q => ?_⟩
      refine aw_astore_n hC dL_truncate_12 (by decide) ?_
      refine aw_iconst hC dL_truncate_13 (v := 1) (by decide) ?_
      exact aw_irL hC dL_truncate_14 rfl rfl rfl rfl
  · rcases hq with ⟨v, e2, rfl, rfl⟩ | ⟨i, e0, e2, -, -, -⟩
    · rw [hrv] at e2
      cases e2
      refine aw_i2l hC dL_truncate_7 ?_
      refine aw_last (r := (8, 0, 1)) (n := 1) (k := 0) (F := wF) hC dL_truncate_8 (by decide +kernel) rfl rfl rfl rfl (fun h2 => ?_)
      refine aw_goto hC dL_truncate_9 (tgt := 15) (by decide) ?_
      refine aw_iconst hC dL_truncate_15 (v := 0) (by decide) ?_
      exact aw_irL hC dL_truncate_16 rfl rfl rfl rfl
    · rw [hrv] at e2; cases e2
theorem A_L_readText (l : Launch) (hl0 : l.stackTraces = false) (D : va_G) (loc : Rf → Nat) (cy : Nat → ClassId)  (h : HD) {rr : RR} {k : Int32} {h2 : HD} (hA : AX l D loc cy yX8_readText (Cond.code yX8_readText cX8_readText 2 (some .int) :: LW) 8 231 1 6 [.ref (loc (6, 0, 0))] h (some rr)) (hq : LQ [1] rr k h2) : AL l D loc cy yL_readText cL_readText 3 [(0, 8, 11, 19)] 9 252 1 6 [.ref (loc (6, 0, 0)), .ref (loc (8, 0, 1))] h (some (.inr (some (.int k)), h2)) := by
  refine al_start (y := yL_readText) (av := [.ref (loc (6, 0, 0)), .ref (loc (8, 0, 1))]) (nL := 3) (h := h) (RF := fun (x : Option RR) => x) (x := some (.inr (some (.int k)), h2)) hl0 (by decide +kernel) rfl ?_
  intro p e R s m below meth c A htab hC
  refine aw_aload_n hC dL_readText_0 rfl ?_
  refine aw_iconst hC dL_readText_1 (v := 0) (by decide) ?_
  refine aw_aload_n hC dL_readText_2 rfl ?_
  refine aw_callC (n := 0) (h := h) (mc2 := 1) (ms2 := 6) hC htab dL_readText_3 cv_RL_21 rfl rm_6_0_0 hA rfl rfl rfl rfl rfl ⟨rfl, rfl⟩ (fun e1 he => ?_) (fun rv hrv => ?_)
  · rcases hq with ⟨v, e2, -, -⟩ | ⟨i, e0, e2, hi, rfl, rfl⟩
    · rw [he] at e2; cases e2
    · rw [he] at e2
      cases e2
      obtain ⟨rfl, rfl⟩ := ix1 hi
      refine ⟨11, ⟨[], ⟨0, 8, 11, 19⟩, [], rfl, (fun z hz => by cases hz), by decide, by decide, tw4_43, by decide +kernel, rfl⟩, fun q => ?_⟩
      refine aw_astore_n hC dL_readText_11 (by decide) ?_
      refine aw_iconst hC dL_readText_12 (v := 1) (by decide) ?_
      exact aw_irL hC dL_readText_13 rfl rfl rfl rfl
  · rcases hq with ⟨v, e2, rfl, rfl⟩ | ⟨i, e0, e2, -, -, -⟩
    · rw [hrv] at e2
      cases e2
      refine aw_i2l hC dL_readText_6 ?_
      refine aw_last (r := (8, 0, 1)) (n := 1) (k := 0) (F := wF) hC dL_readText_7 (by decide +kernel) rfl rfl rfl rfl (fun h2 => ?_)
      refine aw_goto hC dL_readText_8 (tgt := 14) (by decide) ?_
      refine aw_iconst hC dL_readText_14 (v := 0) (by decide) ?_
      exact aw_irL hC dL_readText_15 rfl rfl rfl rfl
    · rw [hrv] at e2; cases e2
theorem A_L_runScript (l : Launch) (hl0 : l.stackTraces = false) (D : va_G) (loc : Rf → Nat) (cy : Nat → ClassId)  (h : HD) {rr : RR} {k : Int32} {h2 : HD} (hA : AX l D loc cy yX8_runScript (Cond.code yX8_runScript cX8_runScript 2 (some .int) :: LW) 10 285 1 6 [.ref (loc (6, 0, 0))] h (some rr)) (hq : LQ [1] rr k h2) : AL l D loc cy yL_runScript cL_runScript 3 [(0, 8, 11, 19)] 11 306 1 6 [.ref (loc (6, 0, 0)), .ref (loc (8, 0, 1))] h (some (.inr (some (.int k)), h2)) := by
  refine al_start (y := yL_runScript) (av := [.ref (loc (6, 0, 0)), .ref (loc (8, 0, 1))]) (nL := 3) (h := h) (RF := fun (x : Option RR) => x) (x := some (.inr (some (.int k)), h2)) hl0 (by decide +kernel) rfl ?_
  intro p e R s m below meth c A htab hC
  refine aw_aload_n hC dL_runScript_0 rfl ?_
  refine aw_iconst hC dL_runScript_1 (v := 0) (by decide) ?_
  refine aw_aload_n hC dL_runScript_2 rfl ?_
  refine aw_callC (n := 0) (h := h) (mc2 := 1) (ms2 := 6) hC htab dL_runScript_3 cv_RL_25 rfl rm_6_0_0 hA rfl rfl rfl rfl rfl ⟨rfl, rfl⟩ (fun e1 he => ?_) (fun rv hrv => ?_)
  · rcases hq with ⟨v, e2, -, -⟩ | ⟨i, e0, e2, hi, rfl, rfl⟩
    · rw [he] at e2; cases e2
    · rw [he] at e2
      cases e2
      obtain ⟨rfl, rfl⟩ := ix1 hi
      refine ⟨11, ⟨[], ⟨0, 8, 11, 19⟩, [], rfl, (fun z hz => by cases hz), by decide, by decide, tw4_43, by decide +kernel, rfl⟩, fun q => ?_⟩
      refine aw_astore_n hC dL_runScript_11 (by decide) ?_
      refine aw_iconst hC dL_runScript_12 (v := 1) (by decide) ?_
      exact aw_irL hC dL_runScript_13 rfl rfl rfl rfl
  · rcases hq with ⟨v, e2, rfl, rfl⟩ | ⟨i, e0, e2, -, -, -⟩
    · rw [hrv] at e2
      cases e2
      refine aw_i2l hC dL_runScript_6 ?_
      refine aw_last (r := (8, 0, 1)) (n := 1) (k := 0) (F := wF) hC dL_runScript_7 (by decide +kernel) rfl rfl rfl rfl (fun h2 => ?_)
      refine aw_goto hC dL_runScript_8 (tgt := 14) (by decide) ?_
      refine aw_iconst hC dL_runScript_14 (v := 0) (by decide) ?_
      exact aw_irL hC dL_runScript_15 rfl rfl rfl rfl
    · rw [hrv] at e2; cases e2
theorem A_L_setting (l : Launch) (hl0 : l.stackTraces = false) (D : va_G) (loc : Rf → Nat) (cy : Nat → ClassId) (p1 : Int32) (h : HD) {rr : RR} {k : Int32} {h2 : HD} (hA : AX l D loc cy yX8_setting (Cond.code yX8_setting cX8_setting 2 (some .int) :: LW) 7 170 1 6 [.ref (loc (6, 0, 0)), .int p1] h (some rr)) (hq : LQ [1] rr k h2) : AL l D loc cy yL_setting cL_setting 4 [(0, 9, 12, 19)] 8 191 1 6 [.ref (loc (6, 0, 0)), .int p1, .ref (loc (8, 0, 1))] h (some (.inr (some (.int k)), h2)) := by
  refine al_start (y := yL_setting) (av := [.ref (loc (6, 0, 0)), .int p1, .ref (loc (8, 0, 1))]) (nL := 4) (h := h) (RF := fun (x : Option RR) => x) (x := some (.inr (some (.int k)), h2)) hl0 (by decide +kernel) rfl ?_
  intro p e R s m below meth c A htab hC
  refine aw_aload_n hC dL_setting_0 rfl ?_
  refine aw_iconst hC dL_setting_1 (v := 0) (by decide) ?_
  refine aw_aload_n hC dL_setting_2 rfl ?_
  refine aw_iload_n hC dL_setting_3 rfl ?_
  refine aw_callC (n := 1) (h := h) (mc2 := 1) (ms2 := 6) hC htab dL_setting_4 cv_RL_28 rfl rm_6_0_0 hA rfl rfl rfl rfl rfl ⟨rfl, rfl⟩ (fun e1 he => ?_) (fun rv hrv => ?_)
  · rcases hq with ⟨v, e2, -, -⟩ | ⟨i, e0, e2, hi, rfl, rfl⟩
    · rw [he] at e2; cases e2
    · rw [he] at e2
      cases e2
      obtain ⟨rfl, rfl⟩ := ix1 hi
      refine ⟨12, ⟨[], ⟨0, 9, 12, 19⟩, [], rfl, (fun z hz => by cases hz), by decide, by decide, tw4_43, by decide +kernel, rfl⟩, fun q => ?_⟩
      refine aw_astore_n hC dL_setting_12 (by decide) ?_
      refine aw_iconst hC dL_setting_13 (v := 1) (by decide) ?_
      exact aw_irL hC dL_setting_14 rfl rfl rfl rfl
  · rcases hq with ⟨v, e2, rfl, rfl⟩ | ⟨i, e0, e2, -, -, -⟩
    · rw [hrv] at e2
      cases e2
      refine aw_i2l hC dL_setting_7 ?_
      refine aw_last (r := (8, 0, 1)) (n := 1) (k := 0) (F := wF) hC dL_setting_8 (by decide +kernel) rfl rfl rfl rfl (fun h2 => ?_)
      refine aw_goto hC dL_setting_9 (tgt := 15) (by decide) ?_
      refine aw_iconst hC dL_setting_15 (v := 0) (by decide) ?_
      exact aw_irL hC dL_setting_16 rfl rfl rfl rfl
    · rw [hrv] at e2; cases e2
theorem A_L_letter (l : Launch) (hl0 : l.stackTraces = false) (D : va_G) (loc : Rf → Nat) (cy : Nat → ClassId) (p1 : Int32) (p2 : Int32) (h : HD) {rr : RR} {k : Int32} {h2 : HD} (hA : AX l D loc cy yX8_letter (Cond.code yX8_letter cX8_letter 3 (some .int) :: LW) 7 121 1 6 [.ref (loc (6, 0, 0)), .int p1, .int p2] h (some rr)) (hq : LQ [2] rr k h2) : AL l D loc cy yL_letter cL_letter 5 [(0, 10, 13, 35)] 8 143 1 6 [.ref (loc (6, 0, 0)), .int p1, .int p2, .ref (loc (8, 0, 1))] h (some (.inr (some (.int k)), h2)) := by
  refine al_start (y := yL_letter) (av := [.ref (loc (6, 0, 0)), .int p1, .int p2, .ref (loc (8, 0, 1))]) (nL := 5) (h := h) (RF := fun (x : Option RR) => x) (x := some (.inr (some (.int k)), h2)) hl0 (by decide +kernel) rfl ?_
  intro p e R s m below meth c A htab hC
  refine aw_aload_n hC dL_letter_0 rfl ?_
  refine aw_iconst hC dL_letter_1 (v := 0) (by decide) ?_
  refine aw_aload_n hC dL_letter_2 rfl ?_
  refine aw_iload_n hC dL_letter_3 rfl ?_
  refine aw_iload_n hC dL_letter_4 rfl ?_
  refine aw_callC (n := 2) (h := h) (mc2 := 1) (ms2 := 6) hC htab dL_letter_5 cv_RL_31 rfl rm_6_0_0 hA rfl rfl rfl rfl rfl ⟨rfl, rfl⟩ (fun e1 he => ?_) (fun rv hrv => ?_)
  · rcases hq with ⟨v, e2, -, -⟩ | ⟨i, e0, e2, hi, rfl, rfl⟩
    · rw [he] at e2; cases e2
    · rw [he] at e2
      cases e2
      obtain ⟨rfl, rfl⟩ := ix1 hi
      refine ⟨13, ⟨[], ⟨0, 10, 13, 35⟩, [], rfl, (fun z hz => by cases hz), by decide, by decide, tw5_183, by decide +kernel, rfl⟩, fun q => ?_⟩
      refine aw_astore hC dL_letter_13 (by decide) ?_
      refine aw_iconst hC dL_letter_15 (v := 1) (by decide) ?_
      exact aw_irL hC dL_letter_16 rfl rfl rfl rfl
  · rcases hq with ⟨v, e2, rfl, rfl⟩ | ⟨i, e0, e2, -, -, -⟩
    · rw [hrv] at e2
      cases e2
      refine aw_i2l hC dL_letter_8 ?_
      refine aw_last (r := (8, 0, 1)) (n := 1) (k := 0) (F := wF) hC dL_letter_9 (by decide +kernel) rfl rfl rfl rfl (fun h2 => ?_)
      refine aw_goto hC dL_letter_10 (tgt := 17) (by decide) ?_
      refine aw_iconst hC dL_letter_17 (v := 0) (by decide) ?_
      exact aw_irL hC dL_letter_18 rfl rfl rfl rfl
    · rw [hrv] at e2; cases e2
theorem A_L_car (l : Launch) (hl0 : l.stackTraces = false) (D : va_G) (loc : Rf → Nat) (cy : Nat → ClassId) (p1 : Int32) (p2 : Int32) (h : HD) {rr : RR} {k : Int32} {h2 : HD} (hA : AX l D loc cy yX8_car (Cond.code yX8_car cX8_car 4 (some .int) :: LW) 7 168 2 12 [.ref (loc (6, 0, 0)), .int p1, .int p2] h (some rr)) (hq : LQ [2, 1] rr k h2) : AL l D loc cy yL_car cL_car 5 [(0, 10, 13, 35), (0, 10, 17, 19)] 8 191 2 12 [.ref (loc (6, 0, 0)), .int p1, .int p2, .ref (loc (8, 0, 1))] h (some (.inr (some (.int k)), h2)) := by
  refine al_start (y := yL_car) (av := [.ref (loc (6, 0, 0)), .int p1, .int p2, .ref (loc (8, 0, 1))]) (nL := 5) (h := h) (RF := fun (x : Option RR) => x) (x := some (.inr (some (.int k)), h2)) hl0 (by decide +kernel) rfl ?_
  intro p e R s m below meth c A htab hC
  refine aw_aload_n hC dL_car_0 rfl ?_
  refine aw_iconst hC dL_car_1 (v := 0) (by decide) ?_
  refine aw_aload_n hC dL_car_2 rfl ?_
  refine aw_iload_n hC dL_car_3 rfl ?_
  refine aw_iload_n hC dL_car_4 rfl ?_
  refine aw_callC (n := 2) (h := h) (mc2 := 2) (ms2 := 12) hC htab dL_car_5 cv_RL_37 rfl rm_6_0_0 hA rfl rfl rfl rfl rfl ⟨rfl, rfl⟩ (fun e1 he => ?_) (fun rv hrv => ?_)
  · rcases hq with ⟨v, e2, -, -⟩ | ⟨i, e0, e2, hi, rfl, rfl⟩
    · rw [he] at e2; cases e2
    · rw [he] at e2
      cases e2
      rcases ix2 hi with ⟨rfl, rfl⟩ | ⟨rfl, rfl⟩
      · refine ⟨13, ⟨[], ⟨0, 10, 13, 35⟩, [⟨0, 10, 17, 19⟩], rfl, (fun z hz => by cases hz), by decide, by decide, tw5_183, by decide +kernel, rfl⟩, fun q => ?_⟩
        refine aw_astore hC dL_car_13 (by decide) ?_
        refine aw_iconst hC dL_car_15 (v := 1) (by decide) ?_
        exact aw_irL hC dL_car_16 rfl rfl rfl rfl
      · refine ⟨17, ⟨[⟨0, 10, 13, 35⟩], ⟨0, 10, 17, 19⟩, [], rfl, (fun z hz => by cases List.mem_singleton.mp hz; exact ⟨by decide, tw5_183, rfl⟩), by decide, by decide, tw4_43, by decide +kernel, rfl⟩, fun q => ?_⟩
        refine aw_astore hC dL_car_17 (by decide) ?_
        refine aw_iconst hC dL_car_19 (v := 2) (by decide) ?_
        exact aw_irL hC dL_car_20 rfl rfl rfl rfl
  · rcases hq with ⟨v, e2, rfl, rfl⟩ | ⟨i, e0, e2, -, -, -⟩
    · rw [hrv] at e2
      cases e2
      refine aw_i2l hC dL_car_8 ?_
      refine aw_last (r := (8, 0, 1)) (n := 1) (k := 0) (F := wF) hC dL_car_9 (by decide +kernel) rfl rfl rfl rfl (fun h2 => ?_)
      refine aw_goto hC dL_car_10 (tgt := 21) (by decide) ?_
      refine aw_iconst hC dL_car_21 (v := 0) (by decide) ?_
      exact aw_irL hC dL_car_22 rfl rfl rfl rfl
    · rw [hrv] at e2; cases e2
theorem A_L_who (l : Launch) (hl0 : l.stackTraces = false) (D : va_G) (loc : Rf → Nat) (cy : Nat → ClassId) (p1 : Int32) (h : HD) {rr : RR} {k : Int32} {h2 : HD} (hA : AX l D loc cy yX8_who (Cond.code yX8_who cX8_who 2 (some .int) :: LW) 7 168 1 6 [.ref (loc (6, 0, 0)), .int p1] h (some rr)) (hq : LQ [2] rr k h2) : AL l D loc cy yL_who cL_who 4 [(0, 9, 12, 35)] 8 189 1 6 [.ref (loc (6, 0, 0)), .int p1, .ref (loc (8, 0, 1))] h (some (.inr (some (.int k)), h2)) := by
  refine al_start (y := yL_who) (av := [.ref (loc (6, 0, 0)), .int p1, .ref (loc (8, 0, 1))]) (nL := 4) (h := h) (RF := fun (x : Option RR) => x) (x := some (.inr (some (.int k)), h2)) hl0 (by decide +kernel) rfl ?_
  intro p e R s m below meth c A htab hC
  refine aw_aload_n hC dL_who_0 rfl ?_
  refine aw_iconst hC dL_who_1 (v := 0) (by decide) ?_
  refine aw_aload_n hC dL_who_2 rfl ?_
  refine aw_iload_n hC dL_who_3 rfl ?_
  refine aw_callC (n := 1) (h := h) (mc2 := 1) (ms2 := 6) hC htab dL_who_4 cv_RL_40 rfl rm_6_0_0 hA rfl rfl rfl rfl rfl ⟨rfl, rfl⟩ (fun e1 he => ?_) (fun rv hrv => ?_)
  · rcases hq with ⟨v, e2, -, -⟩ | ⟨i, e0, e2, hi, rfl, rfl⟩
    · rw [he] at e2; cases e2
    · rw [he] at e2
      cases e2
      obtain ⟨rfl, rfl⟩ := ix1 hi
      refine ⟨12, ⟨[], ⟨0, 9, 12, 35⟩, [], rfl, (fun z hz => by cases hz), by decide, by decide, tw5_183, by decide +kernel, rfl⟩, fun q => ?_⟩
      refine aw_astore_n hC dL_who_12 (by decide) ?_
      refine aw_iconst hC dL_who_13 (v := 1) (by decide) ?_
      exact aw_irL hC dL_who_14 rfl rfl rfl rfl
  · rcases hq with ⟨v, e2, rfl, rfl⟩ | ⟨i, e0, e2, -, -, -⟩
    · rw [hrv] at e2
      cases e2
      refine aw_i2l hC dL_who_7 ?_
      refine aw_last (r := (8, 0, 1)) (n := 1) (k := 0) (F := wF) hC dL_who_8 (by decide +kernel) rfl rfl rfl rfl (fun h2 => ?_)
      refine aw_goto hC dL_who_9 (tgt := 15) (by decide) ?_
      refine aw_iconst hC dL_who_15 (v := 0) (by decide) ?_
      exact aw_irL hC dL_who_16 rfl rfl rfl rfl
    · rw [hrv] at e2; cases e2
theorem A_L_wanted (l : Launch) (hl0 : l.stackTraces = false) (D : va_G) (loc : Rf → Nat) (cy : Nat → ClassId) (p1 : Int32) (h : HD) {rr : RR} {k : Int32} {h2 : HD} (hA : AX l D loc cy yX8_wanted (Cond.code yX8_wanted cX8_wanted 2 (some .int) :: LW) 7 121 1 6 [.ref (loc (6, 0, 0)), .int p1] h (some rr)) (hq : LQ [2] rr k h2) : AL l D loc cy yL_wanted cL_wanted 4 [(0, 9, 12, 35)] 8 142 1 6 [.ref (loc (6, 0, 0)), .int p1, .ref (loc (8, 0, 1))] h (some (.inr (some (.int k)), h2)) := by
  refine al_start (y := yL_wanted) (av := [.ref (loc (6, 0, 0)), .int p1, .ref (loc (8, 0, 1))]) (nL := 4) (h := h) (RF := fun (x : Option RR) => x) (x := some (.inr (some (.int k)), h2)) hl0 (by decide +kernel) rfl ?_
  intro p e R s m below meth c A htab hC
  refine aw_aload_n hC dL_wanted_0 rfl ?_
  refine aw_iconst hC dL_wanted_1 (v := 0) (by decide) ?_
  refine aw_aload_n hC dL_wanted_2 rfl ?_
  refine aw_iload_n hC dL_wanted_3 rfl ?_
  refine aw_callC (n := 1) (h := h) (mc2 := 1) (ms2 := 6) hC htab dL_wanted_4 cv_RL_43 rfl rm_6_0_0 hA rfl rfl rfl rfl rfl ⟨rfl, rfl⟩ (fun e1 he => ?_) (fun rv hrv => ?_)
  · rcases hq with ⟨v, e2, -, -⟩ | ⟨i, e0, e2, hi, rfl, rfl⟩
    · rw [he] at e2; cases e2
    · rw [he] at e2
      cases e2
      obtain ⟨rfl, rfl⟩ := ix1 hi
      refine ⟨12, ⟨[], ⟨0, 9, 12, 35⟩, [], rfl, (fun z hz => by cases hz), by decide, by decide, tw5_183, by decide +kernel, rfl⟩, fun q => ?_⟩
      refine aw_astore_n hC dL_wanted_12 (by decide) ?_
      refine aw_iconst hC dL_wanted_13 (v := 1) (by decide) ?_
      exact aw_irL hC dL_wanted_14 rfl rfl rfl rfl
  · rcases hq with ⟨v, e2, rfl, rfl⟩ | ⟨i, e0, e2, -, -, -⟩
    · rw [hrv] at e2
      cases e2
      refine aw_i2l hC dL_wanted_7 ?_
      refine aw_last (r := (8, 0, 1)) (n := 1) (k := 0) (F := wF) hC dL_wanted_8 (by decide +kernel) rfl rfl rfl rfl (fun h2 => ?_)
      refine aw_goto hC dL_wanted_9 (tgt := 15) (by decide) ?_
      refine aw_iconst hC dL_wanted_15 (v := 0) (by decide) ?_
      exact aw_irL hC dL_wanted_16 rfl rfl rfl rfl
    · rw [hrv] at e2; cases e2
theorem A_L_spotByLine (l : Launch) (hl0 : l.stackTraces = false) (D : va_G) (loc : Rf → Nat) (cy : Nat → ClassId) (p1 : Int32) (h : HD) {rr : RR} {k : Int32} {h2 : HD} (hA : AX l D loc cy yX8_spotByLine (Cond.code yX8_spotByLine cX8_spotByLine 2 (some .int) :: LW) 7 168 1 6 [.ref (loc (6, 0, 0)), .int p1] h (some rr)) (hq : LQ [2] rr k h2) : AL l D loc cy yL_spotByLine cL_spotByLine 4 [(0, 9, 12, 35)] 8 189 1 6 [.ref (loc (6, 0, 0)), .int p1, .ref (loc (8, 0, 1))] h (some (.inr (some (.int k)), h2)) := by
  refine al_start (y := yL_spotByLine) (av := [.ref (loc (6, 0, 0)), .int p1, .ref (loc (8, 0, 1))]) (nL := 4) (h := h) (RF := fun (x : Option RR) => x) (x := some (.inr (some (.int k)), h2)) hl0 (by decide +kernel) rfl ?_
  intro p e R s m below meth c A htab hC
  refine aw_aload_n hC dL_spotByLine_0 rfl ?_
  refine aw_iconst hC dL_spotByLine_1 (v := 0) (by decide) ?_
  refine aw_aload_n hC dL_spotByLine_2 rfl ?_
  refine aw_iload_n hC dL_spotByLine_3 rfl ?_
  refine aw_callC (n := 1) (h := h) (mc2 := 1) (ms2 := 6) hC htab dL_spotByLine_4 cv_RL_46 rfl rm_6_0_0 hA rfl rfl rfl rfl rfl ⟨rfl, rfl⟩ (fun e1 he => ?_) (fun rv hrv => ?_)
  · rcases hq with ⟨v, e2, -, -⟩ | ⟨i, e0, e2, hi, rfl, rfl⟩
    · rw [he] at e2; cases e2
    · rw [he] at e2
      cases e2
      obtain ⟨rfl, rfl⟩ := ix1 hi
      refine ⟨12, ⟨[], ⟨0, 9, 12, 35⟩, [], rfl, (fun z hz => by cases hz), by decide, by decide, tw5_183, by decide +kernel, rfl⟩, fun q => ?_⟩
      refine aw_astore_n hC dL_spotByLine_12 (by decide) ?_
      refine aw_iconst hC dL_spotByLine_13 (v := 1) (by decide) ?_
      exact aw_irL hC dL_spotByLine_14 rfl rfl rfl rfl
  · rcases hq with ⟨v, e2, rfl, rfl⟩ | ⟨i, e0, e2, -, -, -⟩
    · rw [hrv] at e2
      cases e2
      refine aw_i2l hC dL_spotByLine_7 ?_
      refine aw_last (r := (8, 0, 1)) (n := 1) (k := 0) (F := wF) hC dL_spotByLine_8 (by decide +kernel) rfl rfl rfl rfl (fun h2 => ?_)
      refine aw_goto hC dL_spotByLine_9 (tgt := 15) (by decide) ?_
      refine aw_iconst hC dL_spotByLine_15 (v := 0) (by decide) ?_
      exact aw_irL hC dL_spotByLine_16 rfl rfl rfl rfl
    · rw [hrv] at e2; cases e2
theorem A_L_whoAfter (l : Launch) (hl0 : l.stackTraces = false) (D : va_G) (loc : Rf → Nat) (cy : Nat → ClassId) (p1 : Int32) (p2 : Int32) (h : HD) {rr : RR} {k : Int32} {h2 : HD} (hA : AX l D loc cy yX8_whoAfter (Cond.code yX8_whoAfter cX8_whoAfter 3 (some .int) :: LW) 7 169 2 12 [.ref (loc (6, 0, 0)), .int p1, .int p2] h (some rr)) (hq : LQ [2, 1] rr k h2) : AL l D loc cy yL_whoAfter cL_whoAfter 5 [(0, 10, 13, 35), (0, 10, 17, 19)] 8 191 2 12 [.ref (loc (6, 0, 0)), .int p1, .int p2, .ref (loc (8, 0, 1))] h (some (.inr (some (.int k)), h2)) := by
  refine al_start (y := yL_whoAfter) (av := [.ref (loc (6, 0, 0)), .int p1, .int p2, .ref (loc (8, 0, 1))]) (nL := 5) (h := h) (RF := fun (x : Option RR) => x) (x := some (.inr (some (.int k)), h2)) hl0 (by decide +kernel) rfl ?_
  intro p e R s m below meth c A htab hC
  refine aw_aload_n hC dL_whoAfter_0 rfl ?_
  refine aw_iconst hC dL_whoAfter_1 (v := 0) (by decide) ?_
  refine aw_aload_n hC dL_whoAfter_2 rfl ?_
  refine aw_iload_n hC dL_whoAfter_3 rfl ?_
  refine aw_iload_n hC dL_whoAfter_4 rfl ?_
  refine aw_callC (n := 2) (h := h) (mc2 := 2) (ms2 := 12) hC htab dL_whoAfter_5 cv_RL_49 rfl rm_6_0_0 hA rfl rfl rfl rfl rfl ⟨rfl, rfl⟩ (fun e1 he => ?_) (fun rv hrv => ?_)
  · rcases hq with ⟨v, e2, -, -⟩ | ⟨i, e0, e2, hi, rfl, rfl⟩
    · rw [he] at e2; cases e2
    · rw [he] at e2
      cases e2
      rcases ix2 hi with ⟨rfl, rfl⟩ | ⟨rfl, rfl⟩
      · refine ⟨13, ⟨[], ⟨0, 10, 13, 35⟩, [⟨0, 10, 17, 19⟩], rfl, (fun z hz => by cases hz), by decide, by decide, tw5_183, by decide +kernel, rfl⟩, fun q => ?_⟩
        refine aw_astore hC dL_whoAfter_13 (by decide) ?_
        refine aw_iconst hC dL_whoAfter_15 (v := 1) (by decide) ?_
        exact aw_irL hC dL_whoAfter_16 rfl rfl rfl rfl
      · refine ⟨17, ⟨[⟨0, 10, 13, 35⟩], ⟨0, 10, 17, 19⟩, [], rfl, (fun z hz => by cases List.mem_singleton.mp hz; exact ⟨by decide, tw5_183, rfl⟩), by decide, by decide, tw4_43, by decide +kernel, rfl⟩, fun q => ?_⟩
        refine aw_astore hC dL_whoAfter_17 (by decide) ?_
        refine aw_iconst hC dL_whoAfter_19 (v := 2) (by decide) ?_
        exact aw_irL hC dL_whoAfter_20 rfl rfl rfl rfl
  · rcases hq with ⟨v, e2, rfl, rfl⟩ | ⟨i, e0, e2, -, -, -⟩
    · rw [hrv] at e2
      cases e2
      refine aw_i2l hC dL_whoAfter_8 ?_
      refine aw_last (r := (8, 0, 1)) (n := 1) (k := 0) (F := wF) hC dL_whoAfter_9 (by decide +kernel) rfl rfl rfl rfl (fun h2 => ?_)
      refine aw_goto hC dL_whoAfter_10 (tgt := 21) (by decide) ?_
      refine aw_iconst hC dL_whoAfter_21 (v := 0) (by decide) ?_
      exact aw_irL hC dL_whoAfter_22 rfl rfl rfl rfl
    · rw [hrv] at e2; cases e2
theorem A_L_longestAfter (l : Launch) (hl0 : l.stackTraces = false) (D : va_G) (loc : Rf → Nat) (cy : Nat → ClassId) (p1 : Int32) (h : HD) {rr : RR} {k : Int32} {h2 : HD} (hA : AX l D loc cy yX8_longestAfter (Cond.code yX8_longestAfter cX8_longestAfter 2 (some .int) :: LW) 7 169 1 6 [.ref (loc (6, 0, 0)), .int p1] h (some rr)) (hq : LQ [1] rr k h2) : AL l D loc cy yL_longestAfter cL_longestAfter 4 [(0, 9, 12, 19)] 8 190 1 6 [.ref (loc (6, 0, 0)), .int p1, .ref (loc (8, 0, 1))] h (some (.inr (some (.int k)), h2)) := by
  refine al_start (y := yL_longestAfter) (av := [.ref (loc (6, 0, 0)), .int p1, .ref (loc (8, 0, 1))]) (nL := 4) (h := h) (RF := fun (x : Option RR) => x) (x := some (.inr (some (.int k)), h2)) hl0 (by decide +kernel) rfl ?_
  intro p e R s m below meth c A htab hC
  refine aw_aload_n hC dL_longestAfter_0 rfl ?_
  refine aw_iconst hC dL_longestAfter_1 (v := 0) (by decide) ?_
  refine aw_aload_n hC dL_longestAfter_2 rfl ?_
  refine aw_iload_n hC dL_longestAfter_3 rfl ?_
  refine aw_callC (n := 1) (h := h) (mc2 := 1) (ms2 := 6) hC htab dL_longestAfter_4 cv_RL_52 rfl rm_6_0_0 hA rfl rfl rfl rfl rfl ⟨rfl, rfl⟩ (fun e1 he => ?_) (fun rv hrv => ?_)
  · rcases hq with ⟨v, e2, -, -⟩ | ⟨i, e0, e2, hi, rfl, rfl⟩
    · rw [he] at e2; cases e2
    · rw [he] at e2
      cases e2
      obtain ⟨rfl, rfl⟩ := ix1 hi
      refine ⟨12, ⟨[], ⟨0, 9, 12, 19⟩, [], rfl, (fun z hz => by cases hz), by decide, by decide, tw4_43, by decide +kernel, rfl⟩, fun q => ?_⟩
      refine aw_astore_n hC dL_longestAfter_12 (by decide) ?_
      refine aw_iconst hC dL_longestAfter_13 (v := 1) (by decide) ?_
      exact aw_irL hC dL_longestAfter_14 rfl rfl rfl rfl
  · rcases hq with ⟨v, e2, rfl, rfl⟩ | ⟨i, e0, e2, -, -, -⟩
    · rw [hrv] at e2
      cases e2
      refine aw_i2l hC dL_longestAfter_7 ?_
      refine aw_last (r := (8, 0, 1)) (n := 1) (k := 0) (F := wF) hC dL_longestAfter_8 (by decide +kernel) rfl rfl rfl rfl (fun h2 => ?_)
      refine aw_goto hC dL_longestAfter_9 (tgt := 15) (by decide) ?_
      refine aw_iconst hC dL_longestAfter_15 (v := 0) (by decide) ?_
      exact aw_irL hC dL_longestAfter_16 rfl rfl rfl rfl
    · rw [hrv] at e2; cases e2
theorem A_L_inWay (l : Launch) (hl0 : l.stackTraces = false) (D : va_G) (loc : Rf → Nat) (cy : Nat → ClassId) (p1 : Int32) (h : HD) {rr : RR} {k : Int32} {h2 : HD} (hA : AX l D loc cy yX8_inWay (Cond.code yX8_inWay cX8_inWay 3 (some .int) :: LW) 7 169 1 6 [.ref (loc (6, 0, 0)), .int p1] h (some rr)) (hq : LQ [1] rr k h2) : AL l D loc cy yL_inWay cL_inWay 4 [(0, 9, 12, 19)] 8 191 1 6 [.ref (loc (6, 0, 0)), .int p1, .ref (loc (8, 0, 1))] h (some (.inr (some (.int k)), h2)) := by
  refine al_start (y := yL_inWay) (av := [.ref (loc (6, 0, 0)), .int p1, .ref (loc (8, 0, 1))]) (nL := 4) (h := h) (RF := fun (x : Option RR) => x) (x := some (.inr (some (.int k)), h2)) hl0 (by decide +kernel) rfl ?_
  intro p e R s m below meth c A htab hC
  refine aw_aload_n hC dL_inWay_0 rfl ?_
  refine aw_iconst hC dL_inWay_1 (v := 0) (by decide) ?_
  refine aw_aload_n hC dL_inWay_2 rfl ?_
  refine aw_iload_n hC dL_inWay_3 rfl ?_
  refine aw_callC (n := 1) (h := h) (mc2 := 1) (ms2 := 6) hC htab dL_inWay_4 cv_RL_55 rfl rm_6_0_0 hA rfl rfl rfl rfl rfl ⟨rfl, rfl⟩ (fun e1 he => ?_) (fun rv hrv => ?_)
  · rcases hq with ⟨v, e2, -, -⟩ | ⟨i, e0, e2, hi, rfl, rfl⟩
    · rw [he] at e2; cases e2
    · rw [he] at e2
      cases e2
      obtain ⟨rfl, rfl⟩ := ix1 hi
      refine ⟨12, ⟨[], ⟨0, 9, 12, 19⟩, [], rfl, (fun z hz => by cases hz), by decide, by decide, tw4_43, by decide +kernel, rfl⟩, fun q => ?_⟩
      refine aw_astore_n hC dL_inWay_12 (by decide) ?_
      refine aw_iconst hC dL_inWay_13 (v := 1) (by decide) ?_
      exact aw_irL hC dL_inWay_14 rfl rfl rfl rfl
  · rcases hq with ⟨v, e2, rfl, rfl⟩ | ⟨i, e0, e2, -, -, -⟩
    · rw [hrv] at e2
      cases e2
      refine aw_i2l hC dL_inWay_7 ?_
      refine aw_last (r := (8, 0, 1)) (n := 1) (k := 0) (F := wF) hC dL_inWay_8 (by decide +kernel) rfl rfl rfl rfl (fun h2 => ?_)
      refine aw_goto hC dL_inWay_9 (tgt := 15) (by decide) ?_
      refine aw_iconst hC dL_inWay_15 (v := 0) (by decide) ?_
      exact aw_irL hC dL_inWay_16 rfl rfl rfl rfl
    · rw [hrv] at e2; cases e2
theorem A_L_degree (l : Launch) (hl0 : l.stackTraces = false) (D : va_G) (loc : Rf → Nat) (cy : Nat → ClassId) (p1 : Int32) (h : HD) {rr : RR} {k : Int32} {h2 : HD} (hA : AX l D loc cy yX8_degree (Cond.code yX8_degree cX8_degree 2 (some .int) :: LW) 7 121 1 6 [.ref (loc (6, 0, 0)), .int p1] h (some rr)) (hq : LQ [2] rr k h2) : AL l D loc cy yL_degree cL_degree 4 [(0, 9, 12, 35)] 8 142 1 6 [.ref (loc (6, 0, 0)), .int p1, .ref (loc (8, 0, 1))] h (some (.inr (some (.int k)), h2)) := by
  refine al_start (y := yL_degree) (av := [.ref (loc (6, 0, 0)), .int p1, .ref (loc (8, 0, 1))]) (nL := 4) (h := h) (RF := fun (x : Option RR) => x) (x := some (.inr (some (.int k)), h2)) hl0 (by decide +kernel) rfl ?_
  intro p e R s m below meth c A htab hC
  refine aw_aload_n hC dL_degree_0 rfl ?_
  refine aw_iconst hC dL_degree_1 (v := 0) (by decide) ?_
  refine aw_aload_n hC dL_degree_2 rfl ?_
  refine aw_iload_n hC dL_degree_3 rfl ?_
  refine aw_callC (n := 1) (h := h) (mc2 := 1) (ms2 := 6) hC htab dL_degree_4 cv_RL_58 rfl rm_6_0_0 hA rfl rfl rfl rfl rfl ⟨rfl, rfl⟩ (fun e1 he => ?_) (fun rv hrv => ?_)
  · rcases hq with ⟨v, e2, -, -⟩ | ⟨i, e0, e2, hi, rfl, rfl⟩
    · rw [he] at e2; cases e2
    · rw [he] at e2
      cases e2
      obtain ⟨rfl, rfl⟩ := ix1 hi
      refine ⟨12, ⟨[], ⟨0, 9, 12, 35⟩, [], rfl, (fun z hz => by cases hz), by decide, by decide, tw5_183, by decide +kernel, rfl⟩, fun q => ?_⟩
      refine aw_astore_n hC dL_degree_12 (by decide) ?_
      refine aw_iconst hC dL_degree_13 (v := 1) (by decide) ?_
      exact aw_irL hC dL_degree_14 rfl rfl rfl rfl
  · rcases hq with ⟨v, e2, rfl, rfl⟩ | ⟨i, e0, e2, -, -, -⟩
    · rw [hrv] at e2
      cases e2
      refine aw_i2l hC dL_degree_7 ?_
      refine aw_last (r := (8, 0, 1)) (n := 1) (k := 0) (F := wF) hC dL_degree_8 (by decide +kernel) rfl rfl rfl rfl (fun h2 => ?_)
      refine aw_goto hC dL_degree_9 (tgt := 15) (by decide) ?_
      refine aw_iconst hC dL_degree_15 (v := 0) (by decide) ?_
      exact aw_irL hC dL_degree_16 rfl rfl rfl rfl
    · rw [hrv] at e2; cases e2
theorem A_L_far (l : Launch) (hl0 : l.stackTraces = false) (D : va_G) (loc : Rf → Nat) (cy : Nat → ClassId) (p1 : Int32) (p2 : Int32) (h : HD) {rr : RR} {k : Int32} {h2 : HD} (hA : AX l D loc cy yX8_far (Cond.code yX8_far cX8_far 3 (some .int) :: LW) 7 121 2 12 [.ref (loc (6, 0, 0)), .int p1, .int p2] h (some rr)) (hq : LQ [2] rr k h2) : AL l D loc cy yL_far cL_far 5 [(0, 10, 13, 35)] 8 143 2 12 [.ref (loc (6, 0, 0)), .int p1, .int p2, .ref (loc (8, 0, 1))] h (some (.inr (some (.int k)), h2)) := by
  refine al_start (y := yL_far) (av := [.ref (loc (6, 0, 0)), .int p1, .int p2, .ref (loc (8, 0, 1))]) (nL := 5) (h := h) (RF := fun (x : Option RR) => x) (x := some (.inr (some (.int k)), h2)) hl0 (by decide +kernel) rfl ?_
  intro p e R s m below meth c A htab hC
  refine aw_aload_n hC dL_far_0 rfl ?_
  refine aw_iconst hC dL_far_1 (v := 0) (by decide) ?_
  refine aw_aload_n hC dL_far_2 rfl ?_
  refine aw_iload_n hC dL_far_3 rfl ?_
  refine aw_iload_n hC dL_far_4 rfl ?_
  refine aw_callC (n := 2) (h := h) (mc2 := 2) (ms2 := 12) hC htab dL_far_5 cv_RL_61 rfl rm_6_0_0 hA rfl rfl rfl rfl rfl ⟨rfl, rfl⟩ (fun e1 he => ?_) (fun rv hrv => ?_)
  · rcases hq with ⟨v, e2, -, -⟩ | ⟨i, e0, e2, hi, rfl, rfl⟩
    · rw [he] at e2; cases e2
    · rw [he] at e2
      cases e2
      obtain ⟨rfl, rfl⟩ := ix1 hi
      refine ⟨13, ⟨[], ⟨0, 10, 13, 35⟩, [], rfl, (fun z hz => by cases hz), by decide, by decide, tw5_183, by decide +kernel, rfl⟩, fun q => ?_⟩
      refine aw_astore hC dL_far_13 (by decide) ?_
      refine aw_iconst hC dL_far_15 (v := 1) (by decide) ?_
      exact aw_irL hC dL_far_16 rfl rfl rfl rfl
  · rcases hq with ⟨v, e2, rfl, rfl⟩ | ⟨i, e0, e2, -, -, -⟩
    · rw [hrv] at e2
      cases e2
      refine aw_i2l hC dL_far_8 ?_
      refine aw_last (r := (8, 0, 1)) (n := 1) (k := 0) (F := wF) hC dL_far_9 (by decide +kernel) rfl rfl rfl rfl (fun h2 => ?_)
      refine aw_goto hC dL_far_10 (tgt := 17) (by decide) ?_
      refine aw_iconst hC dL_far_17 (v := 0) (by decide) ?_
      exact aw_irL hC dL_far_18 rfl rfl rfl rfl
    · rw [hrv] at e2; cases e2
theorem A_L_spotIf (l : Launch) (hl0 : l.stackTraces = false) (D : va_G) (loc : Rf → Nat) (cy : Nat → ClassId) (p1 : Int32) (p2 : Int32) (h : HD) {rr : RR} {k : Int32} {h2 : HD} (hA : AX l D loc cy yX8_spotIf (Cond.code yX8_spotIf cX8_spotIf 3 (some .int) :: LW) 7 170 2 12 [.ref (loc (6, 0, 0)), .int p1, .int p2] h (some rr)) (hq : LQ [2, 1] rr k h2) : AL l D loc cy yL_spotIf cL_spotIf 5 [(0, 10, 13, 35), (0, 10, 17, 19)] 8 192 2 12 [.ref (loc (6, 0, 0)), .int p1, .int p2, .ref (loc (8, 0, 1))] h (some (.inr (some (.int k)), h2)) := by
  refine al_start (y := yL_spotIf) (av := [.ref (loc (6, 0, 0)), .int p1, .int p2, .ref (loc (8, 0, 1))]) (nL := 5) (h := h) (RF := fun (x : Option RR) => x) (x := some (.inr (some (.int k)), h2)) hl0 (by decide +kernel) rfl ?_
  intro p e R s m below meth c A htab hC
  refine aw_aload_n hC dL_spotIf_0 rfl ?_
  refine aw_iconst hC dL_spotIf_1 (v := 0) (by decide) ?_
  refine aw_aload_n hC dL_spotIf_2 rfl ?_
  refine aw_iload_n hC dL_spotIf_3 rfl ?_
  refine aw_iload_n hC dL_spotIf_4 rfl ?_
  refine aw_callC (n := 2) (h := h) (mc2 := 2) (ms2 := 12) hC htab dL_spotIf_5 cv_RL_64 rfl rm_6_0_0 hA rfl rfl rfl rfl rfl ⟨rfl, rfl⟩ (fun e1 he => ?_) (fun rv hrv => ?_)
  · rcases hq with ⟨v, e2, -, -⟩ | ⟨i, e0, e2, hi, rfl, rfl⟩
    · rw [he] at e2; cases e2
    · rw [he] at e2
      cases e2
      rcases ix2 hi with ⟨rfl, rfl⟩ | ⟨rfl, rfl⟩
      · refine ⟨13, ⟨[], ⟨0, 10, 13, 35⟩, [⟨0, 10, 17, 19⟩], rfl, (fun z hz => by cases hz), by decide, by decide, tw5_183, by decide +kernel, rfl⟩, fun q => ?_⟩
        refine aw_astore hC dL_spotIf_13 (by decide) ?_
        refine aw_iconst hC dL_spotIf_15 (v := 1) (by decide) ?_
        exact aw_irL hC dL_spotIf_16 rfl rfl rfl rfl
      · refine ⟨17, ⟨[⟨0, 10, 13, 35⟩], ⟨0, 10, 17, 19⟩, [], rfl, (fun z hz => by cases List.mem_singleton.mp hz; exact ⟨by decide, tw5_183, rfl⟩), by decide, by decide, tw4_43, by decide +kernel, rfl⟩, fun q => ?_⟩
        refine aw_astore hC dL_spotIf_17 (by decide) ?_
        refine aw_iconst hC dL_spotIf_19 (v := 2) (by decide) ?_
        exact aw_irL hC dL_spotIf_20 rfl rfl rfl rfl
  · rcases hq with ⟨v, e2, rfl, rfl⟩ | ⟨i, e0, e2, -, -, -⟩
    · rw [hrv] at e2
      cases e2
      refine aw_i2l hC dL_spotIf_8 ?_
      refine aw_last (r := (8, 0, 1)) (n := 1) (k := 0) (F := wF) hC dL_spotIf_9 (by decide +kernel) rfl rfl rfl rfl (fun h2 => ?_)
      refine aw_goto hC dL_spotIf_10 (tgt := 21) (by decide) ?_
      refine aw_iconst hC dL_spotIf_21 (v := 0) (by decide) ?_
      exact aw_irL hC dL_spotIf_22 rfl rfl rfl rfl
    · rw [hrv] at e2; cases e2
theorem A_L_settingIf (l : Launch) (hl0 : l.stackTraces = false) (D : va_G) (loc : Rf → Nat) (cy : Nat → ClassId) (p1 : Int32) (p2 : Int32) (p3 : Int32) (h : HD) {rr : RR} {k : Int32} {h2 : HD} (hA : AX l D loc cy yX8_settingIf (Cond.code yX8_settingIf cX8_settingIf 4 (some .int) :: LW) 7 170 3 18 [.ref (loc (6, 0, 0)), .int p1, .int p2, .int p3] h (some rr)) (hq : LQ [2, 1] rr k h2) : AL l D loc cy yL_settingIf cL_settingIf 6 [(0, 12, 15, 35), (0, 12, 19, 19)] 8 193 3 18 [.ref (loc (6, 0, 0)), .int p1, .int p2, .int p3, .ref (loc (8, 0, 1))] h (some (.inr (some (.int k)), h2)) := by
  refine al_start (y := yL_settingIf) (av := [.ref (loc (6, 0, 0)), .int p1, .int p2, .int p3, .ref (loc (8, 0, 1))]) (nL := 6) (h := h) (RF := fun (x : Option RR) => x) (x := some (.inr (some (.int k)), h2)) hl0 (by decide +kernel) rfl ?_
  intro p e R s m below meth c A htab hC
  refine aw_aload hC dL_settingIf_0 rfl ?_
  refine aw_iconst hC dL_settingIf_2 (v := 0) (by decide) ?_
  refine aw_aload_n hC dL_settingIf_3 rfl ?_
  refine aw_iload_n hC dL_settingIf_4 rfl ?_
  refine aw_iload_n hC dL_settingIf_5 rfl ?_
  refine aw_iload_n hC dL_settingIf_6 rfl ?_
  refine aw_callC (n := 3) (h := h) (mc2 := 3) (ms2 := 18) hC htab dL_settingIf_7 cv_RL_67 rfl rm_6_0_0 hA rfl rfl rfl rfl rfl ⟨rfl, rfl⟩ (fun e1 he => ?_) (fun rv hrv => ?_)
  · rcases hq with ⟨v, e2, -, -⟩ | ⟨i, e0, e2, hi, rfl, rfl⟩
    · rw [he] at e2; cases e2
    · rw [he] at e2
      cases e2
      rcases ix2 hi with ⟨rfl, rfl⟩ | ⟨rfl, rfl⟩
      · refine ⟨15, ⟨[], ⟨0, 12, 15, 35⟩, [⟨0, 12, 19, 19⟩], rfl, (fun z hz => by cases hz), by decide, by decide, tw5_183, by decide +kernel, rfl⟩, fun q => ?_⟩
        refine aw_astore hC dL_settingIf_15 (by decide) ?_
        refine aw_iconst hC dL_settingIf_17 (v := 1) (by decide) ?_
        exact aw_irL hC dL_settingIf_18 rfl rfl rfl rfl
      · refine ⟨19, ⟨[⟨0, 12, 15, 35⟩], ⟨0, 12, 19, 19⟩, [], rfl, (fun z hz => by cases List.mem_singleton.mp hz; exact ⟨by decide, tw5_183, rfl⟩), by decide, by decide, tw4_43, by decide +kernel, rfl⟩, fun q => ?_⟩
        refine aw_astore hC dL_settingIf_19 (by decide) ?_
        refine aw_iconst hC dL_settingIf_21 (v := 2) (by decide) ?_
        exact aw_irL hC dL_settingIf_22 rfl rfl rfl rfl
  · rcases hq with ⟨v, e2, rfl, rfl⟩ | ⟨i, e0, e2, -, -, -⟩
    · rw [hrv] at e2
      cases e2
      refine aw_i2l hC dL_settingIf_10 ?_
      refine aw_last (r := (8, 0, 1)) (n := 1) (k := 0) (F := wF) hC dL_settingIf_11 (by decide +kernel) rfl rfl rfl rfl (fun h2 => ?_)
      refine aw_goto hC dL_settingIf_12 (tgt := 23) (by decide) ?_
      refine aw_iconst hC dL_settingIf_23 (v := 0) (by decide) ?_
      exact aw_irL hC dL_settingIf_24 rfl rfl rfl rfl
    · rw [hrv] at e2; cases e2
theorem A_L_bestFor (l : Launch) (hl0 : l.stackTraces = false) (D : va_G) (loc : Rf → Nat) (cy : Nat → ClassId) (p1 : Int32) (h : HD) {rr : RR} {k : Int32} {h2 : HD} (hA : AX l D loc cy yX8_bestFor (Cond.code yX8_bestFor cX8_bestFor 6 (some .int) :: LW) 7 170 1 6 [.ref (loc (6, 0, 0)), .int p1] h (some rr)) (hq : LQ [2] rr k h2) : AL l D loc cy yL_bestFor cL_bestFor 4 [(0, 9, 12, 35)] 8 195 1 6 [.ref (loc (6, 0, 0)), .int p1, .ref (loc (8, 0, 1))] h (some (.inr (some (.int k)), h2)) := by
  refine al_start (y := yL_bestFor) (av := [.ref (loc (6, 0, 0)), .int p1, .ref (loc (8, 0, 1))]) (nL := 4) (h := h) (RF := fun (x : Option RR) => x) (x := some (.inr (some (.int k)), h2)) hl0 (by decide +kernel) rfl ?_
  intro p e R s m below meth c A htab hC
  refine aw_aload_n hC dL_bestFor_0 rfl ?_
  refine aw_iconst hC dL_bestFor_1 (v := 0) (by decide) ?_
  refine aw_aload_n hC dL_bestFor_2 rfl ?_
  refine aw_iload_n hC dL_bestFor_3 rfl ?_
  refine aw_callC (n := 1) (h := h) (mc2 := 1) (ms2 := 6) hC htab dL_bestFor_4 cv_RL_71 rfl rm_6_0_0 hA rfl rfl rfl rfl rfl ⟨rfl, rfl⟩ (fun e1 he => ?_) (fun rv hrv => ?_)
  · rcases hq with ⟨v, e2, -, -⟩ | ⟨i, e0, e2, hi, rfl, rfl⟩
    · rw [he] at e2; cases e2
    · rw [he] at e2
      cases e2
      obtain ⟨rfl, rfl⟩ := ix1 hi
      refine ⟨12, ⟨[], ⟨0, 9, 12, 35⟩, [], rfl, (fun z hz => by cases hz), by decide, by decide, tw5_183, by decide +kernel, rfl⟩, fun q => ?_⟩
      refine aw_astore_n hC dL_bestFor_12 (by decide) ?_
      refine aw_iconst hC dL_bestFor_13 (v := 1) (by decide) ?_
      exact aw_irL hC dL_bestFor_14 rfl rfl rfl rfl
  · rcases hq with ⟨v, e2, rfl, rfl⟩ | ⟨i, e0, e2, -, -, -⟩
    · rw [hrv] at e2
      cases e2
      refine aw_i2l hC dL_bestFor_7 ?_
      refine aw_last (r := (8, 0, 1)) (n := 1) (k := 0) (F := wF) hC dL_bestFor_8 (by decide +kernel) rfl rfl rfl rfl (fun h2 => ?_)
      refine aw_goto hC dL_bestFor_9 (tgt := 15) (by decide) ?_
      refine aw_iconst hC dL_bestFor_15 (v := 0) (by decide) ?_
      exact aw_irL hC dL_bestFor_16 rfl rfl rfl rfl
    · rw [hrv] at e2; cases e2
theorem A_L_latest (l : Launch) (hl0 : l.stackTraces = false) (D : va_G) (loc : Rf → Nat) (cy : Nat → ClassId) (p1 : Int32) (h : HD) {rr : RR} {k : Int32} {h2 : HD} (hA : AX l D loc cy yX8_latest (Cond.code yX8_latest cX8_latest 3 (some .int) :: LW) 7 148 1 6 [.ref (loc (6, 0, 0)), .int p1] h (some rr)) (hq : LQ [2] rr k h2) : AL l D loc cy yL_latest cL_latest 4 [(0, 9, 12, 35)] 8 170 1 6 [.ref (loc (6, 0, 0)), .int p1, .ref (loc (8, 0, 1))] h (some (.inr (some (.int k)), h2)) := by
  refine al_start (y := yL_latest) (av := [.ref (loc (6, 0, 0)), .int p1, .ref (loc (8, 0, 1))]) (nL := 4) (h := h) (RF := fun (x : Option RR) => x) (x := some (.inr (some (.int k)), h2)) hl0 (by decide +kernel) rfl ?_
  intro p e R s m below meth c A htab hC
  refine aw_aload_n hC dL_latest_0 rfl ?_
  refine aw_iconst hC dL_latest_1 (v := 0) (by decide) ?_
  refine aw_aload_n hC dL_latest_2 rfl ?_
  refine aw_iload_n hC dL_latest_3 rfl ?_
  refine aw_callC (n := 1) (h := h) (mc2 := 1) (ms2 := 6) hC htab dL_latest_4 cv_RL_74 rfl rm_6_0_0 hA rfl rfl rfl rfl rfl ⟨rfl, rfl⟩ (fun e1 he => ?_) (fun rv hrv => ?_)
  · rcases hq with ⟨v, e2, -, -⟩ | ⟨i, e0, e2, hi, rfl, rfl⟩
    · rw [he] at e2; cases e2
    · rw [he] at e2
      cases e2
      obtain ⟨rfl, rfl⟩ := ix1 hi
      refine ⟨12, ⟨[], ⟨0, 9, 12, 35⟩, [], rfl, (fun z hz => by cases hz), by decide, by decide, tw5_183, by decide +kernel, rfl⟩, fun q => ?_⟩
      refine aw_astore_n hC dL_latest_12 (by decide) ?_
      refine aw_iconst hC dL_latest_13 (v := 1) (by decide) ?_
      exact aw_irL hC dL_latest_14 rfl rfl rfl rfl
  · rcases hq with ⟨v, e2, rfl, rfl⟩ | ⟨i, e0, e2, -, -, -⟩
    · rw [hrv] at e2
      cases e2
      refine aw_i2l hC dL_latest_7 ?_
      refine aw_last (r := (8, 0, 1)) (n := 1) (k := 0) (F := wF) hC dL_latest_8 (by decide +kernel) rfl rfl rfl rfl (fun h2 => ?_)
      refine aw_goto hC dL_latest_9 (tgt := 15) (by decide) ?_
      refine aw_iconst hC dL_latest_15 (v := 0) (by decide) ?_
      exact aw_irL hC dL_latest_16 rfl rfl rfl rfl
    · rw [hrv] at e2; cases e2
theorem A_L_wayBy (l : Launch) (hl0 : l.stackTraces = false) (D : va_G) (loc : Rf → Nat) (cy : Nat → ClassId) (p1 : Int32) (h : HD) {rr : RR} {k : Int32} {h2 : HD} (hA : AX l D loc cy yX8_wayBy (Cond.code yX8_wayBy cX8_wayBy 2 (some .int) :: LW) 7 169 1 6 [.ref (loc (6, 0, 0)), .int p1] h (some rr)) (hq : LQ [1] rr k h2) : AL l D loc cy yL_wayBy cL_wayBy 4 [(0, 9, 12, 19)] 8 190 1 6 [.ref (loc (6, 0, 0)), .int p1, .ref (loc (8, 0, 1))] h (some (.inr (some (.int k)), h2)) := by
  refine al_start (y := yL_wayBy) (av := [.ref (loc (6, 0, 0)), .int p1, .ref (loc (8, 0, 1))]) (nL := 4) (h := h) (RF := fun (x : Option RR) => x) (x := some (.inr (some (.int k)), h2)) hl0 (by decide +kernel) rfl ?_
  intro p e R s m below meth c A htab hC
  refine aw_aload_n hC dL_wayBy_0 rfl ?_
  refine aw_iconst hC dL_wayBy_1 (v := 0) (by decide) ?_
  refine aw_aload_n hC dL_wayBy_2 rfl ?_
  refine aw_iload_n hC dL_wayBy_3 rfl ?_
  refine aw_callC (n := 1) (h := h) (mc2 := 1) (ms2 := 6) hC htab dL_wayBy_4 cv_RL_77 rfl rm_6_0_0 hA rfl rfl rfl rfl rfl ⟨rfl, rfl⟩ (fun e1 he => ?_) (fun rv hrv => ?_)
  · rcases hq with ⟨v, e2, -, -⟩ | ⟨i, e0, e2, hi, rfl, rfl⟩
    · rw [he] at e2; cases e2
    · rw [he] at e2
      cases e2
      obtain ⟨rfl, rfl⟩ := ix1 hi
      refine ⟨12, ⟨[], ⟨0, 9, 12, 19⟩, [], rfl, (fun z hz => by cases hz), by decide, by decide, tw4_43, by decide +kernel, rfl⟩, fun q => ?_⟩
      refine aw_astore_n hC dL_wayBy_12 (by decide) ?_
      refine aw_iconst hC dL_wayBy_13 (v := 1) (by decide) ?_
      exact aw_irL hC dL_wayBy_14 rfl rfl rfl rfl
  · rcases hq with ⟨v, e2, rfl, rfl⟩ | ⟨i, e0, e2, -, -, -⟩
    · rw [hrv] at e2
      cases e2
      refine aw_i2l hC dL_wayBy_7 ?_
      refine aw_last (r := (8, 0, 1)) (n := 1) (k := 0) (F := wF) hC dL_wayBy_8 (by decide +kernel) rfl rfl rfl rfl (fun h2 => ?_)
      refine aw_goto hC dL_wayBy_9 (tgt := 15) (by decide) ?_
      refine aw_iconst hC dL_wayBy_15 (v := 0) (by decide) ?_
      exact aw_irL hC dL_wayBy_16 rfl rfl rfl rfl
    · rw [hrv] at e2; cases e2
theorem A_L_prefer (l : Launch) (hl0 : l.stackTraces = false) (D : va_G) (loc : Rf → Nat) (cy : Nat → ClassId) (p1 : Int32) (p2 : Int32) (h : HD) {rr : RR} {k : Int32} {h2 : HD} (hA : AX l D loc cy yX8_prefer (Cond.code yX8_prefer cX8_prefer 4 (some .int) :: LW) 7 121 2 12 [.ref (loc (6, 0, 0)), .int p1, .int p2] h (some rr)) (hq : LQ [2, 1] rr k h2) : AL l D loc cy yL_prefer cL_prefer 5 [(0, 10, 13, 35), (0, 10, 17, 19)] 8 144 2 12 [.ref (loc (6, 0, 0)), .int p1, .int p2, .ref (loc (8, 0, 1))] h (some (.inr (some (.int k)), h2)) := by
  refine al_start (y := yL_prefer) (av := [.ref (loc (6, 0, 0)), .int p1, .int p2, .ref (loc (8, 0, 1))]) (nL := 5) (h := h) (RF := fun (x : Option RR) => x) (x := some (.inr (some (.int k)), h2)) hl0 (by decide +kernel) rfl ?_
  intro p e R s m below meth c A htab hC
  refine aw_aload_n hC dL_prefer_0 rfl ?_
  refine aw_iconst hC dL_prefer_1 (v := 0) (by decide) ?_
  refine aw_aload_n hC dL_prefer_2 rfl ?_
  refine aw_iload_n hC dL_prefer_3 rfl ?_
  refine aw_iload_n hC dL_prefer_4 rfl ?_
  refine aw_callC (n := 2) (h := h) (mc2 := 2) (ms2 := 12) hC htab dL_prefer_5 cv_RL_80 rfl rm_6_0_0 hA rfl rfl rfl rfl rfl ⟨rfl, rfl⟩ (fun e1 he => ?_) (fun rv hrv => ?_)
  · rcases hq with ⟨v, e2, -, -⟩ | ⟨i, e0, e2, hi, rfl, rfl⟩
    · rw [he] at e2; cases e2
    · rw [he] at e2
      cases e2
      rcases ix2 hi with ⟨rfl, rfl⟩ | ⟨rfl, rfl⟩
      · refine ⟨13, ⟨[], ⟨0, 10, 13, 35⟩, [⟨0, 10, 17, 19⟩], rfl, (fun z hz => by cases hz), by decide, by decide, tw5_183, by decide +kernel, rfl⟩, fun q => ?_⟩
        refine aw_astore hC dL_prefer_13 (by decide) ?_
        refine aw_iconst hC dL_prefer_15 (v := 1) (by decide) ?_
        exact aw_irL hC dL_prefer_16 rfl rfl rfl rfl
      · refine ⟨17, ⟨[⟨0, 10, 13, 35⟩], ⟨0, 10, 17, 19⟩, [], rfl, (fun z hz => by cases List.mem_singleton.mp hz; exact ⟨by decide, tw5_183, rfl⟩), by decide, by decide, tw4_43, by decide +kernel, rfl⟩, fun q => ?_⟩
        refine aw_astore hC dL_prefer_17 (by decide) ?_
        refine aw_iconst hC dL_prefer_19 (v := 2) (by decide) ?_
        exact aw_irL hC dL_prefer_20 rfl rfl rfl rfl
  · rcases hq with ⟨v, e2, rfl, rfl⟩ | ⟨i, e0, e2, -, -, -⟩
    · rw [hrv] at e2
      cases e2
      refine aw_i2l hC dL_prefer_8 ?_
      refine aw_last (r := (8, 0, 1)) (n := 1) (k := 0) (F := wF) hC dL_prefer_9 (by decide +kernel) rfl rfl rfl rfl (fun h2 => ?_)
      refine aw_goto hC dL_prefer_10 (tgt := 21) (by decide) ?_
      refine aw_iconst hC dL_prefer_21 (v := 0) (by decide) ?_
      exact aw_irL hC dL_prefer_22 rfl rfl rfl rfl
    · rw [hrv] at e2; cases e2
theorem A_L_swap (l : Launch) (hl0 : l.stackTraces = false) (D : va_G) (loc : Rf → Nat) (cy : Nat → ClassId) (p1 : Int32) (h : HD) {rr : RR} {k : Int32} {h2 : HD} (hA : AX l D loc cy yX8_swap (Cond.code yX8_swap cX8_swap 2 (some .boolean) :: LW) 7 128 1 6 [.ref (loc (6, 0, 0)), .int p1] h (some rr)) (hq : LQB [2] rr k h2) : AL l D loc cy yL_swap cL_swap 4 [(0, 16, 19, 35)] 8 149 1 6 [.ref (loc (6, 0, 0)), .int p1, .ref (loc (8, 0, 1))] h (some (.inr (some (.int k)), h2)) := by
  refine al_start (y := yL_swap) (av := [.ref (loc (6, 0, 0)), .int p1, .ref (loc (8, 0, 1))]) (nL := 4) (h := h) (RF := fun (x : Option RR) => x) (x := some (.inr (some (.int k)), h2)) hl0 (by decide +kernel) rfl ?_
  intro p e R s m below meth c A htab hC
  refine aw_aload_n hC dL_swap_0 rfl ?_
  refine aw_iconst hC dL_swap_1 (v := 0) (by decide) ?_
  refine aw_aload_n hC dL_swap_2 rfl ?_
  refine aw_iload_n hC dL_swap_3 rfl ?_
  refine aw_callC (n := 1) (h := h) (mc2 := 1) (ms2 := 6) hC htab dL_swap_4 cv_RL_83 rfl rm_6_0_0 hA rfl rfl rfl rfl rfl ⟨rfl, rfl⟩ (fun e1 he => ?_) (fun rv hrv => ?_)
  · rcases hq with ⟨v, e2, -, -⟩ | ⟨i, e0, e2, hi, rfl, rfl⟩
    · rw [he] at e2; cases e2
    · rw [he] at e2
      cases e2
      obtain ⟨rfl, rfl⟩ := ix1 hi
      refine ⟨19, ⟨[], ⟨0, 16, 19, 35⟩, [], rfl, (fun z hz => by cases hz), by decide, by decide, tw5_183, by decide +kernel, rfl⟩, fun q => ?_⟩
      refine aw_astore_n hC dL_swap_19 (by decide) ?_
      refine aw_iconst hC dL_swap_20 (v := 1) (by decide) ?_
      exact aw_irL hC dL_swap_21 rfl rfl rfl rfl
  · rcases hq with ⟨v, e2, rfl, rfl⟩ | ⟨i, e0, e2, -, -, -⟩
    · rw [hrv] at e2
      cases e2
      cases v with
      | true =>
        refine aw_if_eq_f hC dL_swap_7 (tgt := 14) (by decide) (by decide) ?_
        refine aw_lconst hC dL_swap_10 (v := 1) (by decide) ?_
        refine aw_goto hC dL_swap_11 (tgt := 15) (by decide) ?_
        refine aw_last (r := (8, 0, 1)) (n := 1) (k := 0) (F := wF) hC dL_swap_15 (by decide +kernel) rfl rfl rfl rfl (fun h2 => ?_)
        refine aw_goto hC dL_swap_16 (tgt := 22) (by decide) ?_
        refine aw_iconst hC dL_swap_22 (v := 0) (by decide) ?_
        exact aw_irL hC dL_swap_23 rfl rfl rfl rfl
      | false =>
        refine aw_if_eq_t hC dL_swap_7 (tgt := 14) (by decide) (by decide) ?_
        refine aw_lconst hC dL_swap_14 (v := 0) (by decide) ?_
        refine aw_last (r := (8, 0, 1)) (n := 1) (k := 0) (F := wF) hC dL_swap_15 (by decide +kernel) rfl rfl rfl rfl (fun h2 => ?_)
        refine aw_goto hC dL_swap_16 (tgt := 22) (by decide) ?_
        refine aw_iconst hC dL_swap_22 (v := 0) (by decide) ?_
        exact aw_irL hC dL_swap_23 rfl rfl rfl rfl
    · rw [hrv] at e2; cases e2
theorem A_L_turn (l : Launch) (hl0 : l.stackTraces = false) (D : va_G) (loc : Rf → Nat) (cy : Nat → ClassId) (p1 : Int32) (h : HD) {rr : RR} {k : Int32} {h2 : HD} (hA : AX l D loc cy yX8_turn (Cond.code yX8_turn cX8_turn 2 (some .int) :: LW) 7 168 1 6 [.ref (loc (6, 0, 0)), .int p1] h (some rr)) (hq : LQ [1] rr k h2) : AL l D loc cy yL_turn cL_turn 4 [(0, 9, 12, 19)] 8 189 1 6 [.ref (loc (6, 0, 0)), .int p1, .ref (loc (8, 0, 1))] h (some (.inr (some (.int k)), h2)) := by
  refine al_start (y := yL_turn) (av := [.ref (loc (6, 0, 0)), .int p1, .ref (loc (8, 0, 1))]) (nL := 4) (h := h) (RF := fun (x : Option RR) => x) (x := some (.inr (some (.int k)), h2)) hl0 (by decide +kernel) rfl ?_
  intro p e R s m below meth c A htab hC
  refine aw_aload_n hC dL_turn_0 rfl ?_
  refine aw_iconst hC dL_turn_1 (v := 0) (by decide) ?_
  refine aw_aload_n hC dL_turn_2 rfl ?_
  refine aw_iload_n hC dL_turn_3 rfl ?_
  refine aw_callC (n := 1) (h := h) (mc2 := 1) (ms2 := 6) hC htab dL_turn_4 cv_RL_87 rfl rm_6_0_0 hA rfl rfl rfl rfl rfl ⟨rfl, rfl⟩ (fun e1 he => ?_) (fun rv hrv => ?_)
  · rcases hq with ⟨v, e2, -, -⟩ | ⟨i, e0, e2, hi, rfl, rfl⟩
    · rw [he] at e2; cases e2
    · rw [he] at e2
      cases e2
      obtain ⟨rfl, rfl⟩ := ix1 hi
      refine ⟨12, ⟨[], ⟨0, 9, 12, 19⟩, [], rfl, (fun z hz => by cases hz), by decide, by decide, tw4_43, by decide +kernel, rfl⟩, fun q => ?_⟩
      refine aw_astore_n hC dL_turn_12 (by decide) ?_
      refine aw_iconst hC dL_turn_13 (v := 1) (by decide) ?_
      exact aw_irL hC dL_turn_14 rfl rfl rfl rfl
  · rcases hq with ⟨v, e2, rfl, rfl⟩ | ⟨i, e0, e2, -, -, -⟩
    · rw [hrv] at e2
      cases e2
      refine aw_i2l hC dL_turn_7 ?_
      refine aw_last (r := (8, 0, 1)) (n := 1) (k := 0) (F := wF) hC dL_turn_8 (by decide +kernel) rfl rfl rfl rfl (fun h2 => ?_)
      refine aw_goto hC dL_turn_9 (tgt := 15) (by decide) ?_
      refine aw_iconst hC dL_turn_15 (v := 0) (by decide) ?_
      exact aw_irL hC dL_turn_16 rfl rfl rfl rfl
    · rw [hrv] at e2; cases e2
theorem A_L_setBack (l : Launch) (hl0 : l.stackTraces = false) (D : va_G) (loc : Rf → Nat) (cy : Nat → ClassId) (p1 : Int32) (h : HD) {rr : RR} {k : Int32} {h2 : HD} (hA : AX l D loc cy yX8_setBack (Cond.code yX8_setBack cX8_setBack 3 (some .int) :: LW) 7 121 1 6 [.ref (loc (6, 0, 0)), .int p1] h (some rr)) (hq : LQ [1] rr k h2) : AL l D loc cy yL_setBack cL_setBack 4 [(0, 9, 12, 19)] 8 143 1 6 [.ref (loc (6, 0, 0)), .int p1, .ref (loc (8, 0, 1))] h (some (.inr (some (.int k)), h2)) := by
  refine al_start (y := yL_setBack) (av := [.ref (loc (6, 0, 0)), .int p1, .ref (loc (8, 0, 1))]) (nL := 4) (h := h) (RF := fun (x : Option RR) => x) (x := some (.inr (some (.int k)), h2)) hl0 (by decide +kernel) rfl ?_
  intro p e R s m below meth c A htab hC
  refine aw_aload_n hC dL_setBack_0 rfl ?_
  refine aw_iconst hC dL_setBack_1 (v := 0) (by decide) ?_
  refine aw_aload_n hC dL_setBack_2 rfl ?_
  refine aw_iload_n hC dL_setBack_3 rfl ?_
  refine aw_callC (n := 1) (h := h) (mc2 := 1) (ms2 := 6) hC htab dL_setBack_4 cv_RL_90 rfl rm_6_0_0 hA rfl rfl rfl rfl rfl ⟨rfl, rfl⟩ (fun e1 he => ?_) (fun rv hrv => ?_)
  · rcases hq with ⟨v, e2, -, -⟩ | ⟨i, e0, e2, hi, rfl, rfl⟩
    · rw [he] at e2; cases e2
    · rw [he] at e2
      cases e2
      obtain ⟨rfl, rfl⟩ := ix1 hi
      refine ⟨12, ⟨[], ⟨0, 9, 12, 19⟩, [], rfl, (fun z hz => by cases hz), by decide, by decide, tw4_43, by decide +kernel, rfl⟩, fun q => ?_⟩
      refine aw_astore_n hC dL_setBack_12 (by decide) ?_
      refine aw_iconst hC dL_setBack_13 (v := 1) (by decide) ?_
      exact aw_irL hC dL_setBack_14 rfl rfl rfl rfl
  · rcases hq with ⟨v, e2, rfl, rfl⟩ | ⟨i, e0, e2, -, -, -⟩
    · rw [hrv] at e2
      cases e2
      refine aw_i2l hC dL_setBack_7 ?_
      refine aw_last (r := (8, 0, 1)) (n := 1) (k := 0) (F := wF) hC dL_setBack_8 (by decide +kernel) rfl rfl rfl rfl (fun h2 => ?_)
      refine aw_goto hC dL_setBack_9 (tgt := 15) (by decide) ?_
      refine aw_iconst hC dL_setBack_15 (v := 0) (by decide) ?_
      exact aw_irL hC dL_setBack_16 rfl rfl rfl rfl
    · rw [hrv] at e2; cases e2
theorem A_L_come (l : Launch) (hl0 : l.stackTraces = false) (D : va_G) (loc : Rf → Nat) (cy : Nat → ClassId) (p1 : Int32) (h : HD) {rr : RR} {k : Int32} {h2 : HD} (hA : AX l D loc cy yX8_come (Cond.code yX8_come cX8_come 3 (some .boolean) :: LW) 6 128 1 6 [.ref (loc (6, 0, 0)), .int p1] h (some rr)) (hq : LQB [1] rr k h2) : AL l D loc cy yL_come cL_come 4 [(0, 16, 19, 19)] 7 150 1 6 [.ref (loc (6, 0, 0)), .int p1, .ref (loc (8, 0, 1))] h (some (.inr (some (.int k)), h2)) := by
  refine al_start (y := yL_come) (av := [.ref (loc (6, 0, 0)), .int p1, .ref (loc (8, 0, 1))]) (nL := 4) (h := h) (RF := fun (x : Option RR) => x) (x := some (.inr (some (.int k)), h2)) hl0 (by decide +kernel) rfl ?_
  intro p e R s m below meth c A htab hC
  refine aw_aload_n hC dL_come_0 rfl ?_
  refine aw_iconst hC dL_come_1 (v := 0) (by decide) ?_
  refine aw_aload_n hC dL_come_2 rfl ?_
  refine aw_iload_n hC dL_come_3 rfl ?_
  refine aw_callC (n := 1) (h := h) (mc2 := 1) (ms2 := 6) hC htab dL_come_4 cv_RL_93 rfl rm_6_0_0 hA rfl rfl rfl rfl rfl ⟨rfl, rfl⟩ (fun e1 he => ?_) (fun rv hrv => ?_)
  · rcases hq with ⟨v, e2, -, -⟩ | ⟨i, e0, e2, hi, rfl, rfl⟩
    · rw [he] at e2; cases e2
    · rw [he] at e2
      cases e2
      obtain ⟨rfl, rfl⟩ := ix1 hi
      refine ⟨19, ⟨[], ⟨0, 16, 19, 19⟩, [], rfl, (fun z hz => by cases hz), by decide, by decide, tw4_43, by decide +kernel, rfl⟩, fun q => ?_⟩
      refine aw_astore_n hC dL_come_19 (by decide) ?_
      refine aw_iconst hC dL_come_20 (v := 1) (by decide) ?_
      exact aw_irL hC dL_come_21 rfl rfl rfl rfl
  · rcases hq with ⟨v, e2, rfl, rfl⟩ | ⟨i, e0, e2, -, -, -⟩
    · rw [hrv] at e2
      cases e2
      cases v with
      | true =>
        refine aw_if_eq_f hC dL_come_7 (tgt := 14) (by decide) (by decide) ?_
        refine aw_lconst hC dL_come_10 (v := 1) (by decide) ?_
        refine aw_goto hC dL_come_11 (tgt := 15) (by decide) ?_
        refine aw_last (r := (8, 0, 1)) (n := 1) (k := 0) (F := wF) hC dL_come_15 (by decide +kernel) rfl rfl rfl rfl (fun h2 => ?_)
        refine aw_goto hC dL_come_16 (tgt := 22) (by decide) ?_
        refine aw_iconst hC dL_come_22 (v := 0) (by decide) ?_
        exact aw_irL hC dL_come_23 rfl rfl rfl rfl
      | false =>
        refine aw_if_eq_t hC dL_come_7 (tgt := 14) (by decide) (by decide) ?_
        refine aw_lconst hC dL_come_14 (v := 0) (by decide) ?_
        refine aw_last (r := (8, 0, 1)) (n := 1) (k := 0) (F := wF) hC dL_come_15 (by decide +kernel) rfl rfl rfl rfl (fun h2 => ?_)
        refine aw_goto hC dL_come_16 (tgt := 22) (by decide) ?_
        refine aw_iconst hC dL_come_22 (v := 0) (by decide) ?_
        exact aw_irL hC dL_come_23 rfl rfl rfl rfl
    · rw [hrv] at e2; cases e2
theorem A_L_go (l : Launch) (hl0 : l.stackTraces = false) (D : va_G) (loc : Rf → Nat) (cy : Nat → ClassId) (p1 : Int32) (h : HD) {rr : RR} {k : Int32} {h2 : HD} (hA : AX l D loc cy yX8_go (Cond.code yX8_go cX8_go 2 (some .boolean) :: LW) 7 128 1 6 [.ref (loc (6, 0, 0)), .int p1] h (some rr)) (hq : LQB [2] rr k h2) : AL l D loc cy yL_go cL_go 4 [(0, 16, 19, 35)] 8 149 1 6 [.ref (loc (6, 0, 0)), .int p1, .ref (loc (8, 0, 1))] h (some (.inr (some (.int k)), h2)) := by
  refine al_start (y := yL_go) (av := [.ref (loc (6, 0, 0)), .int p1, .ref (loc (8, 0, 1))]) (nL := 4) (h := h) (RF := fun (x : Option RR) => x) (x := some (.inr (some (.int k)), h2)) hl0 (by decide +kernel) rfl ?_
  intro p e R s m below meth c A htab hC
  refine aw_aload_n hC dL_go_0 rfl ?_
  refine aw_iconst hC dL_go_1 (v := 0) (by decide) ?_
  refine aw_aload_n hC dL_go_2 rfl ?_
  refine aw_iload_n hC dL_go_3 rfl ?_
  refine aw_callC (n := 1) (h := h) (mc2 := 1) (ms2 := 6) hC htab dL_go_4 cv_RL_96 rfl rm_6_0_0 hA rfl rfl rfl rfl rfl ⟨rfl, rfl⟩ (fun e1 he => ?_) (fun rv hrv => ?_)
  · rcases hq with ⟨v, e2, -, -⟩ | ⟨i, e0, e2, hi, rfl, rfl⟩
    · rw [he] at e2; cases e2
    · rw [he] at e2
      cases e2
      obtain ⟨rfl, rfl⟩ := ix1 hi
      refine ⟨19, ⟨[], ⟨0, 16, 19, 35⟩, [], rfl, (fun z hz => by cases hz), by decide, by decide, tw5_183, by decide +kernel, rfl⟩, fun q => ?_⟩
      refine aw_astore_n hC dL_go_19 (by decide) ?_
      refine aw_iconst hC dL_go_20 (v := 1) (by decide) ?_
      exact aw_irL hC dL_go_21 rfl rfl rfl rfl
  · rcases hq with ⟨v, e2, rfl, rfl⟩ | ⟨i, e0, e2, -, -, -⟩
    · rw [hrv] at e2
      cases e2
      cases v with
      | true =>
        refine aw_if_eq_f hC dL_go_7 (tgt := 14) (by decide) (by decide) ?_
        refine aw_lconst hC dL_go_10 (v := 1) (by decide) ?_
        refine aw_goto hC dL_go_11 (tgt := 15) (by decide) ?_
        refine aw_last (r := (8, 0, 1)) (n := 1) (k := 0) (F := wF) hC dL_go_15 (by decide +kernel) rfl rfl rfl rfl (fun h2 => ?_)
        refine aw_goto hC dL_go_16 (tgt := 22) (by decide) ?_
        refine aw_iconst hC dL_go_22 (v := 0) (by decide) ?_
        exact aw_irL hC dL_go_23 rfl rfl rfl rfl
      | false =>
        refine aw_if_eq_t hC dL_go_7 (tgt := 14) (by decide) (by decide) ?_
        refine aw_lconst hC dL_go_14 (v := 0) (by decide) ?_
        refine aw_last (r := (8, 0, 1)) (n := 1) (k := 0) (F := wF) hC dL_go_15 (by decide +kernel) rfl rfl rfl rfl (fun h2 => ?_)
        refine aw_goto hC dL_go_16 (tgt := 22) (by decide) ?_
        refine aw_iconst hC dL_go_22 (v := 0) (by decide) ?_
        exact aw_irL hC dL_go_23 rfl rfl rfl rfl
    · rw [hrv] at e2; cases e2
theorem A_L_account (l : Launch) (hl0 : l.stackTraces = false) (D : va_G) (loc : Rf → Nat) (cy : Nat → ClassId) (p1 : Int32) (h : HD) {rr : RR} {k : Int32} {h2 : HD} (hA : AX l D loc cy yX8_account (Cond.code yX8_account cX8_account 2 (some .int) :: LW) 6 100 1 6 [.ref (loc (6, 0, 0)), .int p1] h (some rr)) (hq : LQ [1] rr k h2) : AL l D loc cy yL_account cL_account 4 [(0, 9, 12, 19)] 7 121 1 6 [.ref (loc (6, 0, 0)), .int p1, .ref (loc (8, 0, 1))] h (some (.inr (some (.int k)), h2)) := by
  refine al_start (y := yL_account) (av := [.ref (loc (6, 0, 0)), .int p1, .ref (loc (8, 0, 1))]) (nL := 4) (h := h) (RF := fun (x : Option RR) => x) (x := some (.inr (some (.int k)), h2)) hl0 (by decide +kernel) rfl ?_
  intro p e R s m below meth c A htab hC
  refine aw_aload_n hC dL_account_0 rfl ?_
  refine aw_iconst hC dL_account_1 (v := 0) (by decide) ?_
  refine aw_aload_n hC dL_account_2 rfl ?_
  refine aw_iload_n hC dL_account_3 rfl ?_
  refine aw_callC (n := 1) (h := h) (mc2 := 1) (ms2 := 6) hC htab dL_account_4 cv_RL_99 rfl rm_6_0_0 hA rfl rfl rfl rfl rfl ⟨rfl, rfl⟩ (fun e1 he => ?_) (fun rv hrv => ?_)
  · rcases hq with ⟨v, e2, -, -⟩ | ⟨i, e0, e2, hi, rfl, rfl⟩
    · rw [he] at e2; cases e2
    · rw [he] at e2
      cases e2
      obtain ⟨rfl, rfl⟩ := ix1 hi
      refine ⟨12, ⟨[], ⟨0, 9, 12, 19⟩, [], rfl, (fun z hz => by cases hz), by decide, by decide, tw4_43, by decide +kernel, rfl⟩, fun q => ?_⟩
      refine aw_astore_n hC dL_account_12 (by decide) ?_
      refine aw_iconst hC dL_account_13 (v := 1) (by decide) ?_
      exact aw_irL hC dL_account_14 rfl rfl rfl rfl
  · rcases hq with ⟨v, e2, rfl, rfl⟩ | ⟨i, e0, e2, -, -, -⟩
    · rw [hrv] at e2
      cases e2
      refine aw_i2l hC dL_account_7 ?_
      refine aw_last (r := (8, 0, 1)) (n := 1) (k := 0) (F := wF) hC dL_account_8 (by decide +kernel) rfl rfl rfl rfl (fun h2 => ?_)
      refine aw_goto hC dL_account_9 (tgt := 15) (by decide) ?_
      refine aw_iconst hC dL_account_15 (v := 0) (by decide) ?_
      exact aw_irL hC dL_account_16 rfl rfl rfl rfl
    · rw [hrv] at e2; cases e2
theorem A_L_reportByte (l : Launch) (hl0 : l.stackTraces = false) (D : va_G) (loc : Rf → Nat) (cy : Nat → ClassId) (p1 : Int32) (h : HD) {rr : RR} {k : Int32} {h2 : HD} (hA : AX l D loc cy yX8_reportByte (Cond.code yX8_reportByte cX8_reportByte 2 (some .int) :: LW) 6 100 1 6 [.ref (loc (6, 0, 0)), .int p1] h (some rr)) (hq : LQ [2] rr k h2) : AL l D loc cy yL_reportByte cL_reportByte 4 [(0, 9, 12, 35)] 7 121 1 6 [.ref (loc (6, 0, 0)), .int p1, .ref (loc (8, 0, 1))] h (some (.inr (some (.int k)), h2)) := by
  refine al_start (y := yL_reportByte) (av := [.ref (loc (6, 0, 0)), .int p1, .ref (loc (8, 0, 1))]) (nL := 4) (h := h) (RF := fun (x : Option RR) => x) (x := some (.inr (some (.int k)), h2)) hl0 (by decide +kernel) rfl ?_
  intro p e R s m below meth c A htab hC
  refine aw_aload_n hC dL_reportByte_0 rfl ?_
  refine aw_iconst hC dL_reportByte_1 (v := 0) (by decide) ?_
  refine aw_aload_n hC dL_reportByte_2 rfl ?_
  refine aw_iload_n hC dL_reportByte_3 rfl ?_
  refine aw_callC (n := 1) (h := h) (mc2 := 1) (ms2 := 6) hC htab dL_reportByte_4 cv_RL_102 rfl rm_6_0_0 hA rfl rfl rfl rfl rfl ⟨rfl, rfl⟩ (fun e1 he => ?_) (fun rv hrv => ?_)
  · rcases hq with ⟨v, e2, -, -⟩ | ⟨i, e0, e2, hi, rfl, rfl⟩
    · rw [he] at e2; cases e2
    · rw [he] at e2
      cases e2
      obtain ⟨rfl, rfl⟩ := ix1 hi
      refine ⟨12, ⟨[], ⟨0, 9, 12, 35⟩, [], rfl, (fun z hz => by cases hz), by decide, by decide, tw5_183, by decide +kernel, rfl⟩, fun q => ?_⟩
      refine aw_astore_n hC dL_reportByte_12 (by decide) ?_
      refine aw_iconst hC dL_reportByte_13 (v := 1) (by decide) ?_
      exact aw_irL hC dL_reportByte_14 rfl rfl rfl rfl
  · rcases hq with ⟨v, e2, rfl, rfl⟩ | ⟨i, e0, e2, -, -, -⟩
    · rw [hrv] at e2
      cases e2
      refine aw_i2l hC dL_reportByte_7 ?_
      refine aw_last (r := (8, 0, 1)) (n := 1) (k := 0) (F := wF) hC dL_reportByte_8 (by decide +kernel) rfl rfl rfl rfl (fun h2 => ?_)
      refine aw_goto hC dL_reportByte_9 (tgt := 15) (by decide) ?_
      refine aw_iconst hC dL_reportByte_15 (v := 0) (by decide) ?_
      exact aw_irL hC dL_reportByte_16 rfl rfl rfl rfl
    · rw [hrv] at e2; cases e2
theorem A_L_restore (l : Launch) (hl0 : l.stackTraces = false) (D : va_G) (loc : Rf → Nat) (cy : Nat → ClassId)  (h : HD) {rr : RR} {k : Int32} {h2 : HD} (hA : AX l D loc cy yX8_restore (Cond.code yX8_restore cX8_restore 1 (some .int) :: LW) 6 100 1 6 [.ref (loc (6, 0, 0))] h (some rr)) (hq : LQ [0] rr k h2) : AL l D loc cy yL_restore cL_restore 3 [(0, 8, 11, 13)] 7 120 1 6 [.ref (loc (6, 0, 0)), .ref (loc (8, 0, 1))] h (some (.inr (some (.int k)), h2)) := by
  refine al_start (y := yL_restore) (av := [.ref (loc (6, 0, 0)), .ref (loc (8, 0, 1))]) (nL := 3) (h := h) (RF := fun (x : Option RR) => x) (x := some (.inr (some (.int k)), h2)) hl0 (by decide +kernel) rfl ?_
  intro p e R s m below meth c A htab hC
  refine aw_aload_n hC dL_restore_0 rfl ?_
  refine aw_iconst hC dL_restore_1 (v := 0) (by decide) ?_
  refine aw_aload_n hC dL_restore_2 rfl ?_
  refine aw_callC (n := 0) (h := h) (mc2 := 1) (ms2 := 6) hC htab dL_restore_3 cv_RL_105 rfl rm_6_0_0 hA rfl rfl rfl rfl rfl ⟨rfl, rfl⟩ (fun e1 he => ?_) (fun rv hrv => ?_)
  · rcases hq with ⟨v, e2, -, -⟩ | ⟨i, e0, e2, hi, rfl, rfl⟩
    · rw [he] at e2; cases e2
    · rw [he] at e2
      cases e2
      obtain ⟨rfl, rfl⟩ := ix1 hi
      refine ⟨11, ⟨[], ⟨0, 8, 11, 13⟩, [], rfl, (fun z hz => by cases hz), by decide, by decide, tw3_204, by decide +kernel, rfl⟩, fun q => ?_⟩
      refine aw_astore_n hC dL_restore_11 (by decide) ?_
      refine aw_iconst hC dL_restore_12 (v := 1) (by decide) ?_
      exact aw_irL hC dL_restore_13 rfl rfl rfl rfl
  · rcases hq with ⟨v, e2, rfl, rfl⟩ | ⟨i, e0, e2, -, -, -⟩
    · rw [hrv] at e2
      cases e2
      refine aw_i2l hC dL_restore_6 ?_
      refine aw_last (r := (8, 0, 1)) (n := 1) (k := 0) (F := wF) hC dL_restore_7 (by decide +kernel) rfl rfl rfl rfl (fun h2 => ?_)
      refine aw_goto hC dL_restore_8 (tgt := 14) (by decide) ?_
      refine aw_iconst hC dL_restore_14 (v := 0) (by decide) ?_
      exact aw_irL hC dL_restore_15 rfl rfl rfl rfl
    · rw [hrv] at e2; cases e2
