/-! numbers; the class's next token -/
theorem isD_s {b : Int} (h : isD b = true) : sby b = b ∧ 48 ≤ b ∧ b ≤ 57 := by
  have := of_decide_eq_true h
  refine ⟨?_, this.1, this.2⟩
  unfold sby
  rw [if_pos (by omega)]
theorem x8_isDigit (h : HD) {b : Int} (h1 : 0 ≤ b) (h2 : b < 256) : jX8_isDigit (iZ (sby b)) h = isD b := by
  unfold jX8_isDigit
  have e : (48 ≤ sby b ∧ sby b ≤ 57) ↔ (48 ≤ b ∧ b ≤ 57) := by unfold sby; split <;> omega
  have hs : -128 ≤ sby b ∧ sby b < 128 := by unfold sby; split <;> omega
  unfold isD
  rw [show (48 : Int32) = iZ 48 from rfl, show (57 : Int32) = iZ 57 from rfl]
  by_cases q1 : sby b < 48
  · rw [if_pos (lt_y (by omega) (by omega) (by omega)), decide_eq_false (by omega)]
  · rw [if_neg (lt_n (by omega) (by omega) (by omega))]
    by_cases q2 : 57 < sby b
    · rw [if_pos (lt_y (by omega) (by omega) (by omega)), decide_eq_false (by omega)]
    · rw [if_neg (lt_n (by omega) (by omega) (by omega)), decide_eq_true (by omega)]
theorem nmD_0 (bs : Int → Int) (p : Int) : nmD bs p 0 = 0 := rfl
theorem nmD_b {len p : Int} {bs : Int → Int} {z : Int} (hz : 0 ≤ z) (h3 : z ≤ 3) (hd : p + z ≤ skD len bs p) : 0 ≤ nmD bs p z ∧ nmD bs p z ≤ 999 := by
  have step : ∀ y, 0 ≤ y → y < z → isD (bs (p + y)) = true := fun y y0 y1 => skD_y (len := len) (bs := bs) (show p ≤ p + y by omega) (by omega)
  have e0 := nmD_0 bs p
  have : z = 0 ∨ z = 1 ∨ z = 2 ∨ z = 3 := by omega
  have s1 := nmD_s bs p (z := 0) (by omega)
  have s2 := nmD_s bs p (z := 1) (by omega)
  have s3 := nmD_s bs p (z := 2) (by omega)
  rw [show (0 : Int) + 1 = 1 from rfl] at s1
  rw [show (1 : Int) + 1 = 2 from rfl] at s2
  rw [show (2 : Int) + 1 = 3 from rfl] at s3
  rcases this with e | e | e | e
  · rw [e]; omega
  · have d0 := isD_s (step 0 (by omega) (by omega))
    rw [e]; omega
  · have d0 := isD_s (step 0 (by omega) (by omega))
    have d1 := isD_s (step 1 (by omega) (by omega))
    rw [e]; omega
  · have d0 := isD_s (step 0 (by omega) (by omega))
    have d1 := isD_s (step 1 (by omega) (by omega))
    have d2 := isD_s (step 2 (by omega) (by omega))
    rw [e]; omega
section
variable {len i : Int} {bs : Int → Int} {h : HD}
theorem x6_number {p : Int} (hB : BfC 0 h len bs) (l1 : len ≤ 400) (p0 : 0 ≤ p) (p1 : p < len) (h2 : gI h (4, 0, 0) 2 = iZ p) (h3 : gI h (4, 0, 0) 3 = iZ p) : ∃ g, jX6_takeNumber h = some g ∧ Fr sTk h g ∧ TkC g (tokN len bs p) := by
  have hs := skD_in (bs := bs) (Int.le_of_lt p1)
  obtain ⟨h0, e0⟩ : ∃ h0, h0 = sI h (4, 0, 0) 5 (iZ 0) := ⟨_, rfl⟩
  have f0 : Fr sTk h h0 := by rw [e0]; exact Fr.rf.sI rfl _
  obtain ⟨K, hK⟩ : ∃ K : HD → Option HD, K = fun h7 => (if ((gI h7 (4, 0, 0) 3) - (gI h7 (4, 0, 0) 2)) ≤ (3 : Int32) then lt (sI h7 (4, 0, 0) 1 (2 : Int32)) fun h8 => some h8 else lt (sI h7 (4, 0, 0) 1 (4 : Int32)) fun h9 => some h9) := ⟨_, rfl⟩
  have u : jX6_takeNumber h = jX6_takeNumber_L5 K FU h0 := by
    unfold jX6_takeNumber
    rw [lt_eq, show (0 : Int32) = iZ 0 from rfl, ← e0, ← hK]
  rw [u]
  have hKx : ∀ x, K x = (if ((gI x (4, 0, 0) 3) - (gI x (4, 0, 0) 2)) ≤ (3 : Int32) then lt (sI x (4, 0, 0) 1 (2 : Int32)) fun h8 => some h8 else lt (sI x (4, 0, 0) 1 (4 : Int32)) fun h9 => some h9) := fun x => by rw [hK]
  refine loopI (fun f (x : HD) => jX6_takeNumber_L5 K f x) (fun y x => Fr sTk h0 x ∧ gI x (4, 0, 0) 2 = iZ p ∧ gI x (4, 0, 0) 3 = iZ y ∧ gI x (4, 0, 0) 5 = iZ (nmD bs p (mn (y - p) 3))) (a := p) (b := skD len bs p) (fun r => ∃ g, r = some g ∧ Fr sTk h g ∧ TkC g (tokN len bs p)) hs.1 ?_ ?_ FU h0 (FU_gt (by omega)) ⟨Fr.rf, by rw [e0, gI_nk _ _ _ (by decide)]; exact h2, by rw [e0, gI_nk _ _ _ (by decide)]; exact h3, by rw [e0, gI_self, show p - p = 0 by omega, show mn 0 3 = 0 from rfl, nmD_0]⟩
  · intro f y x y0 y1 hI
    obtain ⟨hF, g2, g3, gw⟩ := hI
    have hBx := hB.fr (f0.tr hF) rfl (fun _ => rfl)
    have hy := skD_y y0 y1
    have hb := (hB.2.2 y (by omega) (by omega)).1
    have hds := isD_s hy
    by_cases q : 3 ≤ y - p
    · refine ⟨sI x (4, 0, 0) 3 (iZ (y + 1)), ?_, hF.sI rfl _, by rw [gI_nk _ _ _ (by decide)]; exact g2, gI_self _ _ _ _, ?_⟩
      · show jX6_takeNumber_L5 K (f + 1) x = _
        rw [jX6_takeNumber_L5]
        unfold jX1_length
        rw [hBx.2.1, g3, if_neg (le_n (by omega) (by omega) (by omega)), x1_at hBx l1 (by omega) (by omega), Option.bind_some, x8_isDigit x hb.1 hb.2, if_pos hy, g2, iZ_sub, i3, if_pos (le_y (by omega) (by omega) (by omega)), lt_eq, i1, iZ_add]
      · rw [gI_nk _ _ _ (by decide), gw, show y + 1 - p = y - p + 1 by omega, (mn_e q).1, (mn_e q).2]
    · have hnb := nmD_b (len := len) (p := p) (bs := bs) (z := y - p) (by omega) (by omega) (by omega)
      refine ⟨sI (sI x (4, 0, 0) 5 (iZ (nmD bs p (y + 1 - p)))) (4, 0, 0) 3 (iZ (y + 1)), ?_, (hF.sI rfl _).sI rfl _, ?_, gI_self _ _ _ _, ?_⟩
      · show jX6_takeNumber_L5 K (f + 1) x = _
        rw [jX6_takeNumber_L5]
        unfold jX1_length
        rw [hBx.2.1, g3, if_neg (le_n (by omega) (by omega) (by omega)), x1_at hBx l1 (by omega) (by omega), Option.bind_some, x8_isDigit x hb.1 hb.2, if_pos hy, g2, iZ_sub, i3, if_neg (le_n (by omega) (by omega) (by omega)), Option.bind_some, gw, (mn_s (show y - p < 3 by omega)).2, hds.1, show (48 : Int32) = iZ 48 from rfl, iZ_sub, i10, iZ_mul, iZ_add, lt_eq, lt_eq, gI_nk _ _ _ (by decide), g3, i1, iZ_add, show y + 1 - p = y - p + 1 by omega, nmD_s _ _ (show 0 ≤ y - p by omega), show p + (y - p) = y by omega]
      · rw [gI_nk _ _ _ (by decide), gI_nk _ _ _ (by decide)]; exact g2
      · rw [gI_nk _ _ _ (by decide), gI_self, show y + 1 - p = y - p + 1 by omega, (mn_s (show y - p < 3 by omega)).1, (mn_s (show y - p < 3 by omega)).2]
  · intro f x hI
    obtain ⟨hF, g2, g3, gw⟩ := hI
    have hBx := hB.fr (f0.tr hF) rfl (fun _ => rfl)
    have fin : K x = some (sI x (4, 0, 0) 1 (iZ (if skD len bs p - p ≤ 3 then 2 else 4))) := by
      rw [hKx, g3, g2, iZ_sub, i3]
      by_cases q : skD len bs p - p ≤ 3
      · rw [if_pos (le_y (by omega) (by omega) (by omega)), if_pos q]; rfl
      · rw [if_neg (le_n (by omega) (by omega) (by omega)), if_neg q]; rfl
    have e : jX6_takeNumber_L5 K (f + 1) x = some (sI x (4, 0, 0) 1 (iZ (if skD len bs p - p ≤ 3 then 2 else 4))) := by
      rw [jX6_takeNumber_L5]
      unfold jX1_length
      rw [hBx.2.1, g3]
      by_cases q : len ≤ skD len bs p
      · rw [if_pos (le_y (by omega) (by omega) (by omega))]; exact fin
      · have hy := skD_n (bs := bs) (Int.le_of_lt p1) (by omega)
        have hb := (hB.2.2 (skD len bs p) (by omega) (by omega)).1
        rw [if_neg (le_n (by omega) (by omega) (by omega)), x1_at hBx l1 (by omega) (by omega), Option.bind_some, x8_isDigit x hb.1 hb.2, hy, if_neg Bool.false_ne_true]
        exact fin
    refine ⟨_, e, (f0.tr hF).sI rfl _, gI_self _ _ _ _, (gI_nk _ _ _ (by decide) _).trans g2, (gI_nk _ _ _ (by decide) _).trans g3, fun c => ?_, fun _ => (gI_nk _ _ _ (by decide) _).trans gw, fun c => ?_⟩
    · exfalso
      have c2 : (if skD len bs p - p ≤ 3 then (2 : Int) else 4) = 1 := c
      split at c2 <;> omega
    · exfalso
      have c2 : (if skD len bs p - p ≤ 3 then (2 : Int) else 4) = 3 := c
      split at c2 <;> omega
/-- the class's next token -/
theorem x6_advance (hB : BfC 0 h len bs) (l1 : len ≤ 400) (ia : 0 ≤ i) (ib : i ≤ len) (h3 : gI h (4, 0, 0) 3 = iZ i) : ∃ g, jX6_advance h = some g ∧ Fr sTk h g ∧ TkC g (tok len bs i) := by
  have hs := skS_in (bs := bs) ib
  obtain ⟨p, hp⟩ : ∃ p, skS len bs i = p := ⟨_, rfl⟩
  rw [hp] at hs
  have ks := fun K => x6_skip (K := K) hB l1 ia ib h3
  rw [hp] at ks
  obtain ⟨g0, hg0⟩ : ∃ g0, g0 = sI (sI h (4, 0, 0) 3 (iZ p)) (4, 0, 0) 2 (iZ p) := ⟨_, rfl⟩
  have f0 : Fr sTk h g0 := by rw [hg0]; exact (Fr.rf.sI rfl _).sI rfl _
  have B0 := hB.fr f0 rfl (fun _ => rfl)
  have c3 : gI g0 (4, 0, 0) 3 = iZ p := by rw [hg0, gI_nk _ _ _ (by decide), gI_self]
  have c2 : gI g0 (4, 0, 0) 2 = iZ p := by rw [hg0, gI_self]
  unfold jX6_advance
  rw [ks]
  show ∃ g, (lt (sI (sI h (4, 0, 0) 3 (iZ p)) (4, 0, 0) 2 (gI (sI h (4, 0, 0) 3 (iZ p)) (4, 0, 0) 3)) _) = some g ∧ _
  rw [gI_self, ← hg0, lt_eq]
  unfold jX1_length
  rw [c3, B0.2.1]
  unfold tok
  rw [hp]
  by_cases q : p < len
  · have hb := (hB.2.2 p (by omega) q).1
    rw [x1_at B0 l1 (by omega) q, Option.bind_some, if_pos (lt_y (by omega) (by omega) (by omega)), x8_isLetter g0 hb.1 hb.2, if_pos q]
    by_cases qL : isL (bs p) = true
    · rw [if_pos qL, if_pos qL]
      obtain ⟨g, e, f, t⟩ := x6_word B0 l1 (by omega) q c2 c3
      exact ⟨g, by rw [e]; rfl, f0.tr f, t⟩
    · rw [if_neg qL, if_neg qL, x8_isDigit g0 hb.1 hb.2]
      by_cases qD : isD (bs p) = true
      · rw [if_pos qD, if_pos qD]
        obtain ⟨g, e, f, t⟩ := x6_number B0 l1 (by omega) q c2 c3
        exact ⟨g, by rw [e]; rfl, f0.tr f, t⟩
      · rw [if_neg qD, if_neg qD]
        have fin : ∀ (k : Int), (k = 3 ↔ (bs p = 59 ∨ bs p = 40 ∨ bs p = 41)) → (k = 3 ∨ k = 4) → TkC (sI (sI (sI g0 (4, 0, 0) 1 (iZ k)) (4, 0, 0) 6 (iZ (sby (bs p)))) (4, 0, 0) 3 (iZ (p + 1))) (tokM bs p) := fun k hk hk2 => by
          unfold tokM
          have ek : (if bs p = 59 ∨ bs p = 40 ∨ bs p = 41 then (3 : Int) else 4) = k := by
            by_cases m : bs p = 59 ∨ bs p = 40 ∨ bs p = 41
            · rw [if_pos m, hk.mpr m]
            · rw [if_neg m]
              rcases hk2 with e | e
              · exact absurd (hk.mp e) m
              · exact e.symm
          rw [ek]
          refine ⟨?_, ?_, gI_self _ _ _ _, fun c => ?_, fun c => ?_, fun c => ?_⟩
          · rw [gI_nk _ _ _ (by decide), gI_nk _ _ _ (by decide), gI_self]
          · rw [gI_nk _ _ _ (by decide), gI_nk _ _ _ (by decide), gI_nk _ _ _ (by decide)]; exact c2
          · exfalso; replace c : k = 1 := c; omega
          · exfalso; replace c : k = 2 := c; omega
          · rw [gI_nk _ _ _ (by decide), gI_self]
            replace c : k = 3 := c
            show iZ (sby (bs p)) = iZ (bs p)
            have := hk.mp c
            unfold sby
            rw [if_pos (by omega)]
        have fF : ∀ (k : Int), Fr sTk h (sI (sI (sI g0 (4, 0, 0) 1 (iZ k)) (4, 0, 0) 6 (iZ (sby (bs p)))) (4, 0, 0) 3 (iZ (p + 1))) := fun k => ((f0.sI rfl _).sI rfl _).sI rfl _
        have g3' : ∀ (k : Int), gI (sI (sI g0 (4, 0, 0) 1 (iZ k)) (4, 0, 0) 6 (iZ (sby (bs p)))) (4, 0, 0) 3 = iZ p := fun k => by
          rw [gI_nk _ _ _ (by decide), gI_nk _ _ _ (by decide)]; exact c3
        by_cases m1 : bs p = 59
        · rw [if_pos (show iZ (sby (bs p)) = 59 from (sby_is hb (c := 59) (by decide)).mpr m1)]
          refine ⟨_, ?_, fF 3, fin 3 (by omega) (Or.inl rfl)⟩
          rw [i3, lt_eq, lt_eq, lt_eq, g3', i1, iZ_add]
        · rw [if_neg (show ¬ iZ (sby (bs p)) = 59 from fun c => m1 ((sby_is hb (c := 59) (by decide)).mp c))]
          by_cases m2 : bs p = 40
          · rw [if_pos (show iZ (sby (bs p)) = 40 from (sby_is hb (c := 40) (by decide)).mpr m2)]
            refine ⟨_, ?_, fF 3, fin 3 (by omega) (Or.inl rfl)⟩
            rw [i3, lt_eq, lt_eq, lt_eq, g3', i1, iZ_add]
          · rw [if_neg (show ¬ iZ (sby (bs p)) = 40 from fun c => m2 ((sby_is hb (c := 40) (by decide)).mp c))]
            by_cases m3 : bs p = 41
            · rw [if_pos (show iZ (sby (bs p)) = 41 from (sby_is hb (c := 41) (by decide)).mpr m3)]
              refine ⟨_, ?_, fF 3, fin 3 (by omega) (Or.inl rfl)⟩
              rw [i3, lt_eq, lt_eq, lt_eq, g3', i1, iZ_add]
            · rw [if_neg (show ¬ iZ (sby (bs p)) = 41 from fun c => m3 ((sby_is hb (c := 41) (by decide)).mp c))]
              refine ⟨_, ?_, fF 4, fin 4 (by omega) (Or.inr rfl)⟩
              rw [show (4 : Int32) = iZ 4 from rfl, lt_eq, lt_eq, lt_eq, g3', i1, iZ_add]
  · have ea : jX1_at 0 (iZ p) g0 = some (iZ (-1)) := by
      unfold jX1_at
      rw [i0, if_neg (lt_n (by omega) (by omega) (by omega)), B0.2.1, if_pos (le_y (by omega) (by omega) (by omega))]
      rfl
    rw [ea, Option.bind_some, if_neg (lt_n (by omega) (by omega) (by omega)), if_neg q]
    refine ⟨sI g0 (4, 0, 0) 1 (iZ 0), rfl, f0.sI rfl _, gI_self _ _ _ _, (gI_nk _ _ _ (by decide) _).trans c2, (gI_nk _ _ _ (by decide) _).trans c3, fun c => ?_, fun c => ?_, fun c => ?_⟩
    · exact absurd (show (0 : Int) = 1 from c) (by decide)
    · exact absurd (show (0 : Int) = 2 from c) (by decide)
    · exact absurd (show (0 : Int) = 3 from c) (by decide)
end
