/-! CARS THAT COME AND GO, SORTING, one side at a time -/
def comR (R : Row) (k : List Nat) (v : Int) : Row := (R.1 + 1, R.2.1, updP R.2.2.1 R.1 v, fun i => if i = R.1 then k else R.2.2.2 i)
def goR (R : Row) (z : Int) : Row := (R.1 - 1, R.2.1, plf R.2.2.1 z (R.1 - 1), plf R.2.2.2 z (R.1 - 1))
theorem comR_ok {R : Row} {k : List Nat} {v : Int} (hok : RwOk R) (hn : R.1 < 11) (hk : NmOk k) (v0 : 0 ≤ v) (v1 : v ≤ R.1 + 1) : RwOk (comR R k v) := by
  obtain ⟨⟨a, b, c, d, e⟩, f⟩ := hok
  refine ⟨⟨by show 0 ≤ R.1 + 1; omega, by show R.1 + 1 ≤ 11; omega, c, d, fun i q1 q2 => ?_⟩, fun i q1 q2 => ?_⟩
  · show 0 ≤ updP R.2.2.1 R.1 v i ∧ updP R.2.2.1 R.1 v i ≤ R.1 + 1
    replace q2 : i < R.1 + 1 := q2
    unfold updP
    split
    · exact ⟨v0, v1⟩
    · have := e i q1 (by omega)
      omega
  · show NmOk (if i = R.1 then k else R.2.2.2 i)
    replace q2 : i < R.1 + 1 := q2
    split
    · exact hk
    · exact f i q1 (by omega)
theorem d8_come {h : HD} {R : Row} {a : Ac} {rf : Int32} {k : List Nat} {v : Int} (hS : SC h (R, a, rf)) (hok : RwOk R) (hk : NmZ k) : ∃ h3, jX8_doCome (jZ (eC k)) (iZ v) h = some (decide (R.1 < 11 ∧ k ≠ [] ∧ cnN R k = -1), h3) ∧ Fr sA8 h h3 ∧ SC h3 (if R.1 < 11 then (if k ≠ [] ∧ cnN R k = -1 then (comR R k v, bmp 2 (bmp 0 a), rf) else (R, bmp 1 a, 2)) else (R, bmp 1 a, 1)) := by
  have hn : 0 ≤ R.1 ∧ R.1 ≤ 11 := ⟨hok.1.1, hok.1.2.1⟩
  have ek := eC_z hk
  have hcn := cnN_in (R := R) (k := k) hn.1
  have hC0 : RwC h 0 R := hS.1
  unfold jX8_doCome jX2_count
  rw [hC0.1.1, i11]
  by_cases q1 : R.1 < 11
  · rw [if_pos (lt_y (by omega) (by omega) (by omega)), if_pos q1]
    by_cases q2 : k = []
    · obtain ⟨h4, e4, f4, c4⟩ := d8_refuse hS 2
      refine ⟨h4, ?_, f4, ?_⟩
      · rw [if_pos ((lg_eq0 _ _).mpr (by rw [q2]; rfl)), e4, decide_eq_false (fun e => e.2.1 q2)]
        rfl
      · rw [if_neg (fun e => e.1 q2)]; exact c4
    · have hne : ¬ lg_cmp (jZ (eC k)) 0 = 0 := fun e => by
        have := (lg_eq0 _ _).mp e
        rw [show (0 : Int64) = jZ 0 from rfl, jZ_eq (by omega) (by omega) (by omega) (by omega)] at this
        exact q2 (ek.2.2.mp this)
      rw [if_neg hne, x2_carNamed hS.1 hok hk, Option.bind_some, im1]
      by_cases q3 : cnN R k = -1
      · have hB := hS.bump 0 (by decide)
        rw [if_pos (show iZ (cnN R k) = iZ (-1) by rw [q3])]
        have hC : RwC (sI h (6, 0, 2) 0 (gI h (6, 0, 2) 0 + 1)) 0 R := hB.1
        generalize hg : sI h (6, 0, 2) 0 (gI h (6, 0, 2) 0 + 1) = g at hB hC
        have nj : ∀ i j : Nat, i ≠ j → ((1, 0, i) : Rf) ≠ (1, 0, j) := fun i j hij e => hij (congrArg (fun x : Rf => x.2.2) e)
        have key : ∃ h4, jX2_add 0 (jZ (eC k)) (iZ v) g = some h4 ∧ Fr (s1 0) g h4 ∧ RwC h4 0 (comR R k v) := by
          obtain ⟨⟨p2, p3, pp⟩, pn⟩ := hC
          refine ⟨sI (sJ (sI g (1, 0, 0) 2 (iZ (R.1 + 1))) (1, 0, 1) R.1.toNat (jZ (eC k))) (1, 0, 2) R.1.toNat (iZ v), ?_, ((Fr.rf.sI (s1_t 0 0 _) _).sJ (s1_t 0 1 _) _).sI (s1_t 0 2 _) _, ⟨?_, ?_, ?_⟩, ?_⟩
          · unfold jX2_add jX2_put
            rw [p2, i11, if_neg (le_n (by omega) (by omega) (by omega)), lt_eq, i1, iZ_add, gI_self, iZ_sub, show R.1 + 1 - 1 = R.1 by omega, x2_hasCar (n := R.1 + 1) (gI_self _ _ _ _) ⟨by omega, by omega⟩ (by omega) (by omega), decide_eq_true ⟨hn.1, by omega⟩, if_pos rfl, inB_t (by omega) (by omega) (by omega), if_pos rfl, lt_eq, if_pos rfl, lt_eq, iZ_nat (by omega) (by omega)]
            rfl
          · rw [gI_ne _ (nj 0 2 (by decide)), gI_sJ, gI_self]; rfl
          · rw [gI_ne _ (nj 0 2 (by decide)), gI_sJ, gI_nk _ _ _ (by decide)]; exact p3
          · intro z z1 z2
            replace z2 : z < R.1 + 1 := z2
            show _ = iZ (updP R.2.2.1 R.1 v z)
            unfold updP
            rw [gI_sI, gI_sJ]
            by_cases e : z = R.1
            · rw [if_pos ⟨rfl, by rw [e]⟩, if_pos e]
            · rw [if_neg (fun q => e (by omega)), if_neg e, gI_ne _ (nj 2 0 (by decide))]
              exact pp z z1 (by omega)
          · intro z z1 z2
            replace z2 : z < R.1 + 1 := z2
            show _ = jZ (eC (if z = R.1 then k else R.2.2.2 z))
            rw [gJ_sI, gJ_sJ]
            by_cases e : z = R.1
            · rw [if_pos ⟨rfl, by rw [e]⟩, if_pos e]
            · rw [if_neg (fun q => e (by omega)), if_neg e, gJ_sI]
              exact pn z z1 (by omega)
        obtain ⟨h4, e4, f4, c4⟩ := key
        have hS4 := (hB.row f4 c4).bump 2 (by decide)
        refine ⟨sI h4 (6, 0, 2) 2 (gI h4 (6, 0, 2) 2 + 1), ?_, ((hg ▸ b8_fr h 0 _ : Fr sA8 h g).tr (s1_A8 (Or.inl rfl) f4)).tr (b8_fr h4 2 _), ?_⟩
        rotate_left
        · rw [if_pos ⟨q2, q3⟩]; exact hS4
        · rw [lt_eq, e4, decide_eq_true ⟨q1, q2, q3⟩]
          rfl
      · obtain ⟨h4, e4, f4, c4⟩ := d8_refuse hS 2
        refine ⟨h4, ?_, f4, ?_⟩
        · rw [if_neg (eq_n (a := cnN R k) (by omega) (by omega) (by omega) (by omega) (by omega)), e4, decide_eq_false (fun e => q3 e.2.2)]
          rfl
        · rw [if_neg (fun e => q3 e.2)]; exact c4
  · obtain ⟨h4, e4, f4, c4⟩ := d8_refuse hS 1
    rw [if_neg (lt_n (by omega) (by omega) (by omega)), if_neg q1]
    refine ⟨h4, ?_, f4, c4⟩
    rw [e4, decide_eq_false (fun e => q1 e.1)]
    rfl
theorem d9_whyCar {h : HD} {R : Row} {k : List Nat} (hM : RwM h (7, 0, 2) (7, 0, 7) 0 0 R) (hok : RwOk R) (hk : NmZ k) : jX9_whyNoCar (jZ (eM k)) h = some (iZ (if R.1 < 11 then (if k ≠ [] ∧ cnN R k = -1 then 0 else 2) else 1)) := by
  have hn : 0 ≤ R.1 ∧ R.1 ≤ 11 := ⟨hok.1.1, hok.1.2.1⟩
  have ek := eM_z hk
  have hcn := cnN_in (R := R) (k := k) hn.1
  unfold jX9_whyNoCar
  rw [hM.pr.1, i11]
  by_cases q1 : R.1 < 11
  · rw [if_neg (eq_n (a := R.1) (by omega) (by omega) (by omega) (by omega) (by omega)), if_pos q1]
    by_cases q2 : k = []
    · rw [if_pos ((lg_eq0 _ _).mpr (by rw [q2]; rfl)), if_neg (fun e => e.1 q2)]; rfl
    · have hne : ¬ lg_cmp (jZ (eM k)) 0 = 0 := fun e => by
        have := (lg_eq0 _ _).mp e
        rw [show (0 : Int64) = jZ 0 from rfl, jZ_eq (by omega) (by omega) (by omega) (by omega)] at this
        exact q2 (ek.2.2.mp this)
      rw [if_neg hne, x9_carNamed hM hok hk, Option.bind_some, im1]
      by_cases q3 : cnN R k = -1
      · rw [if_pos (by rw [q3]), if_pos ⟨q2, q3⟩]; rfl
      · rw [if_neg (eq_n (a := cnN R k) (by omega) (by omega) (by omega) (by omega) (by omega)), if_neg (fun e => q3 e.2)]; rfl
  · rw [if_pos (show iZ R.1 = iZ 11 by rw [show R.1 = 11 by omega]), if_neg q1]; rfl
theorem d9_comes {h : HD} {R : Row} {a : Ac} {rf : Int32} {k : List Nat} {v : Int} (hS : SM h (R, a, rf)) (hok : RwOk R) (hn11 : R.1 < 11) : ∃ h3, jX9_comes (jZ (eM k)) (iZ v) h = some (iZ (R.1 + 1), h3) ∧ Fr sA9 h h3 ∧ SM h3 (comR R k v, bmp 2 (bmp 0 a), rf) := by
  have hn0 := hok.1.1
  have hM0 : RwM h (7, 0, 2) (7, 0, 7) 0 0 R := hS.1
  have h0 : gI h (7, 0, 2) 0 = iZ R.1 := hM0.pr.1
  have f4 : Fr sCu h (sI (sI (sJ h (7, 0, 7) R.1.toNat (jZ (eM k))) (7, 0, 2) (2 + R.1).toNat (iZ v)) (7, 0, 2) 0 (iZ (R.1 + 1))) := ((Fr.rf.sJ rfl _).sI rfl _).sI rfl _
  have m4 : RwM (sI (sI (sJ h (7, 0, 7) R.1.toNat (jZ (eM k))) (7, 0, 2) (2 + R.1).toNat (iZ v)) (7, 0, 2) 0 (iZ (R.1 + 1))) (7, 0, 2) (7, 0, 7) 0 0 (comR R k v) := by
    obtain ⟨m1, m2, m3, m4⟩ := hM0
    refine ⟨gI_self _ _ _ _, ?_, fun z z1 z2 => ?_, fun z z1 z2 => ?_⟩
    · rw [gI_nk _ _ _ (by decide), gI_nk _ _ _ (by omega)]; exact m2
    · replace z2 : z < R.1 + 1 := z2
      show _ = iZ (updP R.2.2.1 R.1 v z)
      unfold updP
      rw [gI_nk _ _ _ (by omega), gI_sI]
      by_cases e : z = R.1
      · rw [if_pos ⟨rfl, by rw [e]; omega⟩, if_pos e]
      · rw [if_neg (fun q => e (by omega)), if_neg e]
        exact m3 z z1 (by omega)
    · replace z2 : z < R.1 + 1 := z2
      show _ = jZ (eM (if z = R.1 then k else R.2.2.2 z))
      rw [gJ_sI, gJ_sI, gJ_sJ]
      by_cases e : z = R.1
      · rw [if_pos ⟨rfl, by rw [e]; omega⟩, if_pos e]
      · rw [if_neg (fun q => e (by omega)), if_neg e]
        exact m4 z z1 (by omega)
  have hS4 := (hS.row f4 (fun _ => rfl) rfl m4).bump 2 (by decide)
  obtain ⟨h5, e5, f5, s5⟩ := d9_acted hS4 (iZ (R.1 + 1))
  rw [bmp_c (by decide)] at s5
  refine ⟨h5, ?_, ((sW_A9 (cu_W f4)).tr (b9_fr _ 2 _)).tr f5, s5⟩
  unfold jX9_comes
  rw [h0, inB_t (by omega) (by omega) (by omega), if_pos rfl, lt_eq, gI_sJ, h0, i2, iZ_add, inB_t (by omega) (by omega) (by omega), if_pos rfl, lt_eq, iZ_nat (by omega) (by omega), iZ_nat (by omega) (by omega), gI_nk _ _ _ (by omega), gI_sJ, h0, i1, iZ_add, lt_eq, lt_eq, gI_ne _ (by decide), gI_self, ← i1, e5]
  rfl
/-! go -/
/-- another car prefers the last spot -/
def gB (n : Int) (pf : Int → Int) (z : Int) : Prop := ∃ c, 0 ≤ c ∧ c < n ∧ c ≠ z ∧ pf c = n
theorem sm_ge {f : Int → Int} {n c : Int} (hf : ∀ i, 0 ≤ i → i < n → 0 ≤ f i) (c0 : 0 ≤ c) (c1 : c < n) : f c ≤ sm_ f n := by
  have key := ind_Z (P := fun y => 0 ≤ sm_ f y ∧ (c < y → f c ≤ sm_ f y)) (n := n) ⟨Int.le_refl 0, fun q => by omega⟩ (fun y y0 y1 ih => by
    have := hf y y0 y1
    rw [sm_s f y0]
    refine ⟨by omega, fun q => ?_⟩
    by_cases e : c = y
    · rw [e]; omega
    · have := ih.2 (by omega); omega) (by omega)
  exact key.2 c1
theorem sm_two {f : Int → Int} {n c d : Int} (hf : ∀ i, 0 ≤ i → i < n → 0 ≤ f i) (c0 : 0 ≤ c) (c1 : c < n) (d0 : 0 ≤ d) (d1 : d < n) (hne : c ≠ d) : f c + f d ≤ sm_ f n := by
  have key := ind_Z (P := fun y => 0 ≤ sm_ f y ∧ (c < y → f c ≤ sm_ f y) ∧ (d < y → f d ≤ sm_ f y) ∧ (c < y → d < y → f c + f d ≤ sm_ f y)) (n := n) ⟨Int.le_refl 0, fun q => by omega, fun q => by omega, fun q => by omega⟩ (fun y y0 y1 ih => by
    have := hf y y0 y1
    obtain ⟨i0, i1, i2, i3⟩ := ih
    rw [sm_s f y0]
    refine ⟨by omega, fun q => ?_, fun q => ?_, fun q r => ?_⟩
    · by_cases e : c = y
      · rw [e]; omega
      · have := i1 (by omega); omega
    · by_cases e : d = y
      · rw [e]; omega
      · have := i2 (by omega); omega
    · by_cases e : c = y
      · have := i2 (by omega); rw [e]; omega
      · by_cases e2 : d = y
        · have := i1 (by omega); rw [e2]; omega
        · have := i3 (by omega) (by omega); omega) (by omega)
  exact key.2.2.2 c1 d1
theorem sm_only {f : Int → Int} {n z : Int} (hn : 0 ≤ n) (h0 : ∀ i, 0 ≤ i → i < n → i ≠ z → f i = 0) (h1 : 0 ≤ f z) : sm_ f n ≤ f z := by
  have key := ind_Z (P := fun y => sm_ f y ≤ f z ∧ (y ≤ z → sm_ f y = 0)) (n := n) ⟨h1, fun _ => rfl⟩ (fun y y0 y1 ih => by
    rw [sm_s f y0]
    by_cases e : y = z
    · have := ih.2 (by omega)
      rw [e] at this ⊢
      exact ⟨by omega, fun q => by omega⟩
    · have := h0 y y0 y1 e
      exact ⟨by omega, fun q => by have := ih.2 (by omega); omega⟩) hn
  exact key.1
theorem ws_go {n z : Int} {pf : Int → Int} (hn : 0 ≤ n) (z0 : 0 ≤ z) (z1 : z < n) : (b1 (decide (pf z = n)) < wsN n pf n) ↔ gB n pf z := by
  have hf : ∀ i, 0 ≤ i → i < n → 0 ≤ b1 (decide (pf i = n)) := fun i _ _ => (b1_in _).1
  constructor
  · intro q
    rcases Classical.em (gB n pf z) with h | h
    · exact h
    · have : wsN n pf n ≤ b1 (decide (pf z = n)) := sm_only (f := fun c => b1 (decide (pf c = n))) hn (fun i i0 i1 hi => by
        rw [decide_eq_false (fun e => h ⟨i, i0, i1, hi, e⟩)]; rfl) (b1_in _).1
      omega
  · rintro ⟨c, c0, c1, c2, c3⟩
    have := sm_two (f := fun c => b1 (decide (pf c = n))) (n := n) hf c0 c1 z0 z1 c2
    simp only [c3, decide_true] at this
    have e1 : b1 true = 1 := rfl
    unfold wsN
    omega
theorem goR_ok {R : Row} {z : Int} (hok : RwOk R) (z0 : 0 ≤ z) (z1 : z < R.1) (hg : ¬ gB R.1 R.2.2.1 z) : RwOk (goR R z) := by
  have hP := plR_ok hok z0 z1 (show 0 ≤ R.1 - 1 by omega) (show R.1 - 1 < R.1 by omega)
  obtain ⟨⟨a, b, c, d, e⟩, f⟩ := hP
  replace b : R.1 ≤ 11 := b
  refine ⟨⟨by show 0 ≤ R.1 - 1; omega, by show R.1 - 1 ≤ 11; omega, c, d, fun i q1 q2 => ?_⟩, fun i q1 q2 => f i q1 (by show i < R.1; have : i < R.1 - 1 := q2; omega)⟩
  replace q2 : i < R.1 - 1 := q2
  have he := e i q1 (by show i < R.1; omega)
  replace he : 0 ≤ plf R.2.2.1 z (R.1 - 1) i ∧ plf R.2.2.1 z (R.1 - 1) i ≤ R.1 := he
  show 0 ≤ plf R.2.2.1 z (R.1 - 1) i ∧ plf R.2.2.1 z (R.1 - 1) i ≤ R.1 - 1
  refine ⟨he.1, ?_⟩
  have hne : plf R.2.2.1 z (R.1 - 1) i ≠ R.1 := by
    unfold plf
    rw [if_neg (by omega), if_pos q2]
    by_cases q3 : i < z
    · rw [if_pos q3]; intro e2; exact hg ⟨i, q1, by omega, by omega, e2⟩
    · rw [if_neg q3]; intro e2; exact hg ⟨i + 1, by omega, by omega, by omega, e2⟩
  omega
theorem d8_go {h : HD} {R : Row} {a : Ac} {rf : Int32} {z : Int} (hS : SC h (R, a, rf)) (hok : RwOk R) (z0 : 0 ≤ z) (z1 : z < R.1) : (gB R.1 R.2.2.1 z → ∃ h3, jX8_doGo (iZ z) h = some (false, h3) ∧ Fr sA8 h h3 ∧ SC h3 (R, bmp 1 a, 4)) ∧ (¬ gB R.1 R.2.2.1 z → ∃ h3, jX8_doGo (iZ z) h = some (true, h3) ∧ Fr sA8 h h3 ∧ SC h3 (goR R z, bmp 3 (bmp 0 a), rf)) := by
  have hn : 0 ≤ R.1 ∧ R.1 ≤ 11 := ⟨hok.1.1, hok.1.2.1⟩
  have hP : PrC h 0 R.1 R.2.1 R.2.2.1 := hS.1.1
  have hw := wsN_in (n := R.1) (pf := R.2.2.1) (s := R.1) hn.1
  have hpz := hok.1.2.2.2.2 z z0 z1
  have hsp : jX2_spots 0 h = iZ (R.1 + 1) := by unfold jX2_spots; rw [hP.1, i1, iZ_add]
  have hgo := ws_go (pf := R.2.2.1) hn.1 z0 z1
  have hown := b1_in (decide (R.2.2.1 z = R.1))
  -- both branches are one
  have hJ : jX8_doGo (iZ z) h = if wsN R.1 R.2.2.1 R.1 ≤ b1 (decide (R.2.2.1 z = R.1)) then (lt (sI h (6, 0, 2) 0 ((gI h (6, 0, 2) 0) + (1 : Int32))) fun h8 => (jX2_remove 0 (iZ z) h8).bind fun q9 => lt (sI q9 (6, 0, 2) 3 ((gI q9 (6, 0, 2) 3) + (1 : Int32))) fun h10 => some (true, h10)) else (jX8_refuse (4 : Int32) h).bind fun q11 => some (q11.1, q11.2) := by
    unfold jX8_doGo
    rw [x2_pref hP hn z0 z1, Option.bind_some, hsp, show iZ (R.1 + 1) - (1 : Int32) = iZ R.1 by rw [i1, iZ_sub, show R.1 + 1 - 1 = R.1 by omega], x2_wishes hP hok.1 (by omega) (by omega)]
    simp only [Option.bind_some]
    by_cases q : R.2.2.1 z = R.1
    · rw [if_pos (show iZ (R.2.2.1 z) = iZ R.1 by rw [q]), decide_eq_true q, show b1 true = 1 from rfl, i1]
      by_cases q2 : wsN R.1 R.2.2.1 R.1 ≤ 1
      · rw [if_pos (le_y (by omega) (by omega) (by omega)), if_pos q2]
      · rw [if_neg (le_n (by omega) (by omega) (by omega)), if_neg q2]
    · rw [if_neg (eq_n (a := R.2.2.1 z) (by omega) (by omega) (by omega) (by omega) (by omega)), decide_eq_false q, show b1 false = 0 from rfl, i0]
      by_cases q2 : wsN R.1 R.2.2.1 R.1 ≤ 0
      · rw [if_pos (le_y (by omega) (by omega) (by omega)), if_pos q2]
      · rw [if_neg (le_n (by omega) (by omega) (by omega)), if_neg q2]
  refine ⟨fun hg => ?_, fun hg => ?_⟩
  · have := hgo.mpr hg
    obtain ⟨h4, e4, f4, c4⟩ := d8_refuse hS 4
    refine ⟨h4, ?_, f4, c4⟩
    rw [hJ, if_neg (by omega), e4]
    rfl
  · have : ¬ b1 (decide (R.2.2.1 z = R.1)) < wsN R.1 R.2.2.1 R.1 := fun q => hg (hgo.mp q)
    have hB := hS.bump 0 (by decide)
    have key : ∃ h4, jX2_remove 0 (iZ z) (sI h (6, 0, 2) 0 (gI h (6, 0, 2) 0 + 1)) = some h4 ∧ Fr (s1 0) (sI h (6, 0, 2) 0 (gI h (6, 0, 2) 0 + 1)) h4 ∧ RwC h4 0 (goR R z) := by
      generalize sI h (6, 0, 2) 0 (gI h (6, 0, 2) 0 + 1) = g at hB ⊢
      unfold jX2_remove
      rw [i1, iZ_add]
      refine loopI (fun f (x : Int32 × HD) => jX2_remove_L4 0 (iZ z) (fun h2 => (if (jX2_hasCar 0 (iZ z) h2) = true then lt (sI h2 (1, 0, 0) 2 ((gI h2 (1, 0, 0) 2) - iZ 1)) fun h3 => some h3 else some h2)) f x.1 x.2) (fun y x => x.1 = iZ y ∧ Fr (s1 0) g x.2 ∧ RwC x.2 0 (plR R z (y - 1))) (a := z + 1) (b := R.1) (fun y => ∃ h4, y = some h4 ∧ Fr (s1 0) g h4 ∧ RwC h4 0 (goR R z)) (by omega) ?_ ?_ FU (iZ (z + 1), g) (FU_gt (by omega)) ⟨rfl, Fr.rf, by rw [show z + 1 - 1 = z by omega, plR_id]; exact hB.1⟩
      · intro f y x y0 y1 hI
        obtain ⟨x1, h4⟩ := x
        obtain ⟨a1, hF, hR4⟩ := hI
        replace a1 : x1 = iZ y := a1
        replace hR4 : RwC h4 0 (plR R z (y - 1)) := hR4
        subst a1
        obtain ⟨h5, e5, f5, c5⟩ := x2_exch (x := y - 1) (y := y) hR4 hn (by omega) (show y - 1 < R.1 by omega) (by omega) (show y < R.1 from y1)
        have e6 := plR_up R (c := z) (p := y - 1) (by omega)
        rw [show y - 1 + 1 = y by omega] at e6
        rw [e6] at c5
        refine ⟨(iZ (y + 1), h5), ?_, rfl, Fr.tr hF f5, by rw [show y + 1 - 1 = y by omega]; exact c5⟩
        have hc : gI h4 (1, 0, 0) 2 = iZ R.1 := hR4.1.1
        show jX2_remove_L4 0 (iZ z) _ (f + 1) (iZ y) h4 = _
        rw [jX2_remove_L4, hc, if_neg (le_n (by omega) (by omega) (by omega)), i1, iZ_sub, e5, Option.bind_some, iZ_add]
      · intro f x hI
        obtain ⟨x1, h4⟩ := x
        obtain ⟨a1, hF, hR4⟩ := hI
        replace a1 : x1 = iZ R.1 := a1
        replace hR4 : RwC h4 0 (plR R z (R.1 - 1)) := hR4
        subst a1
        have hc : gI h4 (1, 0, 0) 2 = iZ R.1 := hR4.1.1
        have nj : ∀ i j : Nat, i ≠ j → ((1, 0, i) : Rf) ≠ (1, 0, j) := fun i j hij e => hij (congrArg (fun x : Rf => x.2.2) e)
        refine ⟨sI h4 (1, 0, 0) 2 (iZ (R.1 - 1)), ?_, Fr.sI hF (s1_t 0 0 _) _, ⟨gI_self _ _ _ _, ?_, ?_⟩, fun y q1 q2 => hR4.2 y q1 (by show y < R.1; have : y < R.1 - 1 := q2; omega)⟩
        · show jX2_remove_L4 0 (iZ z) _ (f + 1) (iZ R.1) h4 = _
          rw [jX2_remove_L4, hc, if_pos (le_y (by omega) (by omega) (by omega)), x2_hasCar hc hn (by omega) (by omega), decide_eq_true ⟨z0, z1⟩, if_pos rfl, lt_eq, iZ_sub]
        · rw [gI_nk _ _ _ (by decide)]; exact hR4.1.2.1
        · intro y q1 q2
          replace q2 : y < R.1 - 1 := q2
          rw [gI_ne _ (nj 2 0 (by decide))]
          exact hR4.1.2.2 y q1 (by show y < R.1; omega)
    obtain ⟨h4, e4, f4, c4⟩ := key
    have hS4 := (hB.row f4 c4).bump 3 (by decide)
    refine ⟨_, ?_, ((b8_fr h 0 _).tr (s1_A8 (Or.inl rfl) f4)).tr (b8_fr h4 3 _), hS4⟩
    rw [hJ, if_pos (by omega), lt_eq, e4]
    rfl
theorem d9_whyGo {h : HD} {R : Row} {z : Int} (hM : RwM h (7, 0, 2) (7, 0, 7) 0 0 R) (hok : RwOk R) (z0 : 0 ≤ z) (z1 : z < R.1) : (gB R.1 R.2.2.1 z → jX9_whyNoGo (iZ z) h = some (iZ 4)) ∧ (¬ gB R.1 R.2.2.1 z → jX9_whyNoGo (iZ z) h = some (iZ 0)) := by
  have hn : 0 ≤ R.1 ∧ R.1 ≤ 11 := ⟨hok.1.1, hok.1.2.1⟩
  have hQ := hM.pr
  obtain ⟨g, hg⟩ : ∃ g, fnd (fun c => !decide (c = z) && decide (R.2.2.1 c = R.1)) R.1.toNat 0 = g := ⟨_, rfl⟩
  have g1 := fnd_ge (fun c => !decide (c = z) && decide (R.2.2.1 c = R.1)) R.1.toNat 0
  have g2 : ∀ y, 0 ≤ y → y < g → (!decide (y = z) && decide (R.2.2.1 y = R.1)) = false := fun y q1 q2 => fnd_not (fun c => !decide (c = z) && decide (R.2.2.1 c = R.1)) R.1.toNat 0 y q1 (by omega)
  have g3 : g < R.1 → (!decide (g = z) && decide (R.2.2.1 g = R.1)) = true := fun q => by
    have := fnd_is (fun c => !decide (c = z) && decide (R.2.2.1 c = R.1)) R.1.toNat 0 (by omega)
    rw [hg] at this
    exact this
  have step : ∀ (f : Nat) (y : Int), 0 ≤ y → y < g → jX9_whyNoGo_L2 (iZ z) h (f + 1) (iZ y) = jX9_whyNoGo_L2 (iZ z) h f (iZ (y + 1)) := by
    intro f y q1 q2
    have := g2 y q1 q2
    have hp := hok.1.2.2.2.2 y q1 (by omega)
    rw [jX9_whyNoGo_L2, hQ.1, if_neg (le_n (by omega) (by omega) (by omega)), i1, iZ_add]
    by_cases e : y = z
    · rw [if_pos (by rw [e])]
    · rw [decide_eq_false e] at this
      have hne := of_decide_eq_false (by simpa using this : decide (R.2.2.1 y = R.1) = false)
      rw [if_neg (eq_n (a := y) (by omega) (by omega) (by omega) (by omega) (by omega)), x9_wish hQ hn q1 (by omega), Option.bind_some, if_neg (eq_n (a := R.2.2.1 y) (by omega) (by omega) (by omega) (by omega) (by omega))]
  unfold jX9_whyNoGo
  rw [i0]
  refine ⟨fun hB => ?_, fun hB => ?_⟩
  · have hlt : g < R.1 := by
      obtain ⟨c, c0, c1, c2, c3⟩ := hB
      rcases Int.lt_or_le c g with q | q
      · have := g2 c c0 q
        rw [decide_eq_false c2, decide_eq_true c3] at this
        cases this
      · omega
    have := g3 hlt
    rw [Bool.and_eq_true] at this
    have h1 : ¬ g = z := by simpa using this.1
    have h2 := of_decide_eq_true this.2
    refine loopN (fun f (x : Int32) => jX9_whyNoGo_L2 (iZ z) h f x) iZ (a := 0) (b := g) (by omega) (fun f y q1 q2 => step f y q1 q2) (fun f => ?_) FU (FU_gt (by omega))
    show jX9_whyNoGo_L2 (iZ z) h (f + 1) (iZ g) = _
    rw [jX9_whyNoGo_L2, hQ.1, if_neg (le_n (by omega) (by omega) (by omega)), if_neg (eq_n (a := g) (by omega) (by omega) (by omega) (by omega) (by omega)), x9_wish hQ hn (by omega) hlt, Option.bind_some, if_pos (by rw [h2])]
    rfl
  · have hge : g = R.1 := by
      rcases Int.lt_or_le g R.1 with q | q
      · have := g3 q
        rw [Bool.and_eq_true] at this
        exact absurd ⟨g, by omega, q, by simpa using this.1, of_decide_eq_true this.2⟩ hB
      · omega
    refine loopN (fun f (x : Int32) => jX9_whyNoGo_L2 (iZ z) h f x) iZ (a := 0) (b := R.1) hn.1 (fun f y q1 q2 => step f y q1 (by omega)) (fun f => ?_) FU (FU_gt (by omega))
    show jX9_whyNoGo_L2 (iZ z) h (f + 1) (iZ R.1) = _
    rw [jX9_whyNoGo_L2, hQ.1, if_pos (le_y (by omega) (by omega) (by omega))]
    rfl
theorem d9_leaves {h : HD} {R : Row} {a : Ac} {rf : Int32} {z : Int} (hS : SM h (R, a, rf)) (hok : RwOk R) (z0 : 0 ≤ z) (z1 : z < R.1) : ∃ h3, jX9_leaves0 (iZ z) h = some (iZ (R.1 - 1), h3) ∧ Fr sA9 h h3 ∧ SM h3 (goR R z, bmp 3 (bmp 0 a), rf) := by
  have hn : 0 ≤ R.1 ∧ R.1 ≤ 11 := ⟨hok.1.1, hok.1.2.1⟩
  have hM0 : RwM h (7, 0, 2) (7, 0, 7) 0 0 R := hS.1
  obtain ⟨h4, e4, f4, m4⟩ := x9_placesAt (c := z) (p := R.1 - 1) hM0 hn z0 z1 (by omega) (by omega)
  have h0 : gI h4 (7, 0, 2) 0 = iZ R.1 := m4.pr.1
  have f5 : Fr sCu h4 (sJ (sI (sI h4 (7, 0, 2) 0 (iZ (R.1 - 1))) (7, 0, 2) (2 + (R.1 - 1)).toNat (iZ 0)) (7, 0, 7) (R.1 - 1).toNat 0) := ((Fr.rf.sI rfl _).sI rfl _).sJ rfl _
  have m5 : RwM (sJ (sI (sI h4 (7, 0, 2) 0 (iZ (R.1 - 1))) (7, 0, 2) (2 + (R.1 - 1)).toNat (iZ 0)) (7, 0, 7) (R.1 - 1).toNat 0) (7, 0, 2) (7, 0, 7) 0 0 (goR R z) := by
    obtain ⟨m1, m2, m3, m4⟩ := m4
    refine ⟨?_, ?_, fun y y1 y2 => ?_, fun y y1 y2 => ?_⟩
    · rw [gI_sJ, gI_nk _ _ _ (by omega)]; exact gI_self _ _ _ _
    · rw [gI_sJ, gI_nk _ _ _ (by omega), gI_nk _ _ _ (by decide)]; exact m2
    · replace y2 : y < R.1 - 1 := y2
      rw [gI_sJ, gI_nk _ _ _ (by omega), gI_nk _ _ _ (by omega)]
      exact m3 y y1 (by show y < R.1; omega)
    · replace y2 : y < R.1 - 1 := y2
      rw [gJ_sJ, if_neg (fun q => by omega), gJ_sI, gJ_sI]
      exact m4 y y1 (by show y < R.1; omega)
  have hS5 := (hS.row (S := sCu) (f4.tr f5) (fun _ => rfl) rfl m5).bump 3 (by decide)
  obtain ⟨h6, e6, f6, s6⟩ := d9_acted hS5 (iZ (R.1 - 1))
  rw [bmp_c (by decide)] at s6
  refine ⟨h6, ?_, ((sW_A9 (cu_W (f4.tr f5))).tr (b9_fr _ 3 _)).tr f6, s6⟩
  unfold jX9_leaves0
  rw [hM0.pr.1, i1, iZ_sub, e4, Option.bind_some, h0, iZ_sub, lt_eq, gI_self, i2, iZ_add, inB_t (by omega) (by omega) (by omega), if_pos rfl, lt_eq, iZ_nat (by omega) (by omega), i0, gI_nk _ _ _ (by omega), gI_self, inB_t (by omega) (by omega) (by omega), if_pos rfl, lt_eq, iZ_nat (by omega) (by omega), lt_eq, gI_ne _ (by decide), gI_sJ, gI_nk _ _ _ (by omega), gI_self, ← i1, e6]
  rfl
/-! sort -/
theorem rk_lt {n : Int} {pf : Int → Int} {z : Int} (hn : 0 ≤ n) (z0 : 0 ≤ z) (z1 : z < n) : 0 ≤ rkN n pf z ∧ rkN n pf z < n := by
  have h1 := rkN_in (pf := pf) hn z
  refine ⟨h1.1, ?_⟩
  have key := ind_Z (P := fun y => (y ≤ z → sm_ (fun c => b1 (decide (pf c < pf z ∨ (pf c = pf z ∧ c < z)))) y ≤ y) ∧ (z < y → sm_ (fun c => b1 (decide (pf c < pf z ∨ (pf c = pf z ∧ c < z)))) y < y)) (n := n) ⟨fun _ => Int.le_refl 0, fun q => by omega⟩ (fun y y0 y1 ih => by
    rw [sm_s _ y0]
    have := b1_in (decide (pf y < pf z ∨ (pf y = pf z ∧ y < z)))
    refine ⟨fun q => by have := ih.1 (by omega); omega, fun q => ?_⟩
    by_cases e : y = z
    · have := ih.1 (by omega)
      rw [e] at this ⊢
      rw [decide_eq_false (by omega)]
      have e0 : b1 false = 0 := rfl
      omega
    · have := ih.2 (by omega); omega) hn
  exact key.2 z1
/-- the cars laid to their ranks, one after the other -/
def srF {α : Type} (n : Int) (pf : Int → Int) (f : Int → α) (z : Int) : Int → α := itr (fun c g => fun i => if i = rkN n pf c then f c else g i) f z
theorem srF_s {α : Type} (n : Int) (pf : Int → Int) (f : Int → α) {z : Int} (h : 0 ≤ z) : srF n pf f (z + 1) = fun i => if i = rkN n pf z then f z else srF n pf f z i := itr_s _ _ h
def srR (R : Row) (z : Int) : Row := (R.1, R.2.1, srF R.1 R.2.2.1 R.2.2.1 z, srF R.1 R.2.2.1 R.2.2.2 z)
def srN (n : Int) (pf : Int → Int) (z : Int) : Int := sm_ (fun c => b1 (!decide (rkN n pf c = c))) z
theorem srR_ok {R : Row} (hok : RwOk R) {z : Int} (hz : 0 ≤ z) (hz2 : z ≤ R.1) : RwOk (srR R z) := by
  refine ind_Z (P := fun z => z ≤ R.1 → RwOk (srR R z)) (fun _ => hok) (fun y y0 _ ih hy => ?_) hz hz2
  obtain ⟨⟨a, b, c, d, e⟩, f⟩ := ih (by omega)
  refine ⟨⟨a, b, c, d, fun i q1 q2 => ?_⟩, fun i q1 q2 => ?_⟩
  · show 0 ≤ srF R.1 R.2.2.1 R.2.2.1 (y + 1) i ∧ srF R.1 R.2.2.1 R.2.2.1 (y + 1) i ≤ R.1
    rw [srF_s _ _ _ y0]
    show 0 ≤ (if i = rkN R.1 R.2.2.1 y then R.2.2.1 y else srF R.1 R.2.2.1 R.2.2.1 y i) ∧ (if i = rkN R.1 R.2.2.1 y then R.2.2.1 y else srF R.1 R.2.2.1 R.2.2.1 y i) ≤ R.1
    split
    · exact hok.1.2.2.2.2 y y0 (by omega)
    · exact e i q1 q2
  · show NmOk (srF R.1 R.2.2.1 R.2.2.2 (y + 1) i)
    rw [srF_s _ _ _ y0]
    show NmOk (if i = rkN R.1 R.2.2.1 y then R.2.2.2 y else srF R.1 R.2.2.1 R.2.2.2 y i)
    split
    · exact hok.2 y y0 (by omega)
    · exact f i q1 q2
theorem x2_put {h : HD} {o : Nat} {R : Row} {x v : Int} {w : Int64} {k : List Nat} (hC : RwC h o R) (hn : 0 ≤ R.1 ∧ R.1 ≤ 11) (x0 : 0 ≤ x) (x1 : x < R.1) (hw : w = jZ (eC k)) : ∃ h2, jX2_put o (iZ x) w (iZ v) h = some h2 ∧ Fr (s1 o) h h2 ∧ RwC h2 o (R.1, R.2.1, fun i => if i = x then v else R.2.2.1 i, fun i => if i = x then k else R.2.2.2 i) := by
  obtain ⟨⟨p2, p3, pp⟩, pn⟩ := hC
  have nj : ∀ i j : Nat, i ≠ j → ((1, o, i) : Rf) ≠ (1, o, j) := fun i j hij e => hij (congrArg (fun x : Rf => x.2.2) e)
  refine ⟨sI (sJ h (1, o, 1) x.toNat (jZ (eC k))) (1, o, 2) x.toNat (iZ v), ?_, (Fr.rf.sJ (s1_t o 1 _) _).sI (s1_t o 2 _) _, ⟨?_, ?_, ?_⟩, ?_⟩
  · unfold jX2_put
    rw [x2_hasCar p2 hn (by omega) (by omega), decide_eq_true ⟨x0, x1⟩, if_pos rfl, inB_t (by omega) (by omega) (by omega), if_pos rfl, lt_eq, if_pos rfl, lt_eq, iZ_nat (by omega) (by omega), hw]
  · rw [gI_ne _ (nj 0 2 (by decide)), gI_sJ]; exact p2
  · rw [gI_ne _ (nj 0 2 (by decide)), gI_sJ]; exact p3
  · intro z z1 z2
    show _ = iZ (if z = x then v else R.2.2.1 z)
    rw [gI_sI, gI_sJ]
    by_cases e : z = x
    · rw [if_pos ⟨rfl, by rw [e]⟩, if_pos e]
    · rw [if_neg (fun q => e (by omega)), if_neg e]; exact pp z z1 z2
  · intro z z1 z2
    show _ = jZ (eC (if z = x then k else R.2.2.2 z))
    rw [gJ_sI, gJ_sJ]
    by_cases e : z = x
    · rw [if_pos ⟨rfl, by rw [e]⟩, if_pos e]
    · rw [if_neg (fun q => e (by omega)), if_neg e]; exact pn z z1 z2
theorem d8_sort {h : HD} {R : Row} {a : Ac} {rf : Int32} (hS : SC h (R, a, rf)) (hok : RwOk R) : ∃ h3, jX8_doSort h = some (iZ (srN R.1 R.2.2.1 R.1), h3) ∧ Fr sA8 h h3 ∧ SC h3 (srR R R.1, bmp 0 a, rf) := by
  have hn : 0 ≤ R.1 ∧ R.1 ≤ 11 := ⟨hok.1.1, hok.1.2.1⟩
  have hB := hS.bump 0 (by decide)
  have hB0 : RwC (sI h (6, 0, 2) 0 (gI h (6, 0, 2) 0 + 1)) 0 R := hB.1
  obtain ⟨h4, e4, f4, c4⟩ := x2_copy (o := 1) (r := 0) (by decide) hB0 hn.2
  obtain ⟨h5, e5, f5, c5⟩ := x2_copy (o := 0) (r := 1) (by decide) c4 hn.2
  have c1 : RwC h5 1 R := c4.fr f5 (s1_f (by decide))
  have key : ∃ h6, jX2_takeSorted_L9 0 1 FU (iZ 0) (iZ 0) h5 = some (iZ (srN R.1 R.2.2.1 R.1), h6) ∧ Fr (s1 0) h5 h6 ∧ RwC h6 0 (srR R R.1) := by
    refine loopI (fun f (x : Int32 × Int32 × HD) => jX2_takeSorted_L9 0 1 f x.1 x.2.1 x.2.2) (fun z x => x.1 = iZ (srN R.1 R.2.2.1 z) ∧ x.2.1 = iZ z ∧ Fr (s1 0) h5 x.2.2 ∧ RwC x.2.2 0 (srR R z)) (a := 0) (b := R.1) (fun y => ∃ h6, y = some (iZ (srN R.1 R.2.2.1 R.1), h6) ∧ Fr (s1 0) h5 h6 ∧ RwC h6 0 (srR R R.1)) hn.1 ?_ ?_ FU (iZ 0, iZ 0, h5) (FU_gt (by omega)) ⟨rfl, rfl, Fr.rf, c5⟩
    · intro f z x z0 z1 hI
      obtain ⟨x1, x2, h6⟩ := x
      obtain ⟨a1, a2, hF, hR6⟩ := hI
      replace a1 : x1 = iZ (srN R.1 R.2.2.1 z) := a1
      replace a2 : x2 = iZ z := a2
      replace hF : Fr (s1 0) h5 h6 := hF
      replace hR6 : RwC h6 0 (srR R z) := hR6
      subst a1; subst a2
      have hr := rk_lt (pf := R.2.2.1) hn.1 z0 z1
      have c16 := c1.fr hF (s1_f (by decide))
      have hP1 : PrC h6 1 R.1 R.2.1 R.2.2.1 := c16.1
      obtain ⟨h7, e7, f7, c7⟩ := x2_put (x := rkN R.1 R.2.2.1 z) (v := R.2.2.1 z) (k := R.2.2.2 z) hR6 hn hr.1 hr.2 rfl
      have c7' : RwC h7 0 (srR R (z + 1)) := by
        unfold srR
        rw [srF_s _ _ _ z0, srF_s _ _ _ z0]
        exact c7
      have es : srN R.1 R.2.2.1 (z + 1) = srN R.1 R.2.2.1 z + b1 (!decide (rkN R.1 R.2.2.1 z = z)) := sm_s _ z0
      have hc : gI h6 (1, 0, 0) 2 = iZ R.1 := hR6.1.1
      refine ⟨(iZ (srN R.1 R.2.2.1 (z + 1)), iZ (z + 1), h7), ?_, rfl, rfl, hF.tr f7, c7'⟩
      show jX2_takeSorted_L9 0 1 (f + 1) _ (iZ z) h6 = _
      rw [jX2_takeSorted_L9, hc, if_neg (le_n (by omega) (by omega) (by omega)), x2_rank hP1 hok.1 z0 z1, Option.bind_some, x2_nameOf c16 hn z0 z1, Option.bind_some, x2_pref hP1 hn z0 z1, Option.bind_some, e7, Option.bind_some, es, i1, iZ_add, iZ_add]
      by_cases q : rkN R.1 R.2.2.1 z = z
      · rw [if_pos (by rw [q]), decide_eq_true q, show b1 (!true) = 0 from rfl, Int.add_zero]
      · rw [if_neg (eq_n (a := rkN R.1 R.2.2.1 z) (by omega) (by omega) (by omega) (by omega) (by omega)), decide_eq_false q]; rfl
    · intro f x hI
      obtain ⟨x1, x2, h6⟩ := x
      obtain ⟨a1, a2, hF, hR6⟩ := hI
      replace a1 : x1 = iZ (srN R.1 R.2.2.1 R.1) := a1
      replace a2 : x2 = iZ R.1 := a2
      replace hR6 : RwC h6 0 (srR R R.1) := hR6
      subst a1; subst a2
      have hc : gI h6 (1, 0, 0) 2 = iZ R.1 := hR6.1.1
      refine ⟨h6, ?_, hF, hR6⟩
      show jX2_takeSorted_L9 0 1 (f + 1) _ (iZ R.1) h6 = _
      rw [jX2_takeSorted_L9, hc, if_pos (le_y (by omega) (by omega) (by omega))]
  obtain ⟨h6, e6, f6, c6⟩ := key
  have hS6 : SC h6 (srR R R.1, bmp 0 a, rf) := (((hB.row (R2 := R) f4 (hB0.fr f4 (s1_f (by decide)))).row f5 c5).row f6 c6)
  refine ⟨h6, ?_, (((b8_fr h 0 _).tr (s1_A8 (Or.inr rfl) f4)).tr (s1_A8 (Or.inl rfl) f5)).tr (s1_A8 (Or.inl rfl) f6), hS6⟩
  unfold jX8_doSort jX2_takeSorted
  rw [lt_eq, e4, Option.bind_some, e5, Option.bind_some, i0, e6]
  rfl
theorem d9_sort {h : HD} {R : Row} {a : Ac} {rf : Int32} (hS : SM h (R, a, rf)) (hok : RwOk R) : ∃ h3, jX9_sorts h = some (iZ (srN R.1 R.2.2.1 R.1), h3) ∧ Fr sA9 h h3 ∧ SM h3 (srR R R.1, bmp 0 a, rf) := by
  have hn : 0 ≤ R.1 ∧ R.1 ≤ 11 := ⟨hok.1.1, hok.1.2.1⟩
  have hM0 : RwM h (7, 0, 2) (7, 0, 7) 0 0 R := hS.1
  obtain ⟨h4, e4, f4, a4, m4⟩ := x9_away hM0 hn.2
  have away_pf : ∀ {g : HD}, RwM g (7, 0, 5) (7, 0, 10) 0 0 R → ∀ z, 0 ≤ z → z < R.1 → gI g (7, 0, 5) (2 + z).toNat = iZ (R.2.2.1 z) ∧ gJ g (7, 0, 10) z.toNat = jZ (eM (R.2.2.2 z)) := fun hg z z0 z1 => by
    have h1 := hg.2.2.1 z z0 z1
    have h2 := hg.2.2.2 z z0 z1
    rw [show (0 : Int) + 2 + z = 2 + z by omega] at h1
    rw [show (0 : Int) + z = z by omega] at h2
    exact ⟨h1, h2⟩
  let T : Rf → Nat → Bool := fun q _ => decide (q = (7, 0, 22))
  let T2 : Rf → Nat → Bool := fun q _ => decide (q = (7, 0, 2) ∨ q = (7, 0, 7) ∨ q = (7, 0, 22))
  have hT : ∀ r k, T2 r k = false → T r k = false := fun r k q => decide_eq_false (fun e => of_decide_eq_false q (Or.inr (Or.inr e)))
  have hCT : ∀ r k, T2 r k = false → sCu r k = false := fun r k q => decide_eq_false (fun e => of_decide_eq_false q (e.imp id Or.inl))
  have TA : ∀ {g g2 : HD}, Fr T2 g g2 → Fr sA9 g g2 := fun hF => hF.mono fun r k q => decide_eq_false fun e => by
    rcases e with e | e | e <;> · rw [e] at q; simp [sA9] at q
  -- the second loop
  have lay : ∀ h5, Fr T h4 h5 → IsA h5 (7, 0, 22) R.1 (rkN R.1 R.2.2.1) → ∃ h6, jX9_sorts_L37 (fun y37_1 h15 => (jX9_acted y37_1 h15).bind fun q16 => some (q16.1, q16.2)) FU (iZ 0) (iZ 0) h5 = some (iZ (srN R.1 R.2.2.1 R.1), h6) ∧ Fr sA9 h h6 ∧ SM h6 (srR R R.1, bmp 0 a, rf) := by
    intro h5 f5 A5
    have a5 : RwM h5 (7, 0, 5) (7, 0, 10) 0 0 R := a4.fr f5 (fun _ => rfl) (fun _ => rfl)
    have m5 : RwM h5 (7, 0, 2) (7, 0, 7) 0 0 R := m4.fr f5 (fun _ => rfl) (fun _ => rfl)
    refine loopI (fun f (x : Int32 × Int32 × HD) => jX9_sorts_L37 (fun y37_1 h15 => (jX9_acted y37_1 h15).bind fun q16 => some (q16.1, q16.2)) f x.1 x.2.1 x.2.2) (fun z x => x.1 = iZ (srN R.1 R.2.2.1 z) ∧ x.2.1 = iZ z ∧ Fr sCu h5 x.2.2 ∧ RwM x.2.2 (7, 0, 2) (7, 0, 7) 0 0 (srR R z)) (a := 0) (b := R.1) (fun y => ∃ h6, y = some (iZ (srN R.1 R.2.2.1 R.1), h6) ∧ Fr sA9 h h6 ∧ SM h6 (srR R R.1, bmp 0 a, rf)) hn.1 ?_ ?_ FU (iZ 0, iZ 0, h5) (FU_gt (by omega)) ⟨rfl, rfl, Fr.rf, m5⟩
    · intro f z x z0 z1 hI
      obtain ⟨x1, x2, h6⟩ := x
      obtain ⟨a1, a2, hF, hR6⟩ := hI
      replace a1 : x1 = iZ (srN R.1 R.2.2.1 z) := a1
      replace a2 : x2 = iZ z := a2
      replace hF : Fr sCu h5 h6 := hF
      replace hR6 : RwM h6 (7, 0, 2) (7, 0, 7) 0 0 (srR R z) := hR6
      subst a1; subst a2
      have hr := rk_lt (pf := R.2.2.1) hn.1 z0 z1
      obtain ⟨w1, w2⟩ := away_pf (a5.fr hF (fun _ => rfl) (fun _ => rfl)) z z0 z1
      have A6 : gI h6 (7, 0, 22) z.toNat = iZ (rkN R.1 R.2.2.1 z) := (hF.1 _ _ rfl).trans (A5 z z0 z1)
      have hc : gI h6 (7, 0, 2) 0 = iZ R.1 := hR6.1
      have es : srN R.1 R.2.2.1 (z + 1) = srN R.1 R.2.2.1 z + b1 (!decide (rkN R.1 R.2.2.1 z = z)) := sm_s _ z0
      have m7 : RwM (sJ (sI h6 (7, 0, 2) (2 + rkN R.1 R.2.2.1 z).toNat (iZ (R.2.2.1 z))) (7, 0, 7) (rkN R.1 R.2.2.1 z).toNat (jZ (eM (R.2.2.2 z)))) (7, 0, 2) (7, 0, 7) 0 0 (srR R (z + 1)) := by
        unfold srR
        rw [srF_s _ _ _ z0, srF_s _ _ _ z0]
        obtain ⟨n1, n2, n3, n4⟩ := hR6
        refine ⟨?_, ?_, fun y y1 y2 => ?_, fun y y1 y2 => ?_⟩
        · rw [gI_sJ, gI_nk _ _ _ (by omega)]; exact n1
        · rw [gI_sJ, gI_nk _ _ _ (by omega)]; exact n2
        · show _ = iZ (if y = rkN R.1 R.2.2.1 z then R.2.2.1 z else srF R.1 R.2.2.1 R.2.2.1 z y)
          rw [gI_sJ, gI_sI]
          by_cases e : y = rkN R.1 R.2.2.1 z
          · rw [if_pos ⟨rfl, by rw [e]; omega⟩, if_pos e]
          · rw [if_neg (fun q => e (by omega)), if_neg e]; exact n3 y y1 y2
        · show _ = jZ (eM (if y = rkN R.1 R.2.2.1 z then R.2.2.2 z else srF R.1 R.2.2.1 R.2.2.2 z y))
          rw [gJ_sJ, gJ_sI]
          by_cases e : y = rkN R.1 R.2.2.1 z
          · rw [if_pos ⟨rfl, by rw [e]; omega⟩, if_pos e]
          · rw [if_neg (fun q => e (by omega)), if_neg e]; exact n4 y y1 y2
      refine ⟨(iZ (srN R.1 R.2.2.1 (z + 1)), iZ (z + 1), _), ?_, rfl, rfl, (hF.sI rfl _).sJ rfl _, m7⟩
      show jX9_sorts_L37 _ (f + 1) _ (iZ z) h6 = _
      rw [jX9_sorts_L37, hc, if_neg (le_n (by omega) (by omega) (by omega)), inB_t (n := 11) (by omega) (by omega) (by omega), if_pos rfl, i2, iZ_add, inB_t (n := 13) (z := 2 + z) (by omega) (by omega) (by omega), if_pos rfl, iZ_nat (z := z) (by omega) (by omega), A6, iZ_add, inB_t (n := 13) (by omega) (by omega) (by omega), if_pos rfl, iZ_nat (z := 2 + z) (by omega) (by omega), w1, iZ_nat (z := 2 + rkN R.1 R.2.2.1 z) (by omega) (by omega), lt_eq, if_pos rfl, if_pos rfl, gI_ne _ (by decide), A6, inB_t (n := 11) (by omega) (by omega) (by omega), if_pos rfl, gJ_sI, w2, iZ_nat (z := rkN R.1 R.2.2.1 z) (by omega) (by omega), lt_eq, if_pos rfl, gI_sJ, gI_ne _ (by decide), A6, x9_truth, x9_truth, es, i1, iZ_add, iZ_add, iZ_add]
      by_cases q : rkN R.1 R.2.2.1 z = z
      · rw [if_pos (show iZ (rkN R.1 R.2.2.1 z) = iZ z by rw [q]), decide_eq_true q]; rfl
      · rw [if_neg (eq_n (a := rkN R.1 R.2.2.1 z) (by omega) (by omega) (by omega) (by omega) (by omega)), decide_eq_false q]; rfl
    · intro f x hI
      obtain ⟨x1, x2, h6⟩ := x
      obtain ⟨a1, a2, hF, hR6⟩ := hI
      replace a1 : x1 = iZ (srN R.1 R.2.2.1 R.1) := a1
      replace a2 : x2 = iZ R.1 := a2
      replace hF : Fr sCu h5 h6 := hF
      replace hR6 : RwM h6 (7, 0, 2) (7, 0, 7) 0 0 (srR R R.1) := hR6
      subst a1; subst a2
      have hc : gI h6 (7, 0, 2) 0 = iZ R.1 := hR6.1
      have F6 : Fr sA9 h h6 := (sW_A9 (aw_W f4)).tr (TA ((f5.mono hT).tr (hF.mono hCT)))
      have F6' : Fr (fun q k => decide (q = (7, 0, 2) ∨ q = (7, 0, 7) ∨ q = (7, 0, 22) ∨ q = (7, 0, 5) ∨ q = (7, 0, 10))) h h6 := ((f4.mono (fun r k q => decide_eq_false (fun e => of_decide_eq_false q (Or.inr (Or.inr (Or.inr e)))))).tr (f5.mono (fun r k q => decide_eq_false (fun e => of_decide_eq_false q (Or.inr (Or.inr (Or.inl e))))))).tr (hF.mono (fun r k q => decide_eq_false (fun e => of_decide_eq_false q (e.imp id Or.inl))))
      have S6 : SM h6 (srR R R.1, a, rf) := hS.row F6' (fun _ => rfl) rfl hR6
      obtain ⟨h7, e7, f7, s7⟩ := d9_acted S6 (iZ (srN R.1 R.2.2.1 R.1))
      refine ⟨h7, ?_, F6.tr f7, s7⟩
      show jX9_sorts_L37 _ (f + 1) _ (iZ R.1) h6 = _
      rw [jX9_sorts_L37, hc, if_pos (le_y (by omega) (by omega) (by omega)), e7]
      rfl
  unfold jX9_sorts
  rw [e4, Option.bind_some, i0]
  refine loopI (fun f (x : Int32 × HD) => jX9_sorts_L8 (fun h5 => jX9_sorts_L37 (fun y37_1 h15 => (jX9_acted y37_1 h15).bind fun q16 => some (q16.1, q16.2)) FU (iZ 0) (iZ 0) h5) f x.1 x.2) (fun z x => x.1 = iZ z ∧ Fr T h4 x.2 ∧ IsA x.2 (7, 0, 22) z (rkN R.1 R.2.2.1)) (a := 0) (b := R.1) (fun y => ∃ h6, y = some (iZ (srN R.1 R.2.2.1 R.1), h6) ∧ Fr sA9 h h6 ∧ SM h6 (srR R R.1, bmp 0 a, rf)) hn.1 ?_ ?_ FU (iZ 0, h4) (FU_gt (by omega)) ⟨rfl, Fr.rf, fun z q1 q2 => by omega⟩
  · intro f z x z0 z1 hI
    obtain ⟨x1, h6⟩ := x
    obtain ⟨a1, hF, hA⟩ := hI
    replace a1 : x1 = iZ z := a1
    replace hF : Fr T h4 h6 := hF
    subst a1
    have m6 := (m4.fr hF (fun _ => rfl) (fun _ => rfl)).pr
    have hr := rk_lt (pf := R.2.2.1) hn.1 z0 z1
    refine ⟨(iZ (z + 1), sI h6 (7, 0, 22) z.toNat (iZ (rkN R.1 R.2.2.1 z))), ?_, rfl, hF.sI rfl _, IsA.snoc hA z0 rfl⟩
    show jX9_sorts_L8 _ (f + 1) (iZ z) h6 = _
    rw [jX9_sorts_L8, m6.1, if_neg (le_n (by omega) (by omega) (by omega)), x9_rank m6 hok.1 z0 z1, Option.bind_some, inB_t (by omega) (by omega) (by omega), if_pos rfl, lt_eq, iZ_nat (by omega) (by omega), i1, iZ_add]
  · intro f x hI
    obtain ⟨x1, h6⟩ := x
    obtain ⟨a1, hF, hA⟩ := hI
    replace a1 : x1 = iZ R.1 := a1
    replace hF : Fr T h4 h6 := hF
    subst a1
    have m6 := (m4.fr hF (fun _ => rfl) (fun _ => rfl)).pr
    obtain ⟨h7, e7, r7⟩ := lay h6 hF hA
    refine ⟨h7, ?_, r7⟩
    show jX9_sorts_L8 _ (f + 1) (iZ R.1) h6 = _
    rw [jX9_sorts_L8, m6.1, if_pos (le_y (by omega) (by omega) (by omega))]
    exact e7
