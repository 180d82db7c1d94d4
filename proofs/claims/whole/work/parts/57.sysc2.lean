/-! THE SYSTEM OF A TEXT: the class -/
def endP (R : Row) (t : Tok) : Rd Row := if isWd t wCar then .inl (5, t.2.1) else if t.1 = 0 then .inr R else .inl (1, t.2.1)
def bk1 (len : Int) (bs : Int → Int) (t : Tok) : Rd (Int × Tok) :=
  match numP (nx len bs t) 0 5 with
  | .inl e => .inl e
  | .inr v => match mkP (nx len bs (nx len bs t)) 59 with
    | .inl e => .inl e
    | .inr _ => .inr (v, nx len bs (nx len bs (nx len bs t)))
def carsE (len : Int) (bs : Int → Int) (n : Int) (R : Row) (t : Tok) : Rd Row :=
  match carsP len bs n n.toNat R t with
  | .inl e => .inl e
  | .inr (R2, t2) => endP R2 t2
/-- behind the number of cars: BACK or none, then the cars -/
def backE (len : Int) (bs : Int → Int) (n : Int) (t : Tok) : Rd Row :=
  if isWd t wBack then
    match bk1 len bs t with
    | .inl e => .inl e
    | .inr (b, t2) => carsE len bs n (0, b, fun _ => 0, fun _ => []) t2
  else carsE len bs n (0, 0, fun _ => 0, fun _ => []) t
def sysP (len : Int) (bs : Int → Int) : Rd Row :=
  if isWd (tok len bs 0) wPark then
    match numP (nx len bs (tok len bs 0)) 0 11 with
    | .inl e => .inl e
    | .inr n => match mkP (nx len bs (nx len bs (tok len bs 0))) 59 with
      | .inl e => .inl e
      | .inr _ => backE len bs n (nx len bs (nx len bs (nx len bs (tok len bs 0))))
  else .inl (1, (tok len bs 0).2.1)
def KE : HD → Option (Bool × HD) := fun h14 => (jX6_isWord_ tx199 h14).bind fun q15 => (if q15 = true then (jX6_fail (5 : Int32) h14).bind fun q17 => some (q17.1, q17.2) else (if (jX6_isEnd h14) = true then some (true, h14) else (jX6_fail (1 : Int32) h14).bind fun q16 => (if q16.1 = true then some (true, q16.2) else some (false, q16.2))))
section
variable {h : HD} {len : Int} {bs : Int → Int} {t : Tok}
theorem c_end {R : Row} (hC : CT h len bs t) (hT : TkOk t) : match endP R t with
    | .inl (c, p) => ∃ g, KE h = some (false, g) ∧ Fr sRC h g ∧ ErC g c p
    | .inr R2 => KE h = some (true, h) ∧ R2 = R := by
  have h4 := hT.2.2.2
  unfold KE endP
  rw [x6_isWord_ hC.2.2.1 hT wCar_ok txCar, Option.bind_some]
  by_cases q : isWd t wCar
  · rw [if_pos q, decide_eq_true (show t.1 = 1 ∧ t.2.2.2.1 = wCar from q), if_pos rfl]
    obtain ⟨g, e, f, r⟩ := x6_fail hC.2.2.1 5
    exact ⟨g, by rw [i5, e]; rfl, sTE_RC (sEr_TE f), r⟩
  · rw [if_neg q, decide_eq_false (show ¬ (t.1 = 1 ∧ t.2.2.2.1 = wCar) from q), if_neg Bool.false_ne_true]
    unfold jX6_isEnd
    rw [hC.2.2.1.1]
    by_cases q2 : t.1 = 0
    · rw [if_pos q2, if_pos (show iZ t.1 = 0 by rw [q2]; rfl), if_pos rfl]
      exact ⟨rfl, rfl⟩
    · rw [if_neg q2, if_neg (show ¬ iZ t.1 = 0 from eq_n (b := 0) (by omega) (by omega) (by omega) (by omega) (by omega)), if_neg Bool.false_ne_true]
      obtain ⟨g, e, f, r⟩ := x6_fail hC.2.2.1 1
      exact ⟨g, by rw [i1, e]; rfl, sTE_RC (sEr_TE f), r⟩
theorem c_tail {n : Int} {R : Row} (hn : 0 ≤ n ∧ n ≤ 11) (hC : CT h len bs t) (hT : TkOk t) (hR : RwC h 1 R) (hW : RwW R) (h0 : R.1 = 0) : match carsE len bs n R t with
    | .inl (c, p) => ∃ g, jX8_readSystem_L84 1 (iZ n) KE FU (iZ 0) h = some (false, g) ∧ Fr sRC h g ∧ ErC g c p
    | .inr R2 => ∃ g, jX8_readSystem_L84 1 (iZ n) KE FU (iZ 0) h = some (true, g) ∧ Fr sRC h g ∧ RwC g 1 R2 ∧ RwW R2 ∧ R2.1 = n ∧ R2.2.1 = R.2.1 ∧ gI g (4, 0, 0) 7 = gI h (4, 0, 0) 7 ∧ gI g (4, 0, 0) 8 = gI h (4, 0, 0) 8 := by
  have hfu : FU = (999999 - n.toNat) + n.toNat + 1 := by unfold FU; omega
  have hc := c_cars (len := len) (bs := bs) hn KE n.toNat (999999 - n.toNat) h R t hC hT hR hW (by omega)
  rw [← hfu, h0] at hc
  unfold carsE
  cases hp : carsP len bs n n.toNat R t with
  | inl er =>
    rw [hp] at hc
    obtain ⟨c, p⟩ := er
    exact hc
  | inr rt =>
    rw [hp] at hc
    obtain ⟨R2, t2⟩ := rt
    obtain ⟨g, e, f, k1, k2, k3, k4, k5, k6, k7, k8⟩ := hc
    have he := c_end (R := R2) k2 k3
    show match endP R2 t2 with | .inl (c, p) => _ | .inr R2 => _
    cases hq : endP R2 t2 with
    | inl er =>
      rw [hq] at he
      obtain ⟨c, p⟩ := er
      obtain ⟨g2, e2, f2, r2⟩ := he
      exact ⟨g2, e.trans e2, f.tr f2, r2⟩
    | inr R3 =>
      rw [hq] at he
      obtain ⟨e2, r2⟩ := he
      subst r2
      exact ⟨g, e.trans e2, f, k1, k4, k5, k6, k7, k8⟩
end
section
variable {h : HD} {len : Int} {bs : Int → Int} {t : Tok}
theorem c_back {R : Row} (hC : CT h len bs t) (hR : RwC h 1 R) : match bk1 len bs t with
    | .inl (c, p) => ∃ g, jX8_readBack 1 h = some (false, g) ∧ Fr sRC h g ∧ ErC g c p
    | .inr (v, t2) => ∃ g, jX8_readBack 1 h = some (true, g) ∧ Fr sRC h g ∧ RwC g 1 (R.1, v, R.2.2.1, R.2.2.2) ∧ CT g len bs t2 ∧ TkOk t2 ∧ (0 ≤ v ∧ v ≤ 5) ∧ gI g (4, 0, 0) 7 = gI h (4, 0, 0) 7 ∧ gI g (4, 0, 0) 8 = gI h (4, 0, 0) 8 := by
  have num := c_number hC (a := 0) (b := 5) (by omega) (by omega) (by omega) (by omega)
  unfold jX8_readBack bk1
  rw [i0, i5]
  unfold numP
  by_cases q : (nx len bs t).1 = 2 ∧ 0 ≤ (nx len bs t).2.2.2.2 ∧ (nx len bs t).2.2.2.2 ≤ 5
  · obtain ⟨g1, e1, f1, k1, v5, a7, a8⟩ := num.1 q
    rw [if_pos q, e1, Option.bind_some, if_pos rfl]
    have R1 : RwC g1 1 R := hR.fr f1 (fun _ _ => rfl)
    have R1' : RwC g1 1 (R.1, R.2.1, R.2.2.1, R.2.2.2) := R1
    obtain ⟨g2, e2, f2, c2⟩ := x2_back (v := (nx len bs t).2.2.2.2) R1'
    have k2 : CT g2 len bs (nx len bs t) := k1.fr f2 rfl (fun _ => rfl) (fun _ _ => rfl)
    have mk := c_mark k2 (c := 59) (by decide) (by decide)
    have e2' : jX2_changeBack 1 (jX6_number g1) g1 = some g2 := by unfold jX6_number; rw [v5]; exact e2
    unfold mkP
    show match (match (if isMk (nx len bs (nx len bs t)) 59 then (.inr () : Rd Unit) else .inl (1, (nx len bs (nx len bs t)).2.1)) with | .inl e => .inl e | .inr _ => .inr ((nx len bs t).2.2.2.2, nx len bs (nx len bs (nx len bs t))) : Rd (Int × Tok)) with | .inl (c, p) => _ | .inr (v, t2) => _
    by_cases q4 : isMk (nx len bs (nx len bs t)) 59
    · obtain ⟨g4, e4, f4, k4, d7, d8⟩ := mk.1 q4
      rw [if_pos q4]
      obtain ⟨g5, e5, f5, k5, h7, h8⟩ := c_adv k4
      refine ⟨g5, ?_, (((sTE_RC f1).tr (s1_RC f2)).tr (sTE_RC f4)).tr (sTE_RC f5), (c2.fr f4 (fun _ _ => rfl)).fr f5 (fun _ _ => rfl), k5, (nx_ok k4).1, ⟨q.2.1, q.2.2⟩, ?_, ?_⟩
      · show (jX2_changeBack 1 (jX6_number g1) g1).bind _ = _
        rw [e2', Option.bind_some]
        show (jX6_readMark (iZ 59) g2).bind _ = _
        rw [e4, Option.bind_some, if_pos rfl]
        show (jX6_advance g4).bind _ = _
        rw [e5]
        rfl
      · rw [h7, d7, f2.1 _ _ rfl, a7]
      · rw [h8, d8, f2.1 _ _ rfl, a8]
    · obtain ⟨g4, e4, f4, r4⟩ := mk.2 q4
      rw [if_neg q4]
      refine ⟨g4, ?_, ((sTE_RC f1).tr (s1_RC f2)).tr (sTE_RC f4), r4⟩
      show (jX2_changeBack 1 (jX6_number g1) g1).bind _ = _
      rw [e2', Option.bind_some]
      show (jX6_readMark (iZ 59) g2).bind _ = _
      rw [e4, Option.bind_some, if_neg Bool.false_ne_true]
  · obtain ⟨g1, e1, f1, r1⟩ := num.2 q
    rw [if_neg q]
    exact ⟨g1, by rw [e1]; rfl, sTE_RC f1, r1⟩
end
/-- the class's reading of a system -/
theorem c_system {h : HD} {len : Int} {bs : Int → Int} (hB : BfC 0 h len bs) (l1 : len ≤ 400) (hT : TkC h (tok0 0)) : match sysP len bs with
    | .inl (c, p) => ∃ g, jX8_readSystem 1 h = some (false, g) ∧ Fr sRC h g ∧ ErC g c p
    | .inr R => ∃ g, jX8_readSystem 1 h = some (true, g) ∧ Fr sRC h g ∧ RwC g 1 R ∧ RwW R ∧ gI g (4, 0, 0) 7 = gI h (4, 0, 0) 7 ∧ gI g (4, 0, 0) 8 = gI h (4, 0, 0) 8 := by
  have l0 := hB.1
  obtain ⟨h1, e1⟩ : ∃ h1, h1 = sI (sI h (1, 1, 0) 2 (iZ 0)) (1, 1, 0) 3 (iZ 0) := ⟨_, rfl⟩
  have f1 : Fr (s1 1) h h1 := by rw [e1]; exact (Fr.rf.sI rfl _).sI rfl _
  have em : jX2_empty 1 h = some h1 := by unfold jX2_empty; rw [lt_eq, lt_eq, i0, ← e1]
  have R1 : RwC h1 1 (0, 0, fun _ => 0, fun _ => []) := ⟨⟨by rw [e1, gI_nk _ _ _ (by decide), gI_self], by rw [e1, gI_self], fun z z0 z1 => by omega⟩, fun z z0 z1 => absurd z1 (by show ¬ z < 0; omega)⟩
  have C0 : CT h len bs (tok0 0) := ⟨hB, l1, hT, Int.le_refl 0, l0⟩
  have C1 : CT h1 len bs (tok0 0) := C0.fr f1 rfl (fun _ => rfl) (fun _ _ => rfl)
  have wd := c_word C1 wPark_ok txPark
  have F1 : Fr sRC h h1 := s1_RC f1
  unfold jX8_readSystem
  rw [em, Option.bind_some]
  unfold sysP
  have et : nx len bs (tok0 0) = tok len bs 0 := rfl
  rw [et] at wd
  obtain ⟨t0, ht0⟩ : ∃ t0, tok len bs 0 = t0 := ⟨_, rfl⟩
  rw [ht0] at wd ⊢
  by_cases q0 : isWd t0 wPark
  · obtain ⟨h2, e2, f2, C2, a7, a8⟩ := wd.1 q0
    rw [if_pos q0, e2, Option.bind_some, if_pos rfl]
    have num := c_number C2 (a := 0) (b := 11) (by omega) (by omega) (by omega) (by omega)
    unfold numP
    rw [i0, i11]
    by_cases q1 : (nx len bs t0).1 = 2 ∧ 0 ≤ (nx len bs t0).2.2.2.2 ∧ (nx len bs t0).2.2.2.2 ≤ 11
    · obtain ⟨h3, e3, f3, C3, v5, b7, b8⟩ := num.1 q1
      rw [if_pos q1]
      obtain ⟨n, hnv⟩ : ∃ n, (nx len bs t0).2.2.2.2 = n := ⟨_, rfl⟩
      rw [hnv] at q1 v5 ⊢
      have mk := c_mark C3 (c := 59) (by decide) (by decide)
      unfold mkP
      by_cases q2 : isMk (nx len bs (nx len bs t0)) 59
      · obtain ⟨h4, e4, f4, C4, c7, c8⟩ := mk.1 q2
        rw [if_pos q2]
        obtain ⟨h5, e5, f5, C5, d7, d8⟩ := c_adv C4
        obtain ⟨t3, ht3⟩ : ∃ t3, nx len bs (nx len bs (nx len bs t0)) = t3 := ⟨_, rfl⟩
        have K5 : TkOk (nx len bs (nx len bs (nx len bs t0))) := (nx_ok C4).1
        rw [ht3] at C5 K5
        have R5 : RwC h5 1 (0, 0, fun _ => 0, fun _ => []) := (((R1.fr f2 (fun _ _ => rfl)).fr f3 (fun _ _ => rfl)).fr f4 (fun _ _ => rfl)).fr f5 (fun _ _ => rfl)
        have F5 : Fr sRC h h5 := (((F1.tr (sTE_RC f2)).tr (sTE_RC f3)).tr (sTE_RC f4)).tr (sTE_RC f5)
        have z7 : gI h5 (4, 0, 0) 7 = gI h (4, 0, 0) 7 := by rw [d7, c7, b7, a7, f1.1 _ _ rfl]
        have z8 : gI h5 (4, 0, 0) 8 = gI h (4, 0, 0) 8 := by rw [d8, c8, b8, a8, f1.1 _ _ rfl]
        have W0 : ∀ b, RwW (0, b, fun _ => 0, fun _ => []) := fun b => ⟨⟨(Int.le_refl 0 : (0 : Int) ≤ 0), (by decide : (0 : Int) ≤ 11)⟩, fun z z0 z1 => absurd z1 (by show ¬ z < 0; omega)⟩
        have e4' : jX6_readMark (59 : Int32) h3 = some (true, h4) := e4
        have v5' : jX6_number h3 = iZ n := v5
        have hKE : KE = fun h14 => (jX6_isWord_ tx199 h14).bind fun q15 => (if q15 = true then (jX6_fail (5 : Int32) h14).bind fun q17 => some (q17.1, q17.2) else (if (jX6_isEnd h14) = true then some (true, h14) else (jX6_fail (1 : Int32) h14).bind fun q16 => (if q16.1 = true then some (true, q16.2) else some (false, q16.2)))) := rfl
        rw [← hKE, e3, Option.bind_some, if_pos rfl, e4', Option.bind_some, if_pos rfl, e5, Option.bind_some, x6_isWord_ C5.2.2.1 K5 wBack_ok txBack, Option.bind_some, v5', ht3]
        show match backE len bs n t3 with | .inl (c, p) => _ | .inr R => _
        unfold backE
        by_cases q3 : isWd t3 wBack
        · rw [decide_eq_true (show t3.1 = 1 ∧ t3.2.2.2.1 = wBack from q3), if_pos rfl, if_pos q3]
          have cb := c_back C5 R5
          cases hb : bk1 len bs t3 with
          | inl er =>
            rw [hb] at cb
            obtain ⟨c, p⟩ := er
            obtain ⟨g, e6, f6, r6⟩ := cb
            exact ⟨g, by rw [e6, Option.bind_some, if_neg Bool.false_ne_true], F5.tr f6, r6⟩
          | inr rt =>
            rw [hb] at cb
            obtain ⟨b, t6⟩ := rt
            obtain ⟨g, e6, f6, R6, C6, K6, vb, y7, y8⟩ := cb
            have R6' : RwC g 1 (0, b, fun _ => 0, fun _ => []) := R6
            have ct := c_tail (n := n) ⟨q1.2.1, q1.2.2⟩ C6 K6 R6' (W0 b) rfl
            show match carsE len bs n (0, b, fun _ => 0, fun _ => []) t6 with | .inl (c, p) => _ | .inr R => _
            cases hc : carsE len bs n (0, b, fun _ => 0, fun _ => []) t6 with
            | inl er =>
              rw [hc] at ct
              obtain ⟨c, p⟩ := er
              obtain ⟨g2, e7, f7, r7⟩ := ct
              exact ⟨g2, by rw [e6, Option.bind_some, if_pos rfl]; exact e7, (F5.tr f6).tr f7, r7⟩
            | inr R2 =>
              rw [hc] at ct
              obtain ⟨g2, e7, f7, r7, w7, -, -, x7, x8⟩ := ct
              exact ⟨g2, by rw [e6, Option.bind_some, if_pos rfl]; exact e7, (F5.tr f6).tr f7, r7, w7, x7.trans (y7.trans z7), x8.trans (y8.trans z8)⟩
        · rw [decide_eq_false (show ¬ (t3.1 = 1 ∧ t3.2.2.2.1 = wBack) from q3), if_neg Bool.false_ne_true, if_neg q3]
          have ct := c_tail (n := n) ⟨q1.2.1, q1.2.2⟩ C5 K5 R5 (W0 0) rfl
          cases hc : carsE len bs n (0, 0, fun _ => 0, fun _ => []) t3 with
          | inl er =>
            rw [hc] at ct
            obtain ⟨c, p⟩ := er
            obtain ⟨g2, e7, f7, r7⟩ := ct
            exact ⟨g2, e7, F5.tr f7, r7⟩
          | inr R2 =>
            rw [hc] at ct
            obtain ⟨g2, e7, f7, r7, w7, -, -, x7, x8⟩ := ct
            exact ⟨g2, e7, F5.tr f7, r7, w7, x7.trans z7, x8.trans z8⟩
      · obtain ⟨h4, e4, f4, r4⟩ := mk.2 q2
        have e4' : jX6_readMark (59 : Int32) h3 = some (false, h4) := e4
        rw [if_neg q2, e3, Option.bind_some, if_pos rfl, e4', Option.bind_some, if_neg Bool.false_ne_true]
        exact ⟨h4, rfl, ((F1.tr (sTE_RC f2)).tr (sTE_RC f3)).tr (sTE_RC f4), r4⟩
    · obtain ⟨h3, e3, f3, r3⟩ := num.2 q1
      rw [if_neg q1, e3, Option.bind_some, if_neg Bool.false_ne_true]
      exact ⟨h3, rfl, (F1.tr (sTE_RC f2)).tr (sTE_RC f3), r3⟩
  · obtain ⟨h2, e2, f2, r2⟩ := wd.2 q0
    rw [if_neg q0, e2, Option.bind_some, if_neg Bool.false_ne_true]
    exact ⟨h2, rfl, F1.tr (sTE_RC f2), r2⟩
