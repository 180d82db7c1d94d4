/-! THE SYSTEM OF A TEXT: the class -/
def endP (R : Row) (t : Tok) : Rd Row := if isWd t wCar then .inl (5, t.2.1) else if t.1 = 0 then .inr R else .inl (1, t.2.1)
def bkP (len : Int) (bs : Int → Int) (t : Tok) : Rd (Int × Tok) :=
  if isWd t wBack then
    match numP (nx len bs t) 0 5 with
    | .inl e => .inl e
    | .inr v => match mkP (nx len bs (nx len bs t)) 59 with
      | .inl e => .inl e
      | .inr _ => .inr (v, nx len bs (nx len bs (nx len bs t)))
  else .inr (0, t)
def sysP (len : Int) (bs : Int → Int) : Rd Row :=
  if isWd (tok len bs 0) wPark then
    match numP (nx len bs (tok len bs 0)) 0 11 with
    | .inl e => .inl e
    | .inr n => match mkP (nx len bs (nx len bs (tok len bs 0))) 59 with
      | .inl e => .inl e
      | .inr _ => match bkP len bs (nx len bs (nx len bs (nx len bs (tok len bs 0)))) with
        | .inl e => .inl e
        | .inr (b, t) => match carsP len bs n n.toNat (0, b, fun _ => 0, fun _ => []) t with
          | .inl e => .inl e
          | .inr (R, t2) => endP R t2
  else .inl (1, (tok len bs 0).2.1)
def KE : HD → Option (Bool × HD) := fun h14 => (jX6_isWord_ tx199 h14).bind fun q15 => (if q15 = true then (jX6_fail (5 : Int32) h14).bind fun q17 => some (q17.1, q17.2) else (if (jX6_isEnd h14) = true then some (true, h14) else (jX6_fail (1 : Int32) h14).bind fun q16 => (if q16.1 = true then some (true, q16.2) else some (false, q16.2))))
section
variable {h : HD} {len : Int} {bs : Int → Int} {t : Tok}
theorem c_end {R : Row} (hC : CT h len bs t) (hT : TkOk t) : match endP R t with
    | .inl (c, p) => ∃ g, KE h = some (false, g) ∧ Fr sRC h g ∧ ErC g c p
    | .inr R2 => KE h = some (true, h) ∧ R2 = R := by
  have h4 := hT.2.2.2
  unfold KE endP
  rw [x6_isWord_ hC.2.2.1 hT wCar_ok txCar, Option.bind_some]
  by_cases q : isWd t wCar
  · rw [if_pos q, decide_eq_true (show t.1 = 1 ∧ t.2.2.2.1 = wCar from q), if_pos rfl]
    obtain ⟨g, e, f, r⟩ := x6_fail hC.2.2.1 5
    exact ⟨g, by rw [i5, e]; rfl, sTE_RC (sEr_TE f), r⟩
  · rw [if_neg q, decide_eq_false (show ¬ (t.1 = 1 ∧ t.2.2.2.1 = wCar) from q), if_neg Bool.false_ne_true]
    unfold jX6_isEnd
    rw [hC.2.2.1.1]
    by_cases q2 : t.1 = 0
    · rw [if_pos q2, if_pos (show iZ t.1 = 0 by rw [q2]; rfl), if_pos rfl]
      exact ⟨rfl, rfl⟩
    · rw [if_neg q2, if_neg (show ¬ iZ t.1 = 0 from eq_n (b := 0) (by omega) (by omega) (by omega) (by omega) (by omega)), if_neg Bool.false_ne_true]
      obtain ⟨g, e, f, r⟩ := x6_fail hC.2.2.1 1
      exact ⟨g, by rw [i1, e]; rfl, sTE_RC (sEr_TE f), r⟩
theorem c_tail {n : Int} {R : Row} (hn : 0 ≤ n ∧ n ≤ 11) (hC : CT h len bs t) (hT : TkOk t) (hR : RwC h 1 R) (hW : RwW R) (h0 : R.1 = 0) : match (match carsP len bs n n.toNat R t with | .inl e => .inl e | .inr (R, t2) => endP R t2 : Rd Row) with
    | .inl (c, p) => ∃ g, jX8_readSystem_L84 1 (iZ n) KE FU (iZ 0) h = some (false, g) ∧ Fr sRC h g ∧ ErC g c p
    | .inr R2 => ∃ g, jX8_readSystem_L84 1 (iZ n) KE FU (iZ 0) h = some (true, g) ∧ Fr sRC h g ∧ RwC g 1 R2 ∧ RwW R2 ∧ R2.1 = n ∧ R2.2.1 = R.2.1 ∧ gI g (4, 0, 0) 7 = gI h (4, 0, 0) 7 ∧ gI g (4, 0, 0) 8 = gI h (4, 0, 0) 8 := by
  have hfu : FU = (999999 - n.toNat) + n.toNat + 1 := by unfold FU; omega
  have hc := c_cars (len := len) (bs := bs) hn KE n.toNat (999999 - n.toNat) h R t hC hT hR hW (by omega)
  rw [← hfu, h0] at hc
  cases hp : carsP len bs n n.toNat R t with
  | inl er =>
    rw [hp] at hc
    obtain ⟨c, p⟩ := er
    exact hc
  | inr rt =>
    rw [hp] at hc
    obtain ⟨R2, t2⟩ := rt
    obtain ⟨g, e, f, k1, k2, k3, k4, k5, k6, k7, k8⟩ := hc
    have he := c_end (R := R2) k2 k3
    show match endP R2 t2 with | .inl (c, p) => _ | .inr R2 => _
    cases hq : endP R2 t2 with
    | inl er =>
      rw [hq] at he
      obtain ⟨c, p⟩ := er
      obtain ⟨g2, e2, f2, r2⟩ := he
      exact ⟨g2, e.trans e2, f.tr f2, r2⟩
    | inr R3 =>
      rw [hq] at he
      obtain ⟨e2, r2⟩ := he
      subst r2
      exact ⟨g, e.trans e2, f, k1, k4, k5, k6, k7, k8⟩
end
section
variable {h : HD} {len : Int} {bs : Int → Int} {t : Tok}
theorem c_back {R : Row} (hC : CT h len bs t) (hR : RwC h 1 R) (hb : (nx len bs t).1 = (nx len bs t).1) : match (match numP (nx len bs t) 0 5 with
      | .inl e => .inl e
      | .inr v => match mkP (nx len bs (nx len bs t)) 59 with
        | .inl e => .inl e
        | .inr _ => .inr (v, nx len bs (nx len bs (nx len bs t))) : Rd (Int × Tok)) with
    | .inl (c, p) => ∃ g, jX8_readBack 1 h = some (false, g) ∧ Fr sRC h g ∧ ErC g c p
    | .inr (v, t2) => ∃ g, jX8_readBack 1 h = some (true, g) ∧ Fr sRC h g ∧ RwC g 1 (R.1, v, R.2.2.1, R.2.2.2) ∧ CT g len bs t2 ∧ TkOk t2 ∧ (0 ≤ v ∧ v ≤ 5) ∧ gI g (4, 0, 0) 7 = gI h (4, 0, 0) 7 ∧ gI g (4, 0, 0) 8 = gI h (4, 0, 0) 8 := by
  have num := c_number hC (a := 0) (b := 5) (by omega) (by omega) (by omega) (by omega)
  unfold jX8_readBack
  rw [i0, i5]
  unfold numP
  by_cases q : (nx len bs t).1 = 2 ∧ 0 ≤ (nx len bs t).2.2.2.2 ∧ (nx len bs t).2.2.2.2 ≤ 5
  · obtain ⟨g1, e1, f1, k1, v5, a7, a8⟩ := num.1 q
    rw [if_pos q, e1, Option.bind_some, if_pos rfl]
    have R1 : RwC g1 1 R := hR.fr f1 (fun _ _ => rfl)
    have R1' : RwC g1 1 (R.1, R.2.1, R.2.2.1, R.2.2.2) := R1
    obtain ⟨g2, e2, f2, c2⟩ := x2_back (v := (nx len bs t).2.2.2.2) R1'
    have k2 : CT g2 len bs (nx len bs t) := k1.fr f2 rfl (fun _ => rfl) (fun _ _ => rfl)
    have mk := c_mark k2 (c := 59) (by decide) (by decide)
    have e2' : jX2_changeBack 1 (jX6_number g1) g1 = some g2 := by unfold jX6_number; rw [v5]; exact e2
    unfold mkP
    show match (match (if isMk (nx len bs (nx len bs t)) 59 then (.inr () : Rd Unit) else .inl (1, (nx len bs (nx len bs t)).2.1)) with | .inl e => .inl e | .inr _ => .inr ((nx len bs t).2.2.2.2, nx len bs (nx len bs (nx len bs t))) : Rd (Int × Tok)) with | .inl (c, p) => _ | .inr (v, t2) => _
    by_cases q4 : isMk (nx len bs (nx len bs t)) 59
    · obtain ⟨g4, e4, f4, k4, d7, d8⟩ := mk.1 q4
      rw [if_pos q4]
      obtain ⟨g5, e5, f5, k5, h7, h8⟩ := c_adv k4
      refine ⟨g5, ?_, (((sTE_RC f1).tr (s1_RC f2)).tr (sTE_RC f4)).tr (sTE_RC f5), (c2.fr f4 (fun _ _ => rfl)).fr f5 (fun _ _ => rfl), k5, (nx_ok k4).1, ⟨q.2.1, q.2.2⟩, ?_, ?_⟩
      · show (jX2_changeBack 1 (jX6_number g1) g1).bind _ = _
        rw [e2', Option.bind_some]
        show (jX6_readMark (iZ 59) g2).bind _ = _
        rw [e4, Option.bind_some, if_pos rfl]
        show (jX6_advance g4).bind _ = _
        rw [e5]
        rfl
      · rw [h7, d7, f2.1 _ _ rfl, a7]
      · rw [h8, d8, f2.1 _ _ rfl, a8]
    · obtain ⟨g4, e4, f4, r4⟩ := mk.2 q4
      rw [if_neg q4]
      refine ⟨g4, ?_, ((sTE_RC f1).tr (s1_RC f2)).tr (sTE_RC f4), r4⟩
      show (jX2_changeBack 1 (jX6_number g1) g1).bind _ = _
      rw [e2', Option.bind_some]
      show (jX6_readMark (iZ 59) g2).bind _ = _
      rw [e4, Option.bind_some, if_neg Bool.false_ne_true]
  · obtain ⟨g1, e1, f1, r1⟩ := num.2 q
    rw [if_neg q]
    exact ⟨g1, by rw [e1]; rfl, sTE_RC f1, r1⟩
end
