/-! one car of a text: the reference -/
def ND (p1 : Int32) (h : HD) : Option HD :=
  (jX9_nameHere h).bind fun q2 => (jX9_number (0 : Int32) p1 q2.2).bind fun q3 =>
  (if (jX9_isGood q3.2) = true then if inB (gI q3.2 (7, 0, 2) 0) 11 = true then lt (sJ q3.2 (7, 0, 7) ((gI q3.2 (7, 0, 2) 0).toNatClampNeg) q2.1) fun h4 =>
  if inB ((2 : Int32) + (gI h4 (7, 0, 2) 0)) 13 = true then lt (sI h4 (7, 0, 2) (((2 : Int32) + (gI h4 (7, 0, 2) 0)).toNatClampNeg) q3.1) fun h6 =>
  lt (sI h6 (7, 0, 2) 0 ((gI h6 (7, 0, 2) 0) + (1 : Int32))) fun h8 =>
  some h8 else none else none else some q3.2)
def RC (p1 : Int32) (h : HD) : Option HD :=
  (jX9_mustName h).bind fun q1 => (if (jX9_isGood q1) = true then (jX9_carNamed (gJ q1 (7, 0, 0) 12) q1).bind fun q9 => (if q9 = (-1 : Int32) then ND p1 q1 else (jX9_wrong (3 : Int32) q1).bind fun q17 => ND p1 q17) else ND p1 q1)
theorem b_ND {h : HD} (hE : ErG h) (p1 : Int32) : ND p1 h = some h := by
  have hg : jX9_isGood h = false := hE
  have e1 : jX9_mustName h = some h := by unfold jX9_mustName; rw [hg, if_neg Bool.false_ne_true]
  have e2 : jX9_nameHere h = some (gJ h (7, 0, 0) 12, h) := by
    unfold jX9_nameHere
    rw [e1, Option.bind_some, hg, if_neg Bool.false_ne_true]
  have e3 : ∀ a b, jX9_number a b h = some (gI h (7, 0, 0) 7, h) := fun a b => by
    unfold jX9_number jX9_looks
    rw [hg, if_neg Bool.false_ne_true, if_neg Bool.false_ne_true, Option.bind_some]
    show (if jX9_isGood h = true then _ else _) = _
    rw [hg, if_neg Bool.false_ne_true]
  unfold ND
  rw [e2, Option.bind_some]
  show (jX9_number 0 p1 h).bind _ = _
  rw [e3, Option.bind_some]
  show (if jX9_isGood h = true then _ else _) = _
  rw [hg, if_neg Bool.false_ne_true]
theorem b_RC {h : HD} (hE : ErG h) (p1 : Int32) : RC p1 h = some h := by
  have hg : jX9_isGood h = false := hE
  unfold RC
  have e1 : jX9_mustName h = some h := by unfold jX9_mustName; rw [hg, if_neg Bool.false_ne_true]
  rw [e1, Option.bind_some, hg, if_neg Bool.false_ne_true, b_ND hE]
section
variable {h : HD} {len : Int} {bs : Int → Int} {t : Tok}
theorem m_carLine (hM : MT h len bs t) {n : Int} : (isWd t wCar → gI h (7, 0, 2) 0 = iZ n → ∃ g, jX9_carLine (iZ n) h = some g ∧ Fr sME h g ∧ ErM g 5 t.2.1) ∧ (isWd t wCar → gI h (7, 0, 2) 0 ≠ iZ n → ∃ g, jX9_carLine (iZ n) h = RC (iZ n) g ∧ Fr sRd h g ∧ MT g len bs (nx len bs t)) ∧ (¬ isWd t wCar → ∃ g, jX9_carLine (iZ n) h = some g ∧ Fr sME h g ∧ ErM g 1 t.2.1) := by
  have ew : jX9_isWord (3122 : Int64) h = decide (t.1 = 1 ∧ t.2.2.2.1 = wCar) := by
    have e3 : (3122 : Int64) = jZ (eM wCar) := by decide
    rw [e3]
    exact m_isWord hM wCar_ok
  unfold jX9_carLine
  rw [m_good hM, if_pos rfl, ew]
  refine ⟨fun q hc => ?_, fun q hc => ?_, fun q => ?_⟩
  · obtain ⟨g, e, f, k⟩ := m_wrong hM (c := 5)
    rw [if_neg (show ¬ t.1 = 4 by have := q.1; omega)] at k
    have kg : ErG g := k.g (by omega)
    rw [decide_eq_true (show t.1 = 1 ∧ t.2.2.2.1 = wCar from q), if_pos rfl, if_pos rfl, if_pos hc, i5, e, Option.bind_some, show jX9_isGood g = false from kg, if_neg Bool.false_ne_true]
    exact ⟨g, b_RC kg (iZ n), f, k⟩
  · obtain ⟨g, e, f, k⟩ := m_goOn hM
    rw [decide_eq_true (show t.1 = 1 ∧ t.2.2.2.1 = wCar from q), if_pos rfl, if_pos rfl, if_neg hc, if_pos rfl, e, Option.bind_some]
    exact ⟨g, rfl, f, k⟩
  · obtain ⟨g, e, f, k⟩ := m_wrong hM (c := 1)
    have k1 : ErM g 1 t.2.1 := by rwa [ite_self] at k
    have kg : ErG g := k1.g (by omega)
    rw [decide_eq_false (show ¬ (t.1 = 1 ∧ t.2.2.2.1 = wCar) from q), if_neg Bool.false_ne_true, i1, e, Option.bind_some, show jX9_isGood g = false from kg, if_neg Bool.false_ne_true]
    first
      | exact ⟨g, b_RC kg (iZ n), f, k1⟩
      | (rw [if_neg Bool.false_ne_true]; exact ⟨g, b_RC kg (iZ n), f, k1⟩)
end
