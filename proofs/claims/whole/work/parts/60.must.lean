/-! reading one thing: the reference -/
def ErG (h : HD) : Prop := jX9_isGood h = false
section
variable {h : HD} {len : Int} {bs : Int → Int} {t : Tok}
theorem ErM.g {c p : Int} (hE : ErM h c p) (hc : c = 1 ∨ c = 2 ∨ c = 3 ∨ c = 4 ∨ c = 5) : ErG h := m_bad hE (by omega) (by omega)
theorem m_mustSign (hM : MT h len bs t) {c : Int} (c0 : 0 ≤ c) (c1 : c ≤ 1000) : (isMk t c → ∃ g, jX9_mustSign (iZ c) h = some g ∧ Fr sRd h g ∧ MT g len bs (nx len bs t)) ∧ (¬ isMk t c → ∃ g, jX9_mustSign (iZ c) h = some g ∧ Fr sME h g ∧ ErM g 1 t.2.1) := by
  unfold jX9_mustSign
  rw [m_good hM, if_pos rfl, m_isSign hM c0 c1]
  refine ⟨fun q => ?_, fun q => ?_⟩
  · obtain ⟨g, e, f, k⟩ := m_goOn hM
    rw [decide_eq_true (show t.1 = 3 ∧ t.2.2.2.2 = c from q), if_pos rfl, if_pos rfl, e]
    exact ⟨g, rfl, f, k⟩
  · obtain ⟨g, e, f, k⟩ := m_wrong hM (c := 1)
    have k1 : ErM g 1 t.2.1 := by rwa [ite_self] at k
    rw [decide_eq_false (show ¬ (t.1 = 3 ∧ t.2.2.2.2 = c) from q), if_neg Bool.false_ne_true, i1, e, Option.bind_some, m_bad k1 (by decide) (by decide), if_neg Bool.false_ne_true]
    exact ⟨g, rfl, f, k1⟩
theorem b_mustSign (hE : ErG h) (c : Int32) : jX9_mustSign c h = some h := by
  unfold jX9_mustSign
  rw [show jX9_isGood h = false from hE, if_neg Bool.false_ne_true, if_neg Bool.false_ne_true]
theorem m_mustWord (hM : MT h len bs t) {ks : List Nat} (hk : NmOk ks) : (isWd t ks → ∃ g, jX9_mustWord (jZ (eM ks)) h = some g ∧ Fr sRd h g ∧ MT g len bs (nx len bs t)) ∧ (¬ isWd t ks → ∃ g, jX9_mustWord (jZ (eM ks)) h = some g ∧ Fr sME h g ∧ ErM g 1 t.2.1) := by
  unfold jX9_mustWord
  rw [m_good hM, if_pos rfl, m_isWord hM hk]
  refine ⟨fun q => ?_, fun q => ?_⟩
  · obtain ⟨g, e, f, k⟩ := m_goOn hM
    rw [decide_eq_true (show t.1 = 1 ∧ t.2.2.2.1 = ks from q), if_pos rfl, if_pos rfl, e]
    exact ⟨g, rfl, f, k⟩
  · obtain ⟨g, e, f, k⟩ := m_wrong hM (c := 1)
    have k1 : ErM g 1 t.2.1 := by rwa [ite_self] at k
    rw [decide_eq_false (show ¬ (t.1 = 1 ∧ t.2.2.2.1 = ks) from q), if_neg Bool.false_ne_true, i1, e, Option.bind_some, m_bad k1 (by decide) (by decide), if_neg Bool.false_ne_true]
    exact ⟨g, rfl, f, k1⟩
theorem m_mustName (hM : MT h len bs t) : (t.1 = 1 → jX9_mustName h = some h) ∧ (¬ t.1 = 1 → ∃ g, jX9_mustName h = some g ∧ Fr sME h g ∧ ErM g 1 t.2.1) := by
  have h4 := hM.2.2.2.2.1.2.2.2
  unfold jX9_mustName
  rw [m_good hM, if_pos rfl, hM.2.2.2.1.1]
  refine ⟨fun q => ?_, fun q => ?_⟩
  · rw [if_pos (show iZ t.1 = 1 by rw [q]; rfl)]
  · obtain ⟨g, e, f, k⟩ := m_wrong hM (c := 1)
    have k1 : ErM g 1 t.2.1 := by rwa [ite_self] at k
    rw [if_neg (show ¬ iZ t.1 = 1 from eq_n (b := 1) (by omega) (by omega) (by omega) (by omega) (by omega)), i1, e]
    exact ⟨g, rfl, f, k1⟩
end
section
variable {h : HD} {len : Int} {bs : Int → Int} {t : Tok}
theorem m_looks (hM : MT h len bs t) {a b : Int} (a0 : 0 ≤ a) (a1 : a ≤ 1000) (b0 : 0 ≤ b) (b1 : b ≤ 1000) : match numP t a b with
    | .inr v => jX9_looks (iZ a) (iZ b) h = some (iZ v, h)
    | .inl (c, p) => ∃ w g, jX9_looks (iZ a) (iZ b) h = some (w, g) ∧ Fr sME h g ∧ ErM g c p ∧ (c = 1 ∨ c = 2) := by
  have hT := hM.2.2.2.1
  have hk := hM.2.2.2.2.1
  have h4 := hk.2.2.2
  have hin : ∀ g : HD, t.1 = 2 → gI g (7, 0, 0) 7 = iZ t.2.2.2.2 → jX9_isIn ((gI g (7, 0, 0) 7).toInt64) (iZ a).toInt64 (iZ b).toInt64 g = decide (a ≤ t.2.2.2.2 ∧ t.2.2.2.2 ≤ b) := fun g q hg => by
    have := hk.2.1 q
    rw [hg, iZ_j (by omega) (by omega), iZ_j (by omega) (by omega), iZ_j (by omega) (by omega), jZ_is (by omega) (by omega) (by omega) (by omega) (by omega) (by omega)]
  unfold jX9_looks numP
  rw [m_good hM, if_pos rfl, hT.1]
  by_cases q : t.1 = 2
  · have v7 := hT.2.2.2.2 (Or.inl q)
    rw [if_pos (show iZ t.1 = 2 by rw [q]; rfl), if_pos rfl, hin h q v7]
    by_cases r : a ≤ t.2.2.2.2 ∧ t.2.2.2.2 ≤ b
    · rw [decide_eq_true r, if_pos rfl, if_pos ⟨q, r⟩, v7]
    · rw [decide_eq_false r, if_neg Bool.false_ne_true, if_neg (fun c => r c.2)]
      obtain ⟨g, e, f, k⟩ := m_wrong hM (c := 2)
      rw [if_neg (show ¬ t.1 = 4 by omega)] at k
      show ∃ w g, _ ∧ _ ∧ ErM g (if t.1 = 2 then 2 else 1) t.2.1 ∧ _
      rw [if_pos q]
      exact ⟨_, g, by rw [i2, e]; rfl, f, k, Or.inr rfl⟩
  · rw [if_neg (show ¬ iZ t.1 = 2 from eq_n (b := 2) (by omega) (by omega) (by omega) (by omega) (by omega)), if_neg (fun c => q c.1)]
    obtain ⟨g, e, f, k⟩ := m_wrong hM (c := 1)
    have k1 : ErM g 1 t.2.1 := by rwa [ite_self] at k
    show ∃ w g, _ ∧ _ ∧ ErM g (if t.1 = 2 then 2 else 1) t.2.1 ∧ _
    rw [if_neg q]
    refine ⟨gI g (7, 0, 0) 7, g, ?_, f, k1, Or.inl rfl⟩
    rw [i1, e, Option.bind_some, m_bad k1 (by decide) (by decide), if_neg Bool.false_ne_true]
theorem m_number (hM : MT h len bs t) {a b : Int} (a0 : 0 ≤ a) (a1 : a ≤ 1000) (b0 : 0 ≤ b) (b1 : b ≤ 1000) : match numP t a b with
    | .inr v => ∃ g, jX9_number (iZ a) (iZ b) h = some (iZ v, g) ∧ Fr sRd h g ∧ MT g len bs (nx len bs t)
    | .inl (c, p) => ∃ w g, jX9_number (iZ a) (iZ b) h = some (w, g) ∧ Fr sME h g ∧ ErM g c p ∧ (c = 1 ∨ c = 2) := by
  have hl := m_looks hM a0 a1 b0 b1
  unfold jX9_number
  cases hn : numP t a b with
  | inr v =>
    rw [hn] at hl
    replace hl : jX9_looks (iZ a) (iZ b) h = some (iZ v, h) := hl
    obtain ⟨g, e, f, k⟩ := m_goOn hM
    refine ⟨g, ?_, f, k⟩
    rw [hl, Option.bind_some]
    show (if jX9_isGood h = true then _ else _) = _
    rw [m_good hM, if_pos rfl]
    show (jX9_goOnRead h).bind _ = _
    rw [e]
    rfl
  | inl er =>
    rw [hn] at hl
    obtain ⟨c, p⟩ := er
    obtain ⟨w, g, e, f, k, hc⟩ := hl
    refine ⟨w, g, ?_, f, k, hc⟩
    rw [e, Option.bind_some]
    show (if jX9_isGood g = true then _ else _) = _
    rw [m_bad k (by omega) (by omega), if_neg Bool.false_ne_true]
end
