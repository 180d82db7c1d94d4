/-! reading one thing: the reference -/
def ErG (h : HD) : Prop := jX9_isGood h = false
section
variable {h : HD} {len : Int} {bs : Int → Int} {t : Tok}
theorem ErM.g {c p : Int} (hE : ErM h c p) (hc : c = 1 ∨ c = 2 ∨ c = 3 ∨ c = 4 ∨ c = 5) : ErG h := m_bad hE (by omega) (by omega)
theorem m_mustSign (hM : MT h len bs t) {c : Int} (c0 : 0 ≤ c) (c1 : c ≤ 1000) : (isMk t c → ∃ g, jX9_mustSign (iZ c) h = some g ∧ Fr sRd h g ∧ MT g len bs (nx len bs t)) ∧ (¬ isMk t c → ∃ g, jX9_mustSign (iZ c) h = some g ∧ Fr sME h g ∧ ErM g 1 t.2.1) := by
  unfold jX9_mustSign
  rw [m_good hM, if_pos rfl, m_isSign hM c0 c1]
  refine ⟨fun q => ?_, fun q => ?_⟩
  · obtain ⟨g, e, f, k⟩ := m_goOn hM
    rw [decide_eq_true (show t.1 = 3 ∧ t.2.2.2.2 = c from q), if_pos rfl, if_pos rfl, e]
    exact ⟨g, rfl, f, k⟩
  · obtain ⟨g, e, f, k⟩ := m_wrong hM (c := 1)
    have k1 : ErM g 1 t.2.1 := by rwa [ite_self] at k
    rw [decide_eq_false (show ¬ (t.1 = 3 ∧ t.2.2.2.2 = c) from q), if_neg Bool.false_ne_true, i1, e, Option.bind_some, m_bad k1 (by decide) (by decide), if_neg Bool.false_ne_true]
    exact ⟨g, rfl, f, k1⟩
theorem b_mustSign (hE : ErG h) (c : Int32) : jX9_mustSign c h = some h := by
  unfold jX9_mustSign
  rw [show jX9_isGood h = false from hE, if_neg Bool.false_ne_true, if_neg Bool.false_ne_true]
theorem m_mustWord (hM : MT h len bs t) {ks : List Nat} (hk : NmOk ks) : (isWd t ks → ∃ g, jX9_mustWord (jZ (eM ks)) h = some g ∧ Fr sRd h g ∧ MT g len bs (nx len bs t)) ∧ (¬ isWd t ks → ∃ g, jX9_mustWord (jZ (eM ks)) h = some g ∧ Fr sME h g ∧ ErM g 1 t.2.1) := by
  unfold jX9_mustWord
  rw [m_good hM, if_pos rfl, m_isWord hM hk]
  refine ⟨fun q => ?_, fun q => ?_⟩
  · obtain ⟨g, e, f, k⟩ := m_goOn hM
    rw [decide_eq_true (show t.1 = 1 ∧ t.2.2.2.1 = ks from q), if_pos rfl, if_pos rfl, e]
    exact ⟨g, rfl, f, k⟩
  · obtain ⟨g, e, f, k⟩ := m_wrong hM (c := 1)
    have k1 : ErM g 1 t.2.1 := by rwa [ite_self] at k
    rw [decide_eq_false (show ¬ (t.1 = 1 ∧ t.2.2.2.1 = ks) from q), if_neg Bool.false_ne_true, i1, e, Option.bind_some, m_bad k1 (by decide) (by decide), if_neg Bool.false_ne_true]
    exact ⟨g, rfl, f, k1⟩
theorem m_mustName (hM : MT h len bs t) : (t.1 = 1 → jX9_mustName h = some h) ∧ (¬ t.1 = 1 → ∃ g, jX9_mustName h = some g ∧ Fr sME h g ∧ ErM g 1 t.2.1) := by
  have h4 := hM.2.2.2.2.1.2.2.2
  unfold jX9_mustName
  rw [m_good hM, if_pos rfl, hM.2.2.2.1.1]
  refine ⟨fun q => ?_, fun q => ?_⟩
  · rw [if_pos (show iZ t.1 = 1 by rw [q]; rfl)]
  · obtain ⟨g, e, f, k⟩ := m_wrong hM (c := 1)
    have k1 : ErM g 1 t.2.1 := by rwa [ite_self] at k
    rw [if_neg (show ¬ iZ t.1 = 1 from eq_n (b := 1) (by omega) (by omega) (by omega) (by omega) (by omega)), i1, e]
    exact ⟨g, rfl, f, k1⟩
end
