/-! the rest of a car's line -/
theorem m_add {h : HD} {R : Row} {k : List Nat} {v : Int} (hM0 : RwM h (7, 0, 2) (7, 0, 7) 0 0 R) (hn0 : 0 ≤ R.1) : RwM (sI (sI (sJ h (7, 0, 7) R.1.toNat (jZ (eM k))) (7, 0, 2) (2 + R.1).toNat (iZ v)) (7, 0, 2) 0 (iZ (R.1 + 1))) (7, 0, 2) (7, 0, 7) 0 0 (comR R k v) := by
  obtain ⟨m1, m2, m3, m4⟩ := hM0
  refine ⟨gI_self _ _ _ _, ?_, fun z z1 z2 => ?_, fun z z1 z2 => ?_⟩
  · rw [gI_nk _ _ _ (by decide), gI_nk _ _ _ (by omega)]; exact m2
  · replace z2 : z < R.1 + 1 := z2
    show _ = iZ (updP R.2.2.1 R.1 v z)
    unfold updP
    rw [gI_nk _ _ _ (by omega), gI_sI]
    by_cases e : z = R.1
    · rw [if_pos ⟨rfl, by rw [e]; omega⟩, if_pos e]
    · rw [if_neg (fun q => e (by omega)), if_neg e]
      exact m3 z z1 (by omega)
  · replace z2 : z < R.1 + 1 := z2
    show _ = jZ (eM (if z = R.1 then k else R.2.2.2 z))
    rw [gJ_sI, gJ_sI, gJ_sJ]
    by_cases e : z = R.1
    · rw [if_pos ⟨rfl, by rw [e]; omega⟩, if_pos e]
    · rw [if_neg (fun q => e (by omega)), if_neg e]
      exact m4 z z1 (by omega)
def sRM : Rf → Nat → Bool := fun r k => decide (r = (7, 0, 2) ∨ r = (7, 0, 7)) || (decide (r = (7, 0, 0)) && (Nat.beq k 4 || Nat.beq k 5 || Nat.beq k 6 || Nat.beq k 7 || Nat.beq k 8 || Nat.beq k 9 || Nat.beq k 12))
theorem sRd_RM {h h2 : HD} (hF : Fr sRd h h2) : Fr sRM h h2 := hF.mono fun r k q => by
  unfold sRM at q
  unfold sRd
  rw [Bool.or_eq_false_iff] at q
  have q2 := q.2
  revert q2
  cases decide (r = (7, 0, 0)) <;> cases Nat.beq k 4 <;> cases Nat.beq k 5 <;> cases Nat.beq k 6 <;> cases Nat.beq k 7 <;> cases Nat.beq k 12 <;> simp
theorem sME_RM {h h2 : HD} (hF : Fr sME h h2) : Fr sRM h h2 := hF.mono fun r k q => by
  unfold sRM at q
  unfold sME
  rw [Bool.or_eq_false_iff] at q
  have q2 := q.2
  revert q2
  cases decide (r = (7, 0, 0)) <;> cases Nat.beq k 8 <;> cases Nat.beq k 9 <;> simp
section
variable {h : HD} {len : Int} {bs : Int → Int} {t : Tok}
theorem m_ND {R : Row} {n : Int} (hM : MT h len bs t) (hR : RwM h (7, 0, 2) (7, 0, 7) 0 0 R) (hW : RwW R) (hRn : R.1 < n) (hn : n ≤ 11) (ht : t.1 = 1) : match numP (nx len bs t) 0 n with
    | .inl (c, p) => ∃ g, ND (iZ n) h = some g ∧ Fr sRM h g ∧ ErM g c p ∧ (c = 1 ∨ c = 2)
    | .inr v => ∃ g, ND (iZ n) h = some g ∧ Fr sRM h g ∧ MT g len bs (nx len bs (nx len bs t)) ∧ RwM g (7, 0, 2) (7, 0, 7) 0 0 (comR R t.2.2.2.1 v) ∧ gI g (7, 0, 0) 9 = gI h (7, 0, 0) 9 := by
  have h0 := hW.1
  have e1 := (m_mustName hM).1 ht
  obtain ⟨g1, e2, f2, k2⟩ := m_goOn hM
  have e3 : jX9_nameHere h = some (jZ (eM t.2.2.2.1), g1) := by
    unfold jX9_nameHere
    rw [e1, Option.bind_some, m_good hM, if_pos rfl, e2, Option.bind_some, hM.2.2.2.1.2.2.2.1 ht]
  have num := m_number k2 (a := 0) (b := n) (by omega) (by omega) (by omega) (by omega)
  have R1 := hR.fr f2 (fun _ => rfl) (fun _ => rfl)
  unfold ND
  rw [e3, Option.bind_some, i0]
  cases hn2 : numP (nx len bs t) 0 n with
  | inl er =>
    rw [hn2] at num
    obtain ⟨c, p⟩ := er
    obtain ⟨w, g, e, f, k, hc⟩ := num
    refine ⟨g, ?_, (sRd_RM f2).tr (sME_RM f), k, hc⟩
    show (jX9_number (iZ 0) (iZ n) g1).bind _ = _
    rw [e, Option.bind_some]
    show (if jX9_isGood g = true then _ else _) = _
    rw [m_bad k (by omega) (by omega), if_neg Bool.false_ne_true]
  | inr v =>
    rw [hn2] at num
    obtain ⟨g, e, f, k⟩ := num
    have R2 := R1.fr f (fun _ => rfl) (fun _ => rfl)
    have c0 : gI g (7, 0, 2) 0 = iZ R.1 := R2.pr.1
    refine ⟨sI (sI (sJ g (7, 0, 7) R.1.toNat (jZ (eM t.2.2.2.1))) (7, 0, 2) (2 + R.1).toNat (iZ v)) (7, 0, 2) 0 (iZ (R.1 + 1)), ?_, ((sRd_RM f2).tr (sRd_RM f)).tr (((Fr.rf.sJ rfl _).sI rfl _).sI rfl _), ?_, m_add R2 h0.1, ?_⟩
    · show (jX9_number (iZ 0) (iZ n) g1).bind _ = _
      rw [e, Option.bind_some]
      show (if jX9_isGood g = true then _ else _) = _
      rw [m_good k, if_pos rfl, c0, inB_t (by omega) (by omega) (by omega), if_pos rfl, iZ_nat (by omega) (by omega), lt_eq, gI_sJ, c0, i2, iZ_add, inB_t (by omega) (by omega) (by omega), if_pos rfl, iZ_nat (by omega) (by omega), lt_eq, gI_nk _ _ _ (by omega), gI_sJ, c0, i1, iZ_add, lt_eq]
    · obtain ⟨b1, b2, b3, b4, b5, b6, b7, b8⟩ := k
      have F : Fr (fun (r : Rf) (_ : Nat) => decide (r = (7, 0, 2) ∨ r = (7, 0, 7))) g (sI (sI (sJ g (7, 0, 7) R.1.toNat (jZ (eM t.2.2.2.1))) (7, 0, 2) (2 + R.1).toNat (iZ v)) (7, 0, 2) 0 (iZ (R.1 + 1))) := ((Fr.rf.sJ rfl _).sI rfl _).sI rfl _
      exact ⟨b1.fr F rfl (fun _ => rfl), b2, b3, ⟨(F.1 _ _ rfl).trans b4.1, (F.1 _ _ rfl).trans b4.2.1, (F.1 _ _ rfl).trans b4.2.2.1, fun c => (F.2.1 _ _ rfl).trans (b4.2.2.2.1 c), fun c => (F.1 _ _ rfl).trans (b4.2.2.2.2 c)⟩, b5, b6, b7, (F.1 _ _ rfl).trans b8⟩
    · have F : Fr (fun (r : Rf) (_ : Nat) => decide (r = (7, 0, 2) ∨ r = (7, 0, 7))) g (sI (sI (sJ g (7, 0, 7) R.1.toNat (jZ (eM t.2.2.2.1))) (7, 0, 2) (2 + R.1).toNat (iZ v)) (7, 0, 2) 0 (iZ (R.1 + 1))) := ((Fr.rf.sJ rfl _).sI rfl _).sI rfl _
      rw [F.1 _ _ rfl, f.1 _ _ rfl, f2.1 _ _ rfl]
end
section
variable {h : HD} {len : Int} {bs : Int → Int} {t : Tok}
/-- a car behind its first word -/
theorem m_RC {R : Row} {n : Int} (hM : MT h len bs t) (hR : RwM h (7, 0, 2) (7, 0, 7) 0 0 R) (hW : RwW R) (hRn : R.1 < n) (hn : n ≤ 11) : (¬ t.1 = 1 → ∃ g, RC (iZ n) h = some g ∧ Fr sRM h g ∧ ErM g 1 t.2.1) ∧ (t.1 = 1 → ¬ cnN R t.2.2.2.1 = -1 → ∃ g, RC (iZ n) h = some g ∧ Fr sRM h g ∧ ErM g 3 t.2.1) ∧ (t.1 = 1 → cnN R t.2.2.2.1 = -1 → RC (iZ n) h = ND (iZ n) h) := by
  have mn := m_mustName hM
  have hk := hM.2.2.2.2.1
  have key : t.1 = 1 → RC (iZ n) h = (if iZ (cnN R t.2.2.2.1) = (-1 : Int32) then ND (iZ n) h else (jX9_wrong (3 : Int32) h).bind fun q17 => ND (iZ n) q17) := fun q => by
    unfold RC
    rw [mn.1 q, Option.bind_some, m_good hM, if_pos rfl, hM.2.2.2.1.2.2.2.1 q, x9_carNamedW hR hW (Or.inr (hk.1 q)), Option.bind_some]
  refine ⟨fun q => ?_, fun q r => ?_, fun q r => ?_⟩
  · obtain ⟨g, e, f, k⟩ := mn.2 q
    have kg : ErG g := k.g (by omega)
    refine ⟨g, ?_, sME_RM f, k⟩
    unfold RC
    rw [e, Option.bind_some, show jX9_isGood g = false from kg, if_neg Bool.false_ne_true, b_ND kg]
  · have hcn := cnN_in (R := R) (k := t.2.2.2.1) hW.1.1
    have h0 := hW.1
    obtain ⟨g, e, f, k⟩ := m_wrong hM (c := 3)
    rw [if_neg (show ¬ t.1 = 4 by omega)] at k
    have kg : ErG g := k.g (by omega)
    refine ⟨g, ?_, sME_RM f, k⟩
    rw [key q, if_neg (show ¬ iZ (cnN R t.2.2.2.1) = -1 from eq_n (b := -1) (by omega) (by omega) (by omega) (by omega) (by omega)), i3, e, Option.bind_some, b_ND kg]
  · rw [key q, if_pos (show iZ (cnN R t.2.2.2.1) = -1 by rw [r]; rfl)]
end
