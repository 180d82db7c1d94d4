/-! a script is read: the reference -/
def CellM (h : HD) (i : Int) (c : Cm) (_ : Int) : Prop := gI h (7, 0, 25) i.toNat = iZ c.1 ∧ (c.1 ≤ 3 → gJ h (7, 0, 29) i.toNat = jZ (eM c.2.1)) ∧ (hasV c.1 = true → gI h (7, 0, 26) i.toNat = iZ c.2.2) ∧ CmOk c
def LapM (h : HD) (i : Int) : Prop := gI h (7, 0, 25) i.toNat = iZ 9
def MZ (h : HD) (z : Zp) : Prop := gI h (7, 0, 0) 45 = iZ (szZ 2 z) ∧ gI h (7, 0, 0) 46 = iZ (szZ 1 z) ∧ gI h (7, 0, 0) 47 = iZ (dpZ z) ∧ szZ 1 z ≤ 30 ∧ AtZ (CellM h) (LapM h) 2 z
theorem CellM.keep {h h2 : HD} {i : Int} {c : Cm} {b b2 : Int} (hc : CellM h i c b) (e1 : gI h2 (7, 0, 25) i.toNat = gI h (7, 0, 25) i.toNat) (e2 : gJ h2 (7, 0, 29) i.toNat = gJ h (7, 0, 29) i.toNat) (e3 : gI h2 (7, 0, 26) i.toNat = gI h (7, 0, 26) i.toNat) : CellM h2 i c b2 := ⟨e1.trans hc.1, fun q => e2.trans (hc.2.1 q), fun q => e3.trans (hc.2.2.1 q), hc.2.2.2⟩
/-- what reading a script may touch -/
def sSm : Rf → Nat → Bool := fun r k => decide (r = (7, 0, 25) ∨ r = (7, 0, 26) ∨ r = (7, 0, 29)) || (decide (r = (7, 0, 0)) && (Nat.beq k 4 || Nat.beq k 5 || Nat.beq k 6 || Nat.beq k 7 || Nat.beq k 8 || Nat.beq k 9 || Nat.beq k 12 || Nat.beq k 45 || Nat.beq k 46 || Nat.beq k 47))
theorem sRd_Sm {h h2 : HD} (hF : Fr sRd h h2) : Fr sSm h h2 := hF.mono fun r j q => by
  unfold sSm at q
  unfold sRd
  have q2 := (Bool.or_eq_false_iff.mp q).2
  revert q2
  cases decide (r = (7, 0, 0)) <;> cases Nat.beq j 4 <;> cases Nat.beq j 5 <;> cases Nat.beq j 6 <;> cases Nat.beq j 7 <;> cases Nat.beq j 12 <;> simp
theorem sME_Sm {h h2 : HD} (hF : Fr sME h h2) : Fr sSm h h2 := hF.mono fun r j q => by
  unfold sSm at q
  unfold sME
  have q2 := (Bool.or_eq_false_iff.mp q).2
  revert q2
  cases decide (r = (7, 0, 0)) <;> cases Nat.beq j 8 <;> cases Nat.beq j 9 <;> simp
theorem sPq_Sm {i : Nat} {h h2 : HD} (hF : Fr (sPq i) h h2) : Fr sSm h h2 := hF.mono fun r j q => by
  unfold sSm at q
  unfold sPq
  rw [Bool.or_eq_false_iff] at q ⊢
  refine ⟨?_, ?_⟩
  · have q2 := q.2
    revert q2
    cases decide (r = (7, 0, 0)) <;> cases Nat.beq j 4 <;> cases Nat.beq j 5 <;> cases Nat.beq j 6 <;> cases Nat.beq j 7 <;> cases Nat.beq j 8 <;> cases Nat.beq j 9 <;> cases Nat.beq j 12 <;> simp
  · rw [decide_eq_false (fun e => of_decide_eq_false q.1 (Or.inr e))]
    rfl
section
variable {h : HD} {len : Int} {bs : Int → Int} {t : Tok} {z : Zp}
theorem MZ.fr {S : Rf → Nat → Bool} {g : HD} (hZ : MZ h z) (hF : Fr S h g) (s25 : ∀ k, S (7, 0, 25) k = false) (s26 : ∀ k, S (7, 0, 26) k = false) (s29 : ∀ k, S (7, 0, 29) k = false) (s45 : S (7, 0, 0) 45 = false) (s46 : S (7, 0, 0) 46 = false) (s47 : S (7, 0, 0) 47 = false) : MZ g z := by
  obtain ⟨z1, z2, z3, z4, z5⟩ := hZ
  exact ⟨(hF.1 _ _ s45).trans z1, (hF.1 _ _ s46).trans z2, (hF.1 _ _ s47).trans z3, z4, AtZ_mono (by decide) (fun j c bh j0 j1 hc => hc.keep (hF.1 _ _ (s25 _)) (hF.2.1 _ _ (s29 _)) (hF.1 _ _ (s26 _))) (Or.inl (by decide)) (fun j j0 j1 hl => (hF.1 _ _ (s25 _)).trans hl) z5⟩
def BODM (h : HD) (c : Int32) : Option HD := lt (sI h (7, 0, 0) 46 ((gI h (7, 0, 0) 46) + (1 : Int32))) fun h1 =>
  (jX9_goOnRead h1).bind fun q2 =>
  if inB (gI q2 (7, 0, 0) 45) 60 = true then lt (sI q2 (7, 0, 25) ((gI q2 (7, 0, 0) 45).toNatClampNeg) c) fun h3 =>
  (jX9_readsRest (gI q2 (7, 0, 0) 45) c h3).bind fun q5 =>
  (if (jX9_isGood q5) = true then lt (sI q5 (7, 0, 0) 45 ((gI q5 (7, 0, 0) 45) + (1 : Int32))) fun h6 =>
  (if c = (8 : Int32) then lt (sI h6 (7, 0, 0) 47 ((gI h6 (7, 0, 0) 47) + (jX9_truth true h6))) fun h8 =>
  some h8 else lt (sI h6 (7, 0, 0) 47 ((gI h6 (7, 0, 0) 47) + (jX9_truth false h6))) fun h7 =>
  some h7) else some q5) else none
/-- the word of a command: what is wrong with it, or nothing -/
theorem m_word1 (hM : MT h len bs t) (hZ : MZ h z) : (cmdOf t = none → ∃ g, jX9_command h = some g ∧ Fr sME h g ∧ ErM g 1 t.2.1) ∧ ∀ op, cmdOf t = some op → (op = 8 ∧ dpZ z = 2 → ∃ g, jX9_command h = some g ∧ Fr sME h g ∧ ErM g 3 t.2.1) ∧ (¬ (op = 8 ∧ dpZ z = 2) → 30 ≤ szZ 1 z → ∃ g, jX9_command h = some g ∧ Fr sME h g ∧ ErM g 5 t.2.1) ∧ (¬ (op = 8 ∧ dpZ z = 2) → ¬ 30 ≤ szZ 1 z → jX9_command h = BODM h (iZ op)) := by
  have hc := m_cmdHere hM
  have h46 : gI h (7, 0, 0) 46 = iZ (szZ 1 z) := hZ.2.1
  have h47 : gI h (7, 0, 0) 47 = iZ (dpZ z) := hZ.2.2.1
  have z30 := hZ.2.2.2.1
  obtain ⟨nn, d0, d2, -⟩ := szZ_nn (e := 1) (z := z) (by decide)
  refine ⟨fun q => ?_, fun op q => ?_⟩
  · rw [q] at hc
    replace hc : jX9_commandHere h = iZ (-1) := hc
    obtain ⟨g, e, f, k⟩ := m_wrong hM (c := 1)
    have k1 : ErM g 1 t.2.1 := by rwa [ite_self] at k
    have kg : jX9_isGood g = false := k1.g (by omega)
    refine ⟨g, ?_, f, k1⟩
    unfold jX9_command
    rw [hc, if_pos (show iZ (-1) = -1 from rfl), i1, e, Option.bind_some, if_neg (show ¬ iZ (-1) = 8 by decide)]
    by_cases q46 : gI g (7, 0, 0) 46 = 30
    · rw [if_pos q46, b_wrong k1 (by omega), Option.bind_some, kg, if_neg Bool.false_ne_true]
    · rw [if_neg q46, kg, if_neg Bool.false_ne_true]
  · obtain ⟨o8, t1⟩ := cmdOf_in q
    rw [q] at hc
    replace hc : jX9_commandHere h = iZ op := hc
    have n1 : ¬ iZ (op : Int) = -1 := eq_n (b := -1) (by omega) (by omega) (by omega) (by omega) (by omega)
    refine ⟨fun q2 => ?_, fun q2 q3 => ?_, fun q2 q3 => ?_⟩
    · obtain ⟨g, e, f, k⟩ := m_wrong hM (c := 3)
      rw [if_neg (show ¬ t.1 = 4 by omega)] at k
      have kg : jX9_isGood g = false := k.g (by omega)
      refine ⟨g, ?_, f, k⟩
      unfold jX9_command
      rw [hc, if_neg n1, if_pos (show iZ (op : Int) = 8 by rw [q2.1]; rfl), h47, if_pos (show iZ (dpZ z) = 2 by rw [q2.2]; rfl), i3, e, Option.bind_some]
      by_cases q46 : gI g (7, 0, 0) 46 = 30
      · rw [if_pos q46, b_wrong k (by omega), Option.bind_some, kg, if_neg Bool.false_ne_true]
      · rw [if_neg q46, kg, if_neg Bool.false_ne_true]
    · obtain ⟨g, e, f, k⟩ := m_wrong hM (c := 5)
      rw [if_neg (show ¬ t.1 = 4 by omega)] at k
      have kg : jX9_isGood g = false := k.g (by omega)
      refine ⟨g, ?_, f, k⟩
      unfold jX9_command
      rw [hc, if_neg n1]
      by_cases q8 : op = 8
      · rw [if_pos (show iZ (op : Int) = 8 by rw [q8]; rfl), h47, if_neg (show ¬ iZ (dpZ z) = 2 from eq_n (b := 2) (by omega) (by omega) (by omega) (by omega) (by omega)), h46, if_pos (show iZ (szZ 1 z) = 30 by rw [show szZ 1 z = 30 by omega]; rfl), i5, e, Option.bind_some, kg, if_neg Bool.false_ne_true]
      · rw [if_neg (show ¬ iZ (op : Int) = 8 from eq_n (b := 8) (by omega) (by omega) (by omega) (by omega) (by omega)), h46, if_pos (show iZ (szZ 1 z) = 30 by rw [show szZ 1 z = 30 by omega]; rfl), i5, e, Option.bind_some, kg, if_neg Bool.false_ne_true]
    · have n46 : ¬ gI h (7, 0, 0) 46 = 30 := by rw [h46]; exact eq_n (b := 30) (by omega) (by omega) (by omega) (by omega) (by omega)
      have n47 : op = 8 → ¬ gI h (7, 0, 0) 47 = 2 := fun c => by rw [h47]; exact eq_n (b := 2) (by omega) (by omega) (by omega) (by omega) (by omega)
      unfold jX9_command BODM
      rw [hc, if_neg n1]
      by_cases q8 : op = 8
      · rw [if_pos (show iZ (op : Int) = 8 by rw [q8]; rfl), if_neg (n47 q8), if_neg n46, m_good hM, if_pos rfl]
      · rw [if_neg (show ¬ iZ (op : Int) = 8 from eq_n (b := 8) (by omega) (by omega) (by omega) (by omega) (by omega)), if_neg n46, m_good hM, if_pos rfl]
/-- a command, and the mark behind it -/
theorem m_cms (hM : MT h len bs t) (hT : TG len t) (hZ : MZ h z) : match cmP len bs z t with
    | .inl (c, p) => ∃ g, jX9_command h = some g ∧ Fr sSm h g ∧ ErM g c p ∧ (c = 1 ∨ c = 2 ∨ c = 3 ∨ c = 5) ∨ ∃ q5, jX9_command h = some q5 ∧ gI q5 (7, 0, 0) 47 = gI h (7, 0, 0) 47 ∧ jX9_mustSign (59 : Int32) q5 = some g ∧ Fr sSm h g ∧ ErM g c p ∧ (c = 1 ∨ c = 2 ∨ c = 3 ∨ c = 5)
    | .inr (z2, t2) => ∃ q5 g, jX9_command h = some q5 ∧ ((gI q5 (7, 0, 0) 47 = gI h (7, 0, 0) 47 ∧ jX9_mustSign (59 : Int32) q5 = some g) ∨ (gI q5 (7, 0, 0) 47 ≠ gI h (7, 0, 0) 47 ∧ q5 = g)) ∧ Fr sSm h g ∧ MT g len bs t2 ∧ MZ g z2 ∧ gI g (7, 0, 0) 9 = gI h (7, 0, 0) 9 := by
  obtain ⟨w0, w1⟩ := m_word1 hM hZ
  unfold cmP
  cases hc : cmdOf t with
  | none =>
    obtain ⟨g, e, f, k⟩ := w0 hc
    exact ⟨g, Or.inl ⟨e, sME_Sm f, k, by omega⟩⟩
  | some op =>
    obtain ⟨o8, t1⟩ := cmdOf_in hc
    obtain ⟨w3, w5, wg⟩ := w1 op hc
    obtain ⟨nn, d0, d2, -⟩ := szZ_nn (e := 1) (z := z) (by decide)
    have n2 := (szZ_nn (e := 2) (z := z) (by decide)).1
    have two := szZ_two (z := z)
    obtain ⟨z1, z2, z3, z4, z5⟩ := id hZ
    show match (if op = 8 ∧ dpZ z = 2 then .inl (3, t.2.1) else if 30 ≤ szZ 1 z then .inl (5, t.2.1) else match arP len bs op t with | .inl e => .inl e | .inr (c, t1) => match mkP (nx len bs t1) (if op = 8 then 40 else 59) with | .inl e => .inl e | .inr _ => .inr (if op = 8 then opnZ c.2.2 z else addZ c z, nx len bs (nx len bs t1)) : Rd (Zp × Tok)) with | .inl (c, p) => _ | .inr (z2, t2) => _
    by_cases q3 : op = 8 ∧ dpZ z = 2
    · rw [if_pos q3]
      obtain ⟨g, e, f, k⟩ := w3 q3
      exact ⟨g, Or.inl ⟨e, sME_Sm f, k, by omega⟩⟩
    rw [if_neg q3]
    by_cases q5 : 30 ≤ szZ 1 z
    · rw [if_pos q5]
      obtain ⟨g, e, f, k⟩ := w5 q3 q5
      exact ⟨g, Or.inl ⟨e, sME_Sm f, k, by omega⟩⟩
    rw [if_neg q5]
    have eb := wg q3 q5
    obtain ⟨k, hk⟩ : ∃ k : Nat, szZ 2 z = k := ⟨(szZ 2 z).toNat, by omega⟩
    have k60 : k < 60 := by omega
    have ek : (iZ k).toNatClampNeg = k := by rw [iZ_nat (by omega) (by omega), Int.toNat_natCast]
    -- behind the word
    obtain ⟨h1, e1⟩ : ∃ h1, h1 = sI h (7, 0, 0) 46 (iZ (szZ 1 z + 1)) := ⟨_, rfl⟩
    have F1 : Fr (fun r j => decide (r = (7, 0, 0)) && Nat.beq j 46) h h1 := by rw [e1]; exact Fr.rf.sI rfl _
    have M1 : MT h1 len bs t := hM.fr F1 (fun _ => rfl) rfl rfl rfl rfl rfl rfl rfl
    obtain ⟨g2, e2, f2, M2⟩ := m_goOn M1
    have c45 : gI g2 (7, 0, 0) 45 = iZ k := by rw [f2.1 _ _ rfl, F1.1 _ _ rfl, z1, hk]
    obtain ⟨h3, e3⟩ : ∃ h3, h3 = sI g2 (7, 0, 25) k (iZ op) := ⟨_, rfl⟩
    have F3 : Fr (fun r j => decide (r = (7, 0, 25)) && Nat.beq j k) g2 h3 := by rw [e3]; exact Fr.rf.sI (by simp) _
    have M3 : MT h3 len bs (nx len bs t) := M2.fr F3 (fun _ => rfl) rfl rfl rfl rfl rfl rfl rfl
    have S1 : Fr sSm h h3 := by
      refine (Fr.tr ?_ (sRd_Sm f2)).tr ?_
      · rw [e1]; exact Fr.rf.sI rfl _
      · rw [e3]; exact Fr.rf.sI rfl _
    have eb2 : jX9_command h = (jX9_readsRest (iZ k) (iZ op) h3).bind fun q5 => (if (jX9_isGood q5) = true then lt (sI q5 (7, 0, 0) 45 ((gI q5 (7, 0, 0) 45) + (1 : Int32))) fun h6 => (if iZ (op : Int) = (8 : Int32) then lt (sI h6 (7, 0, 0) 47 ((gI h6 (7, 0, 0) 47) + (jX9_truth true h6))) fun h8 => some h8 else lt (sI h6 (7, 0, 0) 47 ((gI h6 (7, 0, 0) 47) + (jX9_truth false h6))) fun h7 => some h7) else some q5) := by
      rw [eb]
      unfold BODM
      rw [z2, i1, iZ_add, ← e1, lt_eq, e2, Option.bind_some, c45, inB_t (by omega) (by omega) (by omega), if_pos rfl, ek, ← e3, lt_eq]
    have a9 : gI h3 (7, 0, 0) 9 = gI h (7, 0, 0) 9 := by rw [F3.1 _ _ rfl, f2.1 _ _ rfl, F1.1 _ _ rfl]
    have mr := m_rest (op := op) (k := k) o8 k60 M3
    -- what stands in the rows when name and number are read
    have rows : ∀ (g : HD) (c : Cm), Fr (sPq k) h3 g → CmOk c → c.1 = op → (op ≤ 3 → gJ g (7, 0, 29) k = jZ (eM c.2.1)) → (hasV op = true → gI g (7, 0, 26) k = iZ c.2.2) → CellM g k c 0 ∧ (∀ j d bh, 0 ≤ j → j < szZ 2 z → CellM h j d bh → CellM g j d bh) ∧ (∀ j, 0 ≤ j → j < szZ 2 z → LapM h j → LapM g j) ∧ gI g (7, 0, 0) 45 = iZ k ∧ gI g (7, 0, 0) 46 = iZ (szZ 1 z + 1) ∧ gI g (7, 0, 0) 47 = iZ (dpZ z) := by
      intro g c f okc oc n29 n26
      have ne : ∀ j : Int, 0 ≤ j → j < szZ 2 z → Nat.beq j.toNat k = false := fun j j0 j1 => by
        cases e : Nat.beq j.toNat k with
        | true => have := Nat.eq_of_beq_eq_true e; omega
        | false => rfl
      have c25 : ∀ j : Int, 0 ≤ j → j < szZ 2 z → gI g (7, 0, 25) j.toNat = gI h (7, 0, 25) j.toNat := fun j j0 j1 => by
        rw [f.1 _ _ rfl, F3.1 (7, 0, 25) j.toNat (by show (decide _ && Nat.beq j.toNat k) = false; rw [ne j j0 j1, Bool.and_false]), f2.1 _ _ rfl, F1.1 _ _ rfl]
      have p2 : ∀ (r : Rf) (j : Int), r = (7, 0, 26) ∨ r = (7, 0, 29) → 0 ≤ j → j < szZ 2 z → sPq k r j.toNat = false := fun r j hr j0 j1 => by
        unfold sPq
        rw [ne j j0 j1, Bool.and_false, Bool.or_false]
        rcases hr with e | e <;> · rw [e]; rfl
      refine ⟨⟨?_, fun q => ?_, fun q => ?_, okc⟩, fun j d bh j0 j1 hd => hd.keep (c25 j j0 j1) ?_ ?_, fun j j0 j1 hl => (c25 j j0 j1).trans hl, ?_, ?_, ?_⟩
      · rw [Int.toNat_natCast, f.1 _ _ rfl, e3, gI_self, oc]
      · rw [Int.toNat_natCast]; exact n29 (by omega)
      · rw [Int.toNat_natCast]; exact n26 (by rw [← oc]; exact q)
      · rw [f.2.1 _ _ (p2 _ j (Or.inr rfl) j0 j1), F3.2.1 _ _ rfl, f2.2.1 _ _ rfl, F1.2.1 _ _ rfl]
      · rw [f.1 _ _ (p2 _ j (Or.inl rfl) j0 j1), F3.1 _ _ rfl, f2.1 _ _ rfl, F1.1 _ _ rfl]
      · rw [f.1 _ _ rfl, F3.1 _ _ rfl, c45]
      · rw [f.1 _ _ rfl, F3.1 _ _ rfl, f2.1 _ _ rfl, e1, gI_self]
      · rw [f.1 _ _ rfl, F3.1 _ _ rfl, f2.1 _ _ rfl, F1.1 _ _ rfl, z3]
    have bad : ∀ {g : HD} {c p : Int}, jX9_readsRest (iZ k) (iZ op) h3 = some g → ErM g c p → (c = 1 ∨ c = 2) → jX9_command h = some g := fun {g c p} e r hc => by
      rw [eb2, e, Option.bind_some, show jX9_isGood g = false from r.g (by omega), if_neg Bool.false_ne_true]
    unfold arQ at mr
    cases ha : arP len bs op t with
    | inl er =>
      rw [ha] at mr
      obtain ⟨c, p⟩ := er
      obtain ⟨g, e, f, r, hc⟩ := mr
      exact ⟨g, Or.inl ⟨bad e r hc, S1.tr (sPq_Sm f), r, by omega⟩⟩
    | inr ct =>
      rw [ha] at mr
      obtain ⟨c, t2⟩ := ct
      replace mr : match (if op = 8 then (match mkP (nx len bs t2) 40 with | .inl e => .inl e | .inr _ => .inr (c, nx len bs t2)) else .inr (c, t2) : Rd (Cm × Tok)) with
        | .inl (c, p) => ∃ g, jX9_readsRest (iZ k) (iZ op) h3 = some g ∧ Fr (sPq k) h3 g ∧ ErM g c p ∧ (c = 1 ∨ c = 2)
        | .inr (c, t2) => ∃ g, jX9_readsRest (iZ k) (iZ op) h3 = some g ∧ Fr (sPq k) h3 g ∧ MT g len bs (nx len bs t2) ∧ (op ≤ 3 → gJ g (7, 0, 29) k = jZ (eM c.2.1)) ∧ (hasV op = true → gI g (7, 0, 26) k = iZ c.2.2) ∧ gI g (7, 0, 0) 9 = gI h3 (7, 0, 0) 9 := mr
      obtain ⟨okc, oc1, oc8, -, -⟩ : CmOk c ∧ c.1 = op ∧ (op = 8 → c.2.1 = [] ∧ 1 ≤ c.2.2 ∧ c.2.2 ≤ 20) ∧ True ∧ True := by
        have := arP_ok (len := len) (bs := bs) (t := t) o8 hT ha
        exact ⟨this.1, this.2.1, this.2.2.1, trivial, trivial⟩
      show match (match mkP (nx len bs t2) (if op = 8 then 40 else 59) with | .inl e => .inl e | .inr _ => .inr (if op = 8 then opnZ c.2.2 z else addZ c z, nx len bs (nx len bs t2)) : Rd (Zp × Tok)) with | .inl (c, p) => _ | .inr (z2, t2) => _
      by_cases q8 : op = 8
      · rw [if_pos q8] at mr
        rw [if_pos q8, if_pos q8]
        cases hm : mkP (nx len bs t2) 40 with
        | inl er =>
          rw [hm] at mr
          obtain ⟨c, p⟩ := er
          obtain ⟨g, e, f, r, hc⟩ := mr
          exact ⟨g, Or.inl ⟨bad e r hc, S1.tr (sPq_Sm f), r, by omega⟩⟩
        | inr u =>
          rw [hm] at mr
          obtain ⟨g, e, f, k2, n29, n26, b9⟩ := mr
          obtain ⟨y1, y2, y3, y4, y5, y6⟩ := rows g c f okc oc1 n29 n26
          obtain ⟨s1', s2', -⟩ := opnZ_sz (e := 2) (z := z) c.2.2 (by omega)
          have s3' := (opnZ_sz (e := 1) (z := z) c.2.2 (by omega)).1
          have hc8 : c = (8, [], c.2.2) := by
            obtain ⟨c1, c2, c3⟩ := c
            have x1 : c1 = 8 := oc1.trans q8
            have x2 : c2 = [] := (oc8 q8).1
            rw [x1, x2]
          have F5 : Fr (fun r j => decide (r = (7, 0, 0)) && (Nat.beq j 45 || Nat.beq j 47)) g (sI (sI g (7, 0, 0) 45 (iZ ((k : Int) + 1))) (7, 0, 0) 47 (iZ (dpZ z + 1))) := (Fr.rf.sI rfl _).sI rfl _
          have kp : ∀ {j d bh}, CellM g j d bh → CellM (sI (sI g (7, 0, 0) 45 (iZ ((k : Int) + 1))) (7, 0, 0) 47 (iZ (dpZ z + 1))) j d bh := fun hc => hc.keep (F5.1 _ _ rfl) (F5.2.1 _ _ rfl) (F5.1 _ _ rfl)
          refine ⟨sI (sI g (7, 0, 0) 45 (iZ ((k : Int) + 1))) (7, 0, 0) 47 (iZ (dpZ z + 1)), sI (sI g (7, 0, 0) 45 (iZ ((k : Int) + 1))) (7, 0, 0) 47 (iZ (dpZ z + 1)), ?_, Or.inr ⟨?_, rfl⟩, (S1.tr (sPq_Sm f)).tr ((Fr.rf.sI rfl _).sI rfl _), k2.fr F5 (fun _ => rfl) rfl rfl rfl rfl rfl rfl rfl, ⟨?_, ?_, ?_, by omega, ?_⟩, ?_⟩
          · rw [eb2, e, Option.bind_some, m_good k2, if_pos rfl, y4, i1, iZ_add, lt_eq, if_pos (show iZ (op : Int) = 8 by rw [q8]; rfl), gI_nk _ _ _ (by decide), y6, x9_truth, iZ_add, lt_eq]
            rfl
          · rw [gI_self, z3]
            exact eq_n (by omega) (by omega) (by omega) (by omega) (by omega)
          · rw [gI_nk _ _ _ (by decide), gI_self, s1', hk]
          · rw [F5.1 _ _ rfl, y5, s3']
          · rw [gI_self, s2']
          · refine AtZ_opn (by omega) (AtZ_mono (by decide) (fun j d bh j0 j1 hc => kp (y2 j d bh j0 j1 hc)) (Or.inl (by decide)) (fun j j0 j1 hl => (F5.1 _ _ rfl).trans (y3 j j0 j1 hl)) z5) ⟨⟨0, ?_⟩, (oc8 q8).2⟩
            rw [hc8] at y1
            rw [hk]
            exact kp y1
          · rw [F5.1 _ _ rfl, b9, a9]
      · rw [if_neg q8] at mr
        rw [if_neg q8, if_neg q8]
        obtain ⟨g, e, f, k2, n29, n26, b9⟩ := mr
        obtain ⟨y1, y2, y3, y4, y5, y6⟩ := rows g c f okc oc1 n29 n26
        obtain ⟨s1', s2', -⟩ := addZ_sz (e := 2) (z := z) c
        have s3' := (addZ_sz (e := 1) (z := z) c).1
        have F5 : Fr (fun r j => decide (r = (7, 0, 0)) && (Nat.beq j 45 || Nat.beq j 47)) g (sI (sI g (7, 0, 0) 45 (iZ ((k : Int) + 1))) (7, 0, 0) 47 (iZ (dpZ z))) := (Fr.rf.sI rfl _).sI rfl _
        have kp : ∀ {j d bh b2}, CellM g j d bh → CellM (sI (sI g (7, 0, 0) 45 (iZ ((k : Int) + 1))) (7, 0, 0) 47 (iZ (dpZ z))) j d b2 := fun hc => hc.keep (F5.1 _ _ rfl) (F5.2.1 _ _ rfl) (F5.1 _ _ rfl)
        obtain ⟨g5, eg5⟩ : ∃ g5, g5 = sI (sI g (7, 0, 0) 45 (iZ ((k : Int) + 1))) (7, 0, 0) 47 (iZ (dpZ z)) := ⟨_, rfl⟩
        rw [← eg5] at F5
        have M5 : MT g5 len bs (nx len bs t2) := k2.fr F5 (fun _ => rfl) rfl rfl rfl rfl rfl rfl rfl
        have ec : jX9_command h = some g5 := by
          rw [eb2, e, Option.bind_some, m_good k2, if_pos rfl, y4, i1, iZ_add, lt_eq, if_neg (show ¬ iZ (op : Int) = 8 from eq_n (b := 8) (by omega) (by omega) (by omega) (by omega) (by omega)), gI_nk _ _ _ (by decide), y6, x9_truth, iZ_add, lt_eq, eg5]
          show some (sI (sI g (7, 0, 0) 45 (iZ ((k : Int) + 1))) (7, 0, 0) 47 (iZ (dpZ z + 0))) = _
          rw [Int.add_zero]
        have e47 : gI g5 (7, 0, 0) 47 = gI h (7, 0, 0) 47 := by rw [eg5, gI_self, z3]
        have S5 : Fr sSm h g5 := (S1.tr (sPq_Sm f)).tr (by rw [eg5]; exact (Fr.rf.sI rfl _).sI rfl _)
        have Z5 : MZ g5 (addZ c z) := ⟨by rw [eg5, gI_nk _ _ _ (by decide), gI_self, s1', hk], by rw [F5.1 _ _ rfl, y5, s3'], by rw [eg5, gI_self, s2'], by omega, by
          have y1' : CellM g5 k c (szZ 2 z + 1) := by rw [eg5]; exact kp y1
          refine AtZ_add (AtZ_mono (by decide) (fun j d bh j0 j1 hc => ?_) (Or.inl (by decide)) (fun j j0 j1 hl => (F5.1 _ _ rfl).trans (y3 j j0 j1 hl)) z5) (by rw [hk] at y1' ⊢; exact y1') (by omega)
          rw [eg5]
          exact kp (y2 j d bh j0 j1 hc)⟩
        have ms := m_mustSign M5 (c := 59) (by decide) (by decide)
        unfold mkP
        by_cases q4 : isMk (nx len bs t2) 59
        · rw [if_pos q4]
          obtain ⟨g6, e6, f6, k6⟩ := ms.1 q4
          refine ⟨g5, g6, ec, Or.inl ⟨e47, e6⟩, S5.tr (sRd_Sm f6), k6, Z5.fr f6 (fun _ => rfl) (fun _ => rfl) (fun _ => rfl) rfl rfl rfl, ?_⟩
          rw [f6.1 _ _ rfl, F5.1 _ _ rfl, b9, a9]
        · rw [if_neg q4]
          obtain ⟨g6, e6, f6, k6⟩ := ms.2 q4
          exact ⟨g6, Or.inr ⟨g5, ec, e47, e6, S5.tr (sME_Sm f6), k6, Or.inl rfl⟩⟩
end
