/-! a command of a script: the class -/
/-- ints, longs outside S and the kept row are as they were; the commands may have changed -/
def Fo (S : Rf → Nat → Bool) (h h2 : HD) : Prop := (∀ r k, S r k = false → gI h2 r k = gI h r k) ∧ (∀ r k, S r k = false → gJ h2 r k = gJ h r k) ∧ h2.2.2.1 = h.2.2.1
theorem Fo.of {S : Rf → Nat → Bool} {h h2 : HD} (a : Fr S h h2) : Fo S h h2 := ⟨a.1, a.2.1, congrArg Prod.fst a.2.2⟩
theorem Fo.tr {S : Rf → Nat → Bool} {h h2 h3 : HD} (a : Fo S h h2) (b : Fo S h2 h3) : Fo S h h3 := ⟨fun r k q => (b.1 r k q).trans (a.1 r k q), fun r k q => (b.2.1 r k q).trans (a.2.1 r k q), b.2.2.trans a.2.2⟩
theorem Fo.mono {S T : Rf → Nat → Bool} {h h2 : HD} (a : Fo S h h2) (hs : ∀ r k, T r k = false → S r k = false) : Fo T h h2 := ⟨fun r k q => a.1 r k (hs r k q), fun r k q => a.2.1 r k (hs r k q), a.2.2⟩
def sSc : Rf → Nat → Bool := fun r _ => Nat.beq r.1 4 || Nat.beq r.1 3
theorem sTE_Sc {h h2 : HD} (hF : Fr sTE h h2) : Fr sSc h h2 := hF.mono fun r k q => by
  unfold sSc at q
  exact (Bool.or_eq_false_iff.mp q).1
/-- reading the parts of command i may touch -/
def sPt (i : Nat) : Rf → Nat → Bool := fun r k => Nat.beq r.1 4 || (decide (r = (3, 0, 2) ∨ r = (3, 0, 3)) && Nat.beq k i)
theorem sTE_Pt {i : Nat} {h h2 : HD} (hF : Fr sTE h h2) : Fr (sPt i) h h2 := hF.mono fun r k q => by
  unfold sPt at q
  exact (Bool.or_eq_false_iff.mp q).1
theorem sPt_Sc {i : Nat} {h h2 : HD} (hF : Fr (sPt i) h h2) : Fr sSc h h2 := hF.mono fun r k q => by
  unfold sSc at q
  rw [Bool.or_eq_false_iff] at q
  unfold sPt
  rw [Bool.or_eq_false_iff]
  refine ⟨q.1, ?_⟩
  have : decide (r = (3, 0, 2) ∨ r = (3, 0, 3)) = false := decide_eq_false fun e => by
    have q2 := q.2
    rcases e with e | e <;> · rw [e] at q2; cases q2
  rw [this]
  rfl
def VP (c2 : Nat) (p3 : Int32) (h8 : HD) : Option (Bool × HD) := (if (cmV c2) = 0 then some (true, h8) else (if c2 = 8 then (jX6_readNumber (1 : Int32) (20 : Int32) h8).bind fun q13 =>
  (if q13.1 = true then if inB p3 30 = true then lt (sI q13.2 (3, 0, 3) p3.toNatClampNeg (jX6_number q13.2)) fun h14 =>
  some (true, h14) else none else some (false, q13.2)) else (jX6_readNumber (0 : Int32) (999 : Int32) h8).bind fun q10 =>
  (if q10.1 = true then if inB p3 30 = true then lt (sI q10.2 (3, 0, 3) p3.toNatClampNeg (jX6_number q10.2)) fun h11 =>
  some (true, h11) else none else some (false, q10.2))))
theorem readParts_eq (c2 : Nat) (p3 : Int32) (h : HD) : jX5_readParts c2 p3 h = (if (cmN c2) = 0 then VP c2 p3 h else (jX6_readName h).bind fun q7 => (if q7.1 = true then if inB p3 30 = true then lt (sJ q7.2 (3, 0, 2) p3.toNatClampNeg (jX6_word q7.2)) fun h8 => VP c2 p3 h8 else none else some (false, q7.2))) := rfl
section
variable {h : HD} {len : Int} {bs : Int → Int} {t : Tok}
theorem c_VP {op i : Nat} (ho : op ≤ 8) (hi : i < 30) (hC : CT h len bs t) (hT : TG len t) : match vlP len bs op t with
    | .inl (c, p) => ∃ g, VP (opC op) (iZ i) h = some (false, g) ∧ Fr (sPt i) h g ∧ ErC g c p
    | .inr (v, t2) => ∃ g, VP (opC op) (iZ i) h = some (true, g) ∧ Fr (sPt i) h g ∧ CT g len bs t2 ∧ (∀ j, gJ g (3, 0, 2) j = gJ h (3, 0, 2) j) ∧ (hasV op = true → gI g (3, 0, 3) i = iZ v) ∧ (hasV op = false → ∀ j, gI g (3, 0, 3) j = gI h (3, 0, 3) j) ∧ gI g (4, 0, 0) 7 = gI h (4, 0, 0) 7 ∧ gI g (4, 0, 0) 8 = gI h (4, 0, 0) 8 := by
  obtain ⟨-, -, fv, f8⟩ := opC_facts op (by omega)
  unfold VP vlP
  by_cases q : hasV op = true
  · rw [if_pos q, if_neg (fun c => fv.mp c q)]
    have key : ∀ a b : Int, (0 ≤ a ∧ a ≤ 1000) → (0 ≤ b ∧ b ≤ 1000) → (match (match numP (nx len bs t) a b with | .inl e => .inl e | .inr v => .inr (v, nx len bs t) : Rd (Int × Tok)) with
        | .inl (c, p) => ∃ g, ((jX6_readNumber (iZ a) (iZ b) h).bind fun q13 => (if q13.1 = true then if inB (iZ i) 30 = true then lt (sI q13.2 (3, 0, 3) (iZ i).toNatClampNeg (jX6_number q13.2)) fun h14 => some (true, h14) else none else some (false, q13.2))) = some (false, g) ∧ Fr (sPt i) h g ∧ ErC g c p
        | .inr (v, t2) => ∃ g, ((jX6_readNumber (iZ a) (iZ b) h).bind fun q13 => (if q13.1 = true then if inB (iZ i) 30 = true then lt (sI q13.2 (3, 0, 3) (iZ i).toNatClampNeg (jX6_number q13.2)) fun h14 => some (true, h14) else none else some (false, q13.2))) = some (true, g) ∧ Fr (sPt i) h g ∧ CT g len bs t2 ∧ (∀ j, gJ g (3, 0, 2) j = gJ h (3, 0, 2) j) ∧ (hasV op = true → gI g (3, 0, 3) i = iZ v) ∧ (hasV op = false → ∀ j, gI g (3, 0, 3) j = gI h (3, 0, 3) j) ∧ gI g (4, 0, 0) 7 = gI h (4, 0, 0) 7 ∧ gI g (4, 0, 0) 8 = gI h (4, 0, 0) 8) := by
      intro a b ha hb
      have num := c_number hC (a := a) (b := b) ha.1 ha.2 hb.1 hb.2
      unfold numP
      by_cases q1 : (nx len bs t).1 = 2 ∧ a ≤ (nx len bs t).2.2.2.2 ∧ (nx len bs t).2.2.2.2 ≤ b
      · obtain ⟨g1, e1, f1, k1, v5, a7, a8⟩ := num.1 q1
        rw [if_pos q1]
        refine ⟨sI g1 (3, 0, 3) i (iZ (nx len bs t).2.2.2.2), ?_, (sTE_Pt f1).sI (by unfold sPt; simp) _, k1.fr (S := fun r _ => decide (r = (3, 0, 3))) (Fr.rf.sI rfl _) rfl (fun _ => rfl) (fun _ _ => rfl), fun j => f1.2.1 _ _ rfl, fun _ => gI_self _ _ _ _, fun c => (by rw [q] at c; cases c), ?_, ?_⟩
        · rw [e1, Option.bind_some, if_pos rfl, inB_t (by omega) (by omega) (by omega), if_pos rfl, lt_eq, iZ_nat (by omega) (by omega), Int.toNat_natCast]
          unfold jX6_number
          rw [v5]
        · rw [gI_ne _ (by decide)]; exact a7
        · rw [gI_ne _ (by decide)]; exact a8
      · obtain ⟨g1, e1, f1, k1⟩ := num.2 q1
        rw [if_neg q1]
        exact ⟨g1, by rw [e1, Option.bind_some, if_neg Bool.false_ne_true], sTE_Pt f1, k1⟩
    by_cases q8 : op = 8
    · rw [if_pos (f8.mpr q8), if_pos q8, if_pos q8, i1, i20]
      exact key 1 20 (by decide) (by decide)
    · rw [if_neg (fun c => q8 (f8.mp c)), if_neg q8, if_neg q8, i0, i999]
      exact key 0 999 (by decide) (by decide)
  · rw [if_neg q, if_pos (fv.mpr q)]
    exact ⟨h, rfl, Fr.rf, hC, fun _ => rfl, fun c => absurd c q, fun _ _ => rfl, rfl, rfl⟩
theorem c_parts {op i : Nat} (ho : op ≤ 8) (hi : i < 30) (hC : CT h len bs t) (hT : TG len t) (z2 : gJ h (3, 0, 2) i = jZ (eC [])) (z3 : gI h (3, 0, 3) i = iZ 0) : match arP len bs op t with
    | .inl (c, p) => ∃ g, jX5_readParts (opC op) (iZ i) h = some (false, g) ∧ Fr (sPt i) h g ∧ ErC g c p
    | .inr (c, t2) => ∃ g, jX5_readParts (opC op) (iZ i) h = some (true, g) ∧ Fr (sPt i) h g ∧ CT g len bs t2 ∧ gJ g (3, 0, 2) i = jZ (eC c.2.1) ∧ gI g (3, 0, 3) i = iZ c.2.2 ∧ gI g (4, 0, 0) 7 = gI h (4, 0, 0) 7 ∧ gI g (4, 0, 0) 8 = gI h (4, 0, 0) 8 := by
  obtain ⟨-, fn, -, -⟩ := opC_facts op (by omega)
  -- behind the name
  have tail : ∀ (g : HD) (t1 : Tok) (k : List Nat), CT g len bs t1 → TG len t1 → Fr (sPt i) h g → gJ g (3, 0, 2) i = jZ (eC k) → gI g (3, 0, 3) i = iZ 0 → gI g (4, 0, 0) 7 = gI h (4, 0, 0) 7 → gI g (4, 0, 0) 8 = gI h (4, 0, 0) 8 → (match (match vlP len bs op t1 with | .inl e => .inl e | .inr (v, t2) => .inr ((op, k, v), t2) : Rd (Cm × Tok)) with
    | .inl (c, p) => ∃ g2, VP (opC op) (iZ i) g = some (false, g2) ∧ Fr (sPt i) h g2 ∧ ErC g2 c p
    | .inr (c, t2) => ∃ g2, VP (opC op) (iZ i) g = some (true, g2) ∧ Fr (sPt i) h g2 ∧ CT g2 len bs t2 ∧ gJ g2 (3, 0, 2) i = jZ (eC c.2.1) ∧ gI g2 (3, 0, 3) i = iZ c.2.2 ∧ gI g2 (4, 0, 0) 7 = gI h (4, 0, 0) 7 ∧ gI g2 (4, 0, 0) 8 = gI h (4, 0, 0) 8) := by
    intro g t1 k k1 T1 f1 n1 m1 a7 a8
    have vp := c_VP ho hi k1 T1
    cases hv : vlP len bs op t1 with
    | inl er =>
      rw [hv] at vp
      obtain ⟨c, p⟩ := er
      obtain ⟨g2, e2, f2, r2⟩ := vp
      exact ⟨g2, e2, f1.tr f2, r2⟩
    | inr vt =>
      rw [hv] at vp
      obtain ⟨v, t2⟩ := vt
      obtain ⟨g2, e2, f2, k2, b1, b2, b3, b7, b8⟩ := vp
      refine ⟨g2, e2, f1.tr f2, k2, (b1 i).trans n1, ?_, b7.trans a7, b8.trans a8⟩
      show gI g2 (3, 0, 3) i = iZ v
      by_cases q : hasV op = true
      · exact b2 q
      · have q2 : hasV op = false := by simpa using q
        rw [b3 q2, m1, (vlP_ok T1 hv).2.2.2.2.2 q2]
  rw [readParts_eq]
  unfold arP nmP
  by_cases q : op ≤ 3
  · rw [if_pos q, if_neg (fun c => fn.mp c q)]
    have nm := c_name hC
    have n1 := hT.nx (bs := bs)
    by_cases q1 : (nx len bs t).1 = 1
    · obtain ⟨g1, e1, f1, k1, a7, a8⟩ := nm.1 q1
      rw [if_pos q1, e1, Option.bind_some, if_pos rfl, inB_t (by omega) (by omega) (by omega), if_pos rfl, lt_eq, iZ_nat (by omega) (by omega), Int.toNat_natCast]
      have ew : jX6_word g1 = jZ (eC (nx len bs t).2.2.2.1) := k1.2.2.1.2.2.2.1 q1
      show match (match vlP len bs op (nx len bs t) with | .inl e => .inl e | .inr (v, t2) => .inr ((op, (nx len bs t).2.2.2.1, v), t2) : Rd (Cm × Tok)) with | .inl (c, p) => ∃ g2, VP (opC op) (iZ i) (sJ g1 (3, 0, 2) i (jX6_word g1)) = some (false, g2) ∧ _ | .inr (c, t2) => ∃ g2, VP (opC op) (iZ i) (sJ g1 (3, 0, 2) i (jX6_word g1)) = some (true, g2) ∧ _
      rw [ew]
      exact tail _ _ _ (k1.fr (S := fun r _ => decide (r = (3, 0, 2))) (Fr.rf.sJ rfl _) rfl (fun _ => rfl) (fun _ _ => rfl)) n1.1 ((sTE_Pt f1).sJ (by unfold sPt; simp) _) (by rw [gJ_sJ, if_pos ⟨rfl, rfl⟩]) ((gI_sJ _ _ _ _ _ _).trans ((f1.1 _ _ rfl).trans z3)) a7 a8
    · obtain ⟨g1, e1, f1, k1⟩ := nm.2 q1
      rw [if_neg q1, e1, Option.bind_some, if_neg Bool.false_ne_true]
      exact ⟨g1, rfl, sTE_Pt f1, k1⟩
  · rw [if_neg q, if_pos (fn.mpr q)]
    exact tail h t [] hC hT Fr.rf z2 z3 rfl rfl
end
/-! the script as the class holds it -/
def CellC (h : HD) (i : Int) (c : Cm) (bh : Int) : Prop := gO h i.toNat = some (opC c.1) ∧ gJ h (3, 0, 2) i.toNat = jZ (eC c.2.1) ∧ gI h (3, 0, 3) i.toNat = iZ c.2.2 ∧ gI h (3, 0, 4) i.toNat = iZ bh ∧ CmOk c
def AlwT : Int → Prop := fun _ => True
def CZ (h : HD) (z : Zp) : Prop := gI h (3, 0, 0) 6 = iZ (szZ 1 z) ∧ gI h (3, 0, 0) 5 = iZ (dpZ z) ∧ szZ 1 z ≤ 30 ∧ AtZ (CellC h) AlwT 1 z ∧ (1 ≤ dpZ z → gI h (3, 0, 5) 0 = iZ (sz2 1 z.1)) ∧ (dpZ z = 2 → gI h (3, 0, 5) 1 = iZ (opZ 1 z))
theorem CellC.keep {h h2 : HD} {i : Int} {c : Cm} {bh : Int} (hc : CellC h i c bh) (eo : gO h2 i.toNat = gO h i.toNat) (e2 : gJ h2 (3, 0, 2) i.toNat = gJ h (3, 0, 2) i.toNat) (e3 : gI h2 (3, 0, 3) i.toNat = gI h (3, 0, 3) i.toNat) (e4 : gI h2 (3, 0, 4) i.toNat = gI h (3, 0, 4) i.toNat) : CellC h2 i c bh := ⟨eo.trans hc.1, e2.trans hc.2.1, e3.trans hc.2.2.1, e4.trans hc.2.2.2.1, hc.2.2.2.2⟩
/-- the heap when command i has begun -/
def ncH (h : HD) (i : Nat) (k : Nat) : HD := sI (sI (sJ (sO (sI h (3, 0, 0) 6 (iZ ((i : Int) + 1))) i (some k)) (3, 0, 2) i (0 : Int64)) (3, 0, 3) i (0 : Int32)) (3, 0, 4) i (iZ ((i : Int) + 1))
def BODC (h : HD) (k3 : Nat) (mk : Int32) (fin : HD → Option (Bool × HD)) : Option (Bool × HD) := lt (sI h (3, 0, 0) 6 ((gI h (3, 0, 0) 6) + (1 : Int32))) fun h18 =>
  if inB (gI h (3, 0, 0) 6) 30 = true then lt (sO h18 (gI h (3, 0, 0) 6).toNatClampNeg (some k3)) fun h19 =>
  if inB (gI h (3, 0, 0) 6) 30 = true then lt (sJ h19 (3, 0, 2) ((gI h (3, 0, 0) 6).toNatClampNeg) (0 : Int64)) fun h21 =>
  if inB (gI h (3, 0, 0) 6) 30 = true then lt (sI h21 (3, 0, 3) ((gI h (3, 0, 0) 6).toNatClampNeg) (0 : Int32)) fun h23 =>
  if inB (gI h (3, 0, 0) 6) 30 = true then lt (sI h23 (3, 0, 4) ((gI h (3, 0, 0) 6).toNatClampNeg) (gI h23 (3, 0, 0) 6)) fun h25 =>
  (jX5_readParts k3 (gI h (3, 0, 0) 6) h25).bind fun q27 =>
  (if q27.1 = true then (jX6_readMark mk q27.2).bind fun q28 =>
  (if q28.1 = true then fin q28.2 else some (false, q28.2)) else some (false, q27.2)) else none else none else none else none
theorem readCommand_eq (h : HD) : jX5_readCommand h = (if (jX6_isWord h) = true then (jX3_withWord (jX6_word h) h).bind fun q2 => oc (q2) ((jX6_fail (1 : Int32) h).bind fun q5 => some (q5.1, q5.2)) (fun k3 => if k3 < 9 then (if k3 = 8 then (if (gI h (3, 0, 0) 5) < (2 : Int32) then (if (gI h (3, 0, 0) 6) < (30 : Int32) then BODC h k3 (40 : Int32) (fun g => (jX5_openRepeat (gI h (3, 0, 0) 6) g).bind fun q29 => some (true, q29)) else (jX6_fail (5 : Int32) h).bind fun q30 => some (q30.1, q30.2)) else (jX6_fail (3 : Int32) h).bind fun q31 => some (q31.1, q31.2)) else (if (gI h (3, 0, 0) 6) < (30 : Int32) then BODC h k3 (59 : Int32) (fun g => some (true, g)) else (jX6_fail (5 : Int32) h).bind fun q17 => some (q17.1, q17.2))) else none) else (jX6_fail (1 : Int32) h).bind fun q1 => some (q1.1, q1.2)) := rfl
section
variable {h : HD} {len : Int} {bs : Int → Int} {t : Tok} {z : Zp}
theorem BODC_eq {i : Nat} (hi : i < 30) (h6 : gI h (3, 0, 0) 6 = iZ i) (k3 : Nat) (mk : Int32) (fin : HD → Option (Bool × HD)) : BODC h k3 mk fin = (jX5_readParts k3 (iZ i) (ncH h i k3)).bind fun q27 => (if q27.1 = true then (jX6_readMark mk q27.2).bind fun q28 => (if q28.1 = true then fin q28.2 else some (false, q28.2)) else some (false, q27.2)) := by
  unfold BODC ncH
  rw [h6, lt_eq, inB_t (by omega) (by omega) (by omega), if_pos rfl, lt_eq, if_pos rfl, lt_eq, if_pos rfl, lt_eq, if_pos rfl, lt_eq, iZ_nat (by omega) (by omega), Int.toNat_natCast, i1, iZ_add]
  have e : gI (sI (sJ (sO (sI h (3, 0, 0) 6 (iZ ((i : Int) + 1))) i (some k3)) (3, 0, 2) i (0 : Int64)) (3, 0, 3) i (0 : Int32)) (3, 0, 0) 6 = iZ ((i : Int) + 1) := by
    rw [gI_ne _ (by decide), gI_sJ, gI_sO, gI_self]
  rw [e]
theorem nc_Fo (i k : Nat) : Fo sSc h (ncH h i k) := by
  unfold ncH
  have f1 : Fo sSc h (sI h (3, 0, 0) 6 (iZ ((i : Int) + 1))) := Fo.of (Fr.rf.sI rfl _)
  have f2 : Fo sSc (sI h (3, 0, 0) 6 (iZ ((i : Int) + 1))) (sO (sI h (3, 0, 0) 6 (iZ ((i : Int) + 1))) i (some k)) := ⟨fun _ _ _ => rfl, fun _ _ _ => rfl, rfl⟩
  exact (f1.tr f2).tr (Fo.of (((Fr.rf.sJ rfl _).sI rfl _).sI rfl _))
theorem nc_CT (hC : CT h len bs t) (i k : Nat) : CT (ncH h i k) len bs t := by
  have c1 : CT (sI h (3, 0, 0) 6 (iZ ((i : Int) + 1))) len bs t := hC.fr (S := fun r _ => decide (r = (3, 0, 0))) (Fr.rf.sI rfl _) rfl (fun _ => rfl) (fun _ _ => rfl)
  have c2 : CT (sO (sI h (3, 0, 0) 6 (iZ ((i : Int) + 1))) i (some k)) len bs t := c1
  unfold ncH
  exact c2.fr (S := fun r _ => Nat.beq r.1 3) (((Fr.rf.sJ rfl _).sI rfl _).sI rfl _) rfl (fun _ => rfl) (fun _ _ => rfl)
/-- a command's cells when it was read -/
theorem nc_cells {g : HD} {op i : Nat} {c : Cm} (hZ : CZ h z) (hi : szZ 1 z = i) (hF : Fr (sPt i) (ncH h i (opC op)) g) (hc : CmOk c) (ho : c.1 = op) (n2 : gJ g (3, 0, 2) i = jZ (eC c.2.1)) (n3 : gI g (3, 0, 3) i = iZ c.2.2) : CellC g i c ((i : Int) + 1) ∧ (∀ j d bh, 0 ≤ j → j < szZ 1 z → CellC h j d bh → CellC g j d bh) ∧ gI g (3, 0, 0) 6 = iZ ((i : Int) + 1) ∧ gI g (3, 0, 0) 5 = iZ (dpZ z) ∧ (∀ k, gI g (3, 0, 5) k = gI h (3, 0, 5) k) := by
  have st : ∀ j : Nat, j ≠ i → sPt i (3, 0, 2) j = false ∧ sPt i (3, 0, 3) j = false := fun j hj => by
    unfold sPt
    have : Nat.beq j i = false := by
      cases e : Nat.beq j i with
      | true => exact absurd (Nat.eq_of_beq_eq_true e) hj
      | false => rfl
    rw [this]
    exact ⟨rfl, rfl⟩
  refine ⟨⟨?_, ?_, ?_, ?_, hc⟩, fun j d bh j0 j1 hd => ?_, ?_, ?_, fun k => ?_⟩
  · rw [Int.toNat_natCast, hF.oO, ho]
    show (if i = i then some (opC op) else _) = _
    rw [if_pos rfl]
  · rw [Int.toNat_natCast]; exact n2
  · rw [Int.toNat_natCast]; exact n3
  · rw [Int.toNat_natCast, hF.1 _ _ rfl]
    unfold ncH
    rw [gI_self]
  · have hj : j.toNat ≠ i := by omega
    obtain ⟨s2', s3'⟩ := st j.toNat hj
    refine hd.keep ?_ ?_ ?_ ?_
    · rw [hF.oO]
      show (if j.toNat = i then some (opC op) else gO h j.toNat) = _
      rw [if_neg hj]
    · rw [hF.2.1 _ _ s2']
      unfold ncH
      rw [gJ_sI, gJ_sI, gJ_sJ, if_neg (fun e => hj e.2)]
      rfl
    · rw [hF.1 _ _ s3']
      unfold ncH
      rw [gI_ne _ (by decide), gI_nk _ _ _ hj]
      rfl
    · rw [hF.1 _ _ rfl]
      unfold ncH
      rw [gI_nk _ _ _ hj, gI_ne _ (by decide), gI_sJ, gI_sO, gI_ne _ (by decide)]
  · rw [hF.1 _ _ rfl]
    unfold ncH
    rw [gI_ne _ (by decide), gI_ne _ (by decide), gI_sJ, gI_sO, gI_self]
  · rw [hF.1 _ _ rfl]
    unfold ncH
    rw [gI_ne _ (by decide), gI_ne _ (by decide), gI_sJ, gI_sO, gI_nk _ _ _ (by decide)]
    exact hZ.2.1
  · rw [hF.1 _ _ rfl]
    unfold ncH
    rw [gI_ne _ (by decide), gI_ne _ (by decide), gI_sJ, gI_sO, gI_ne _ (by decide)]
theorem CZ.fr {g : HD} (hZ : CZ h z) (hF : Fr sTE h g) : CZ g z := by
  obtain ⟨z1, z2, z3, z4, z5, z6⟩ := hZ
  refine ⟨(hF.1 _ _ rfl).trans z1, (hF.1 _ _ rfl).trans z2, z3, AtZ_mono (by decide) (fun j c bh j0 j1 hc => hc.keep (hF.oO _) (hF.2.1 _ _ rfl) (hF.1 _ _ rfl) (hF.1 _ _ rfl)) (Or.inr (fun _ => trivial)) (fun _ _ _ _ => trivial) z4, fun c => (hF.1 _ _ rfl).trans (z5 c), fun c => (hF.1 _ _ rfl).trans (z6 c)⟩
theorem CZ_add {g : HD} {c : Cm} {i : Nat} (hZ : CZ h z) (hi : szZ 1 z = i) (h30 : i < 30) (h8 : c.1 < 8) (c1 : CellC g i c ((i : Int) + 1)) (c2 : ∀ j d bh, 0 ≤ j → j < szZ 1 z → CellC h j d bh → CellC g j d bh) (c3 : gI g (3, 0, 0) 6 = iZ ((i : Int) + 1)) (c4 : gI g (3, 0, 0) 5 = iZ (dpZ z)) (c5 : ∀ k, gI g (3, 0, 5) k = gI h (3, 0, 5) k) : CZ g (addZ c z) := by
  obtain ⟨z1, z2, z3, z4, z5, z6⟩ := hZ
  obtain ⟨s1', s2', s3'⟩ := addZ_sz (e := 1) (z := z) c
  refine ⟨by rw [s1', hi]; exact c3, by rw [s2']; exact c4, by omega, AtZ_add (AtZ_mono (by decide) c2 (Or.inr (fun _ => trivial)) (fun _ _ _ _ => trivial) z4) (by rw [hi]; exact c1) h8, fun d => ?_, fun d => ?_⟩
  · rw [s2'] at d
    rw [c5, z5 d]
    rcases Zp_cases z with ⟨a, rfl⟩ | ⟨a, n, b, rfl⟩ | ⟨a, n, b, m, e, rfl⟩
    · exact absurd (show (1 : Int) ≤ 0 from d) (by decide)
    · rfl
    · rfl
  · rw [s2'] at d
    rw [c5, z6 d, s3', if_neg (by omega)]
theorem CZ_opn {g : HD} {n : Int} {i : Nat} (hZ : CZ h z) (hi : szZ 1 z = i) (h30 : i < 30) (hd : dpZ z < 2) (n1 : 1 ≤ n) (n2 : n ≤ 20) (c1 : CellC g i (8, [], n) ((i : Int) + 1)) (c2 : ∀ j d bh, 0 ≤ j → j < szZ 1 z → CellC h j d bh → CellC g j d bh) (c3 : gI g (3, 0, 0) 6 = iZ ((i : Int) + 1)) (c4 : gI g (3, 0, 0) 5 = iZ (dpZ z)) (c5 : ∀ k, gI g (3, 0, 5) k = gI h (3, 0, 5) k) : ∃ g2, jX5_openRepeat (iZ i) g = some g2 ∧ Fr (fun r _ => Nat.beq r.1 3) g g2 ∧ CZ g2 (opnZ n z) := by
  obtain ⟨z1, z2, z3, z4, z5, z6⟩ := hZ
  obtain ⟨s1', s2', s3'⟩ := opnZ_sz (e := 1) (z := z) n hd
  have d0 := (szZ_nn (e := 1) (z := z) (by decide)).2.1
  have F : Fr (fun r _ => decide (r = (3, 0, 5) ∨ r = (3, 0, 0))) g (sI (sI g (3, 0, 5) (dpZ z).toNat (iZ i)) (3, 0, 0) 5 (iZ (dpZ z + 1))) := (Fr.rf.sI rfl _).sI rfl _
  have cc : ∀ {j d bh}, CellC g j d bh → CellC (sI (sI g (3, 0, 5) (dpZ z).toNat (iZ i)) (3, 0, 0) 5 (iZ (dpZ z + 1))) j d bh := fun hc => hc.keep (F.oO _) (F.2.1 _ _ rfl) (F.1 _ _ rfl) (F.1 _ _ rfl)
  refine ⟨sI (sI g (3, 0, 5) (dpZ z).toNat (iZ i)) (3, 0, 0) 5 (iZ (dpZ z + 1)), ?_, (Fr.rf.sI rfl _).sI rfl _, ?_, ?_, by omega, AtZ_opn hd (AtZ_mono (by decide) (fun j d bh j0 j1 hc => cc (c2 j d bh j0 j1 hc)) (Or.inr (fun _ => trivial)) (fun _ _ _ _ => trivial) z4) ⟨⟨_, by rw [hi]; exact cc c1⟩, n1, n2⟩, fun d => ?_, fun d => ?_⟩
  · unfold jX5_openRepeat
    rw [c4, i0, i2, if_neg (lt_n (by omega) (by omega) (by omega)), if_neg (le_n (by omega) (by omega) (by omega)), inB_t (by omega) (by omega) (by omega), if_pos rfl, lt_eq, iZ_nat (by omega) (by omega), gI_ne _ (by decide), c4, i1, iZ_add, lt_eq]
  · rw [gI_nk _ _ _ (by decide), gI_ne _ (by decide), c3, s1', hi]
  · rw [gI_self, s2']
  · rw [gI_ne _ (by decide), gI_sI]
    rcases Zp_cases z with ⟨a, rfl⟩ | ⟨a, m, b, rfl⟩ | ⟨a, m, b, m2, e, rfl⟩
    · have e0 : dpZ ((a, none) : Zp) = 0 := rfl
      rw [e0, if_pos ⟨rfl, rfl⟩]
      have : szZ 1 ((a, none) : Zp) = sz2 1 a := rfl
      rw [← hi, this]
      rfl
    · have e0 : dpZ ((a, some (m, b, none)) : Zp) = 1 := rfl
      rw [e0, if_neg (fun c => absurd c.2 (by decide)), c5, z5 (by rw [e0]; decide)]
      rfl
    · exact absurd (show (2 : Int) < 2 from hd) (by decide)
  · rw [gI_ne _ (by decide), gI_sI]
    have e1 : dpZ z = 1 := by omega
    rw [e1, if_pos ⟨rfl, rfl⟩, s3', hi]
/-- a command that the class reads; t stands at its word -/
theorem c_cmd (hC : CT h len bs t) (hT : TG len t) (hZ : CZ h z) : match cmP len bs z t with
    | .inl (c, p) => ∃ g, jX5_readCommand h = some (false, g) ∧ Fo sSc h g ∧ ErC g c p
    | .inr (z2, t2) => ∃ g t1, jX5_readCommand h = some (true, g) ∧ Fo sSc h g ∧ CT g len bs t1 ∧ TG len t1 ∧ nx len bs t1 = t2 ∧ t.2.1 + 1 ≤ t1.2.2.1 ∧ CZ g z2 ∧ gI g (4, 0, 0) 7 = gI h (4, 0, 0) 7 ∧ gI g (4, 0, 0) 8 = gI h (4, 0, 0) 8 := by
  have fail : ∀ c : Int, ∃ g, ((jX6_fail (iZ c) h).bind fun q => some (q.1, q.2)) = some (false, g) ∧ Fo sSc h g ∧ ErC g c t.2.1 := fun c => by
    obtain ⟨g, e, f, r⟩ := x6_fail hC.2.2.1 c
    exact ⟨g, by rw [e]; rfl, Fo.of (sTE_Sc (sEr_TE f)), r⟩
  have hk := hT.1
  have h4 := hk.2.2.2
  rw [readCommand_eq]
  unfold jX6_isWord cmP cmdOf
  rw [hC.2.2.1.1, i1]
  by_cases q : t.1 = 1
  · have hw := hk.1 q
    have ew : jX6_word h = jZ (eC t.2.2.2.1) := hC.2.2.1.2.2.2.1 q
    rw [if_pos (show iZ t.1 = iZ 1 by rw [q]), if_pos rfl, if_pos q, ew, x3_withWord h hw, Option.bind_some]
    cases ho : opW t.2.2.2.1 with
    | none => exact fail 1
    | some op =>
      have h8 := opW_in ho
      obtain ⟨f9, -, -, fe⟩ := opC_facts op (by omega)
      obtain ⟨nn, d0, d2, -⟩ := szZ_nn (e := 1) (z := z) (by decide)
      obtain ⟨z1, z2', z3, -⟩ := id hZ
      show match (if op = 8 ∧ dpZ z = 2 then .inl (3, t.2.1) else if 30 ≤ szZ 1 z then .inl (5, t.2.1) else match arP len bs op t with | .inl e => .inl e | .inr (c, t1) => match mkP (nx len bs t1) (if op = 8 then 40 else 59) with | .inl e => .inl e | .inr _ => .inr (if op = 8 then opnZ c.2.2 z else addZ c z, nx len bs (nx len bs t1)) : Rd (Zp × Tok)) with
        | .inl (c, p) => ∃ g, (if opC op < 9 then (if opC op = 8 then (if (gI h (3, 0, 0) 5) < (2 : Int32) then (if (gI h (3, 0, 0) 6) < (30 : Int32) then BODC h (opC op) (40 : Int32) (fun g => (jX5_openRepeat (gI h (3, 0, 0) 6) g).bind fun q29 => some (true, q29)) else (jX6_fail (5 : Int32) h).bind fun q30 => some (q30.1, q30.2)) else (jX6_fail (3 : Int32) h).bind fun q31 => some (q31.1, q31.2)) else (if (gI h (3, 0, 0) 6) < (30 : Int32) then BODC h (opC op) (59 : Int32) (fun g => some (true, g)) else (jX6_fail (5 : Int32) h).bind fun q17 => some (q17.1, q17.2))) else none) = some (false, g) ∧ Fo sSc h g ∧ ErC g c p
        | .inr (z2, t2) => ∃ g t1, (if opC op < 9 then (if opC op = 8 then (if (gI h (3, 0, 0) 5) < (2 : Int32) then (if (gI h (3, 0, 0) 6) < (30 : Int32) then BODC h (opC op) (40 : Int32) (fun g => (jX5_openRepeat (gI h (3, 0, 0) 6) g).bind fun q29 => some (true, q29)) else (jX6_fail (5 : Int32) h).bind fun q30 => some (q30.1, q30.2)) else (jX6_fail (3 : Int32) h).bind fun q31 => some (q31.1, q31.2)) else (if (gI h (3, 0, 0) 6) < (30 : Int32) then BODC h (opC op) (59 : Int32) (fun g => some (true, g)) else (jX6_fail (5 : Int32) h).bind fun q17 => some (q17.1, q17.2))) else none) = some (true, g) ∧ Fo sSc h g ∧ CT g len bs t1 ∧ TG len t1 ∧ nx len bs t1 = t2 ∧ t.2.1 + 1 ≤ t1.2.2.1 ∧ CZ g z2 ∧ gI g (4, 0, 0) 7 = gI h (4, 0, 0) 7 ∧ gI g (4, 0, 0) 8 = gI h (4, 0, 0) 8
      rw [if_pos f9, z2', z1, i2, show (30 : Int32) = iZ 30 from rfl]
      by_cases q3 : op = 8 ∧ dpZ z = 2
      · rw [if_pos q3, if_pos (fe.mpr q3.1), if_neg (lt_n (by omega) (by omega) (by omega))]
        exact fail 3
      · rw [if_neg q3]
        by_cases q5 : 30 ≤ szZ 1 z
        · rw [if_pos q5]
          by_cases q8 : op = 8
          · rw [if_pos (fe.mpr q8), if_pos (lt_y (by omega) (by omega) (by omega)), if_neg (lt_n (by omega) (by omega) (by omega))]
            exact fail 5
          · rw [if_neg (fun c => q8 (fe.mp c)), if_neg (lt_n (by omega) (by omega) (by omega))]
            exact fail 5
        · rw [if_neg q5]
          obtain ⟨i, hi⟩ : ∃ i : Nat, szZ 1 z = i := ⟨(szZ 1 z).toNat, by omega⟩
          have h6 : gI h (3, 0, 0) 6 = iZ i := by rw [z1, hi]
          have i30 : i < 30 := by omega
          have cp := c_parts (op := op) (i := i) h8 i30 (nc_CT hC i (opC op)) hT (by
            unfold ncH
            rw [gJ_sI, gJ_sI, gJ_sJ, if_pos ⟨rfl, rfl⟩, eC_nil]; rfl) (by
            unfold ncH
            rw [gI_ne _ (by decide), gI_self]; rfl)
          have F0 := nc_Fo (h := h) i (opC op)
          have n47 : ∀ j, gI (ncH h i (opC op)) (4, 0, 0) j = gI h (4, 0, 0) j := fun j => by
            unfold ncH
            rw [gI_ne _ (by decide), gI_ne _ (by decide), gI_sJ, gI_sO, gI_ne _ (by decide)]
          have n7 := n47 7
          have n8 := n47 8
          cases ha : arP len bs op t with
          | inl er =>
            rw [ha] at cp
            obtain ⟨c, p⟩ := er
            obtain ⟨g, e, f, r⟩ := cp
            refine ⟨g, ?_, F0.tr (Fo.of (sPt_Sc f)), r⟩
            by_cases q8 : op = 8
            · rw [if_pos (fe.mpr q8), if_pos (lt_y (by omega) (by omega) (by omega)), if_pos (lt_y (by omega) (by omega) (by omega)), BODC_eq i30 h6, e, Option.bind_some, if_neg Bool.false_ne_true]
            · rw [if_neg (fun c => q8 (fe.mp c)), if_pos (lt_y (by omega) (by omega) (by omega)), BODC_eq i30 h6, e, Option.bind_some, if_neg Bool.false_ne_true]
          | inr ct =>
            rw [ha] at cp
            obtain ⟨c, t1⟩ := ct
            obtain ⟨g, e, f, k, n2, n3, a7, a8⟩ := cp
            obtain ⟨okc, oc1, oc8, T1, le1⟩ := arP_ok h8 hT ha
            have T2 := T1.nx (bs := bs)
            have := hT.2.2.2.2 (by omega)
            have := T2.1.2.2.1
            obtain ⟨w1, w2, w3, w4, w5⟩ := nc_cells hZ hi f okc oc1 n2 n3
            show match (match mkP (nx len bs t1) (if op = 8 then 40 else 59) with | .inl e => .inl e | .inr _ => .inr (if op = 8 then opnZ c.2.2 z else addZ c z, nx len bs (nx len bs t1)) : Rd (Zp × Tok)) with | .inl (c, p) => _ | .inr (z2, t2) => _
            unfold mkP
            by_cases q8 : op = 8
            · rw [if_pos q8, if_pos q8, if_pos (fe.mpr q8), if_pos (lt_y (by omega) (by omega) (by omega)), if_pos (lt_y (by omega) (by omega) (by omega)), BODC_eq i30 h6, e, Option.bind_some]
              have mk := c_mark k (c := 40) (by decide) (by decide)
              by_cases q4 : isMk (nx len bs t1) 40
              · obtain ⟨g2, e2, f2, k2, b7, b8⟩ := mk.1 q4
                have fr2 : Fr (fun r _ => Nat.beq r.1 4) g g2 := f2
                have hc8 : c = (8, [], c.2.2) := by
                  obtain ⟨c1, c2, c3⟩ := c
                  have x1 : c1 = 8 := oc1.trans q8
                  have x2 : c2 = [] := (oc8 q8).1
                  rw [x1, x2]
                have kp : ∀ {j d bh}, CellC g j d bh → CellC g2 j d bh := fun hc => hc.keep (f2.oO _) (f2.2.1 _ _ rfl) (f2.1 _ _ rfl) (f2.1 _ _ rfl)
                rw [hc8] at w1
                obtain ⟨g3, e3, f3, Z3⟩ := CZ_opn (g := g2) hZ hi i30 (by omega) (oc8 q8).2.1 (oc8 q8).2.2 (kp w1) (fun j d bh j0 j1 hc => kp (w2 j d bh j0 j1 hc)) ((f2.1 _ _ rfl).trans w3) ((f2.1 _ _ rfl).trans w4) (fun j => (f2.1 _ _ rfl).trans (w5 j))
                rw [if_pos q4]
                refine ⟨g3, nx len bs t1, ?_, ((F0.tr (Fo.of (sPt_Sc f))).tr (Fo.of (sTE_Sc f2))).tr (Fo.of (f3.mono fun r k q => by unfold sSc at q; exact (Bool.or_eq_false_iff.mp q).2)), k2.fr f3 rfl (fun _ => rfl) (fun _ _ => rfl), T2.1, rfl, by omega, Z3, ?_, ?_⟩
                · show (if true = true then (jX6_readMark (iZ 40) g).bind _ else _) = _
                  rw [if_pos rfl, e2, Option.bind_some, if_pos rfl, hi]
                  show (jX5_openRepeat (iZ i) g2).bind _ = _
                  rw [e3]
                  rfl
                · rw [f3.1 _ _ rfl, b7, a7, n7]
                · rw [f3.1 _ _ rfl, b8, a8, n8]
              · obtain ⟨g2, e2, f2, r2⟩ := mk.2 q4
                rw [if_neg q4]
                refine ⟨g2, ?_, (F0.tr (Fo.of (sPt_Sc f))).tr (Fo.of (sTE_Sc f2)), r2⟩
                show (if true = true then (jX6_readMark (iZ 40) g).bind _ else _) = _
                rw [if_pos rfl, e2, Option.bind_some, if_neg Bool.false_ne_true]
            · rw [if_neg q8, if_neg q8, if_neg (fun c => q8 (fe.mp c)), if_pos (lt_y (by omega) (by omega) (by omega)), BODC_eq i30 h6, e, Option.bind_some]
              have mk := c_mark k (c := 59) (by decide) (by decide)
              by_cases q4 : isMk (nx len bs t1) 59
              · obtain ⟨g2, e2, f2, k2, b7, b8⟩ := mk.1 q4
                have kp : ∀ {j d bh}, CellC g j d bh → CellC g2 j d bh := fun hc => hc.keep (f2.oO _) (f2.2.1 _ _ rfl) (f2.1 _ _ rfl) (f2.1 _ _ rfl)
                rw [if_pos q4]
                refine ⟨g2, nx len bs t1, ?_, (F0.tr (Fo.of (sPt_Sc f))).tr (Fo.of (sTE_Sc f2)), k2, T2.1, rfl, by omega, CZ_add hZ hi i30 (by omega) (kp w1) (fun j d bh j0 j1 hc => kp (w2 j d bh j0 j1 hc)) ((f2.1 _ _ rfl).trans w3) ((f2.1 _ _ rfl).trans w4) (fun j => (f2.1 _ _ rfl).trans (w5 j)), ?_, ?_⟩
                · show (if true = true then (jX6_readMark (iZ 59) g).bind _ else _) = _
                  rw [if_pos rfl, e2, Option.bind_some, if_pos rfl]
                · rw [b7, a7, n7]
                · rw [b8, a8, n8]
              · obtain ⟨g2, e2, f2, r2⟩ := mk.2 q4
                rw [if_neg q4]
                refine ⟨g2, ?_, (F0.tr (Fo.of (sPt_Sc f))).tr (Fo.of (sTE_Sc f2)), r2⟩
                show (if true = true then (jX6_readMark (iZ 59) g).bind _ else _) = _
                rw [if_pos rfl, e2, Option.bind_some, if_neg Bool.false_ne_true]
  · rw [if_neg (show ¬ iZ t.1 = iZ 1 from eq_n (by omega) (by omega) (by omega) (by omega) (by omega)), if_neg Bool.false_ne_true, if_neg q]
    exact fail 1
end
