/-! a command of a script: the reference -/
theorem b_wrong {h : HD} {c p : Int} (hE : ErM h c p) (hc : c = 1 ∨ c = 2 ∨ c = 3 ∨ c = 4 ∨ c = 5) (k : Int32) : jX9_wrong k h = some h := by
  unfold jX9_wrong
  rw [hE.1, if_neg (show ¬ iZ c ≤ 0 from le_n (b := 0) (by omega) (by omega) (by omega))]
theorem wPref_ok : NmOk wPref := ⟨by decide, by decide, by decide⟩
theorem wCome_ok : NmOk wCome := ⟨by decide, by decide, by decide⟩
theorem wSwap_ok : NmOk wSwap := ⟨by decide, by decide, by decide⟩
theorem wGo_ok : NmOk wGo := ⟨by decide, by decide, by decide⟩
theorem wTurn_ok : NmOk wTurn := ⟨by decide, by decide, by decide⟩
theorem wSort_ok : NmOk wSort := ⟨by decide, by decide, by decide⟩
theorem wRev_ok : NmOk wRev := ⟨by decide, by decide, by decide⟩
theorem wRep_ok : NmOk wRep := ⟨by decide, by decide, by decide⟩
def cmN9 (o : Option Nat) : Int := match o with
  | none => -1
  | some k => k
section
variable {h : HD} {len : Int} {bs : Int → Int} {t : Tok} {z : Zp}
theorem m_cmdHere (hM : MT h len bs t) : jX9_commandHere h = iZ (cmN9 (cmdOf t)) := by
  unfold jX9_commandHere
  rw [show (555915442 : Int64) = jZ (eM wPref) by decide, show (114085 : Int64) = jZ (eM wCome) by decide, show (646192 : Int64) = jZ (eM wSwap) by decide, show (239 : Int64) = jZ (eM wGo) by decide, show (677454 : Int64) = jZ (eM wTurn) by decide, show (66667 : Int64) = jZ (eM wBack) by decide, show (638548 : Int64) = jZ (eM wSort) by decide, show (19518376549 : Int64) = jZ (eM wRev) by decide, show (609752116 : Int64) = jZ (eM wRep) by decide]
  rw [m_isWord hM wPref_ok, m_isWord hM wCome_ok, m_isWord hM wSwap_ok, m_isWord hM wGo_ok, m_isWord hM wTurn_ok, m_isWord hM wBack_ok, m_isWord hM wSort_ok, m_isWord hM wRev_ok, m_isWord hM wRep_ok]
  unfold cmdOf
  by_cases q : t.1 = 1
  · rw [if_pos q]
    unfold opW
    by_cases q0 : t.2.2.2.1 = wPref
    · rw [if_pos q0, decide_eq_true ⟨q, q0⟩, if_pos rfl]; rfl
    rw [if_neg q0, decide_eq_false (fun c => q0 c.2), if_neg Bool.false_ne_true]
    by_cases q1 : t.2.2.2.1 = wCome
    · rw [if_pos q1, decide_eq_true ⟨q, q1⟩, if_pos rfl]; rfl
    rw [if_neg q1, decide_eq_false (fun c => q1 c.2), if_neg Bool.false_ne_true]
    by_cases q2 : t.2.2.2.1 = wSwap
    · rw [if_pos q2, decide_eq_true ⟨q, q2⟩, if_pos rfl]; rfl
    rw [if_neg q2, decide_eq_false (fun c => q2 c.2), if_neg Bool.false_ne_true]
    by_cases q3 : t.2.2.2.1 = wGo
    · rw [if_pos q3, decide_eq_true ⟨q, q3⟩, if_pos rfl]; rfl
    rw [if_neg q3, decide_eq_false (fun c => q3 c.2), if_neg Bool.false_ne_true]
    by_cases q4 : t.2.2.2.1 = wTurn
    · rw [if_pos q4, decide_eq_true ⟨q, q4⟩, if_pos rfl]; rfl
    rw [if_neg q4, decide_eq_false (fun c => q4 c.2), if_neg Bool.false_ne_true]
    by_cases q5 : t.2.2.2.1 = wBack
    · rw [if_pos q5, decide_eq_true ⟨q, q5⟩, if_pos rfl]; rfl
    rw [if_neg q5, decide_eq_false (fun c => q5 c.2), if_neg Bool.false_ne_true]
    by_cases q6 : t.2.2.2.1 = wSort
    · rw [if_pos q6, decide_eq_true ⟨q, q6⟩, if_pos rfl]; rfl
    rw [if_neg q6, decide_eq_false (fun c => q6 c.2), if_neg Bool.false_ne_true]
    by_cases q7 : t.2.2.2.1 = wRev
    · rw [if_pos q7, decide_eq_true ⟨q, q7⟩, if_pos rfl]; rfl
    rw [if_neg q7, decide_eq_false (fun c => q7 c.2), if_neg Bool.false_ne_true]
    by_cases q8 : t.2.2.2.1 = wRep
    · rw [if_pos q8, decide_eq_true ⟨q, q8⟩, if_pos rfl]; rfl
    rw [if_neg q8, decide_eq_false (fun c => q8 c.2), if_neg Bool.false_ne_true]
    rfl
  · rw [if_neg q]
    have nw : ∀ ks, decide (t.1 = 1 ∧ t.2.2.2.1 = ks) = false := fun ks => decide_eq_false (fun c => q c.1)
    rw [nw, nw, nw, nw, nw, nw, nw, nw, nw]
    rfl
theorem m_nameHere (hM : MT h len bs t) : (t.1 = 1 → ∃ g, jX9_nameHere h = some (jZ (eM t.2.2.2.1), g) ∧ Fr sRd h g ∧ MT g len bs (nx len bs t)) ∧ (¬ t.1 = 1 → ∃ w g, jX9_nameHere h = some (w, g) ∧ Fr sME h g ∧ ErM g 1 t.2.1) := by
  have mn := m_mustName hM
  refine ⟨fun q => ?_, fun q => ?_⟩
  · obtain ⟨g, e, f, k⟩ := m_goOn hM
    refine ⟨g, ?_, f, k⟩
    unfold jX9_nameHere
    rw [mn.1 q, Option.bind_some, m_good hM, if_pos rfl, e, Option.bind_some, hM.2.2.2.1.2.2.2.1 q]
  · obtain ⟨g, e, f, k⟩ := mn.2 q
    refine ⟨gJ g (7, 0, 0) 12, g, ?_, f, k⟩
    unfold jX9_nameHere
    rw [e, Option.bind_some, show jX9_isGood g = false from k.g (by omega), if_neg Bool.false_ne_true]
end
/-- the parts of command k -/
def sPq (k : Nat) : Rf → Nat → Bool := fun r j => (decide (r = (7, 0, 0)) && (Nat.beq j 4 || Nat.beq j 5 || Nat.beq j 6 || Nat.beq j 7 || Nat.beq j 8 || Nat.beq j 9 || Nat.beq j 12)) || (decide (r = (7, 0, 26) ∨ r = (7, 0, 29)) && Nat.beq j k)
theorem sRd_Pm {k : Nat} {h h2 : HD} (hF : Fr sRd h h2) : Fr (sPq k) h h2 := hF.mono fun r j q => by
  unfold sPq at q
  unfold sRd
  have q2 := (Bool.or_eq_false_iff.mp q).1
  revert q2
  cases decide (r = (7, 0, 0)) <;> cases Nat.beq j 4 <;> cases Nat.beq j 5 <;> cases Nat.beq j 6 <;> cases Nat.beq j 7 <;> cases Nat.beq j 12 <;> simp
theorem sME_Pm {k : Nat} {h h2 : HD} (hF : Fr sME h h2) : Fr (sPq k) h h2 := hF.mono fun r j q => by
  unfold sPq at q
  unfold sME
  have q2 := (Bool.or_eq_false_iff.mp q).1
  revert q2
  cases decide (r = (7, 0, 0)) <;> cases Nat.beq j 8 <;> cases Nat.beq j 9 <;> simp
theorem sPq_26 (k : Nat) : sPq k (7, 0, 26) k = true := by unfold sPq; simp
theorem sPq_29 (k : Nat) : sPq k (7, 0, 29) k = true := by unfold sPq; simp
section
variable {h : HD} {len : Int} {bs : Int → Int} {t : Tok} {z : Zp}
/-- a number that is stored; the reference stands at it -/
theorem m_numS {k : Nat} (hk : k < 60) (hM : MT h len bs t) {a b : Int} (a0 : 0 ≤ a) (a1 : a ≤ 1000) (b0 : 0 ≤ b) (b1 : b ≤ 1000) : match numP t a b with
    | .inl (c, p) => ∃ g, Fr (sPq k) h g ∧ ErM g c p ∧ (c = 1 ∨ c = 2) ∧ ∀ F : HD → Option HD, ((jX9_number (iZ a) (iZ b) h).bind fun q => if inB (iZ k) 60 = true then lt (sI q.2 (7, 0, 26) (iZ k).toNatClampNeg q.1) F else none) = F g
    | .inr v => ∃ g, Fr (sPq k) h g ∧ MT g len bs (nx len bs t) ∧ gI g (7, 0, 26) k = iZ v ∧ (∀ j, gJ g (7, 0, 29) j = gJ h (7, 0, 29) j) ∧ gI g (7, 0, 0) 9 = gI h (7, 0, 0) 9 ∧ ∀ F : HD → Option HD, ((jX9_number (iZ a) (iZ b) h).bind fun q => if inB (iZ k) 60 = true then lt (sI q.2 (7, 0, 26) (iZ k).toNatClampNeg q.1) F else none) = F g := by
  have num := m_number hM a0 a1 b0 b1
  have ek : (iZ k).toNatClampNeg = k := by rw [iZ_nat (by omega) (by omega), Int.toNat_natCast]
  have ib : inB (iZ k) 60 = true := inB_t (by omega) (by omega) (by omega)
  cases hv : numP t a b with
  | inl er =>
    rw [hv] at num
    obtain ⟨c, p⟩ := er
    obtain ⟨w, g, e, f, r, hc⟩ := num
    refine ⟨sI g (7, 0, 26) k w, (sME_Pm f).sI (sPq_26 k) _, ⟨(gI_ne _ (by decide) _ _ _).trans r.1, (gI_ne _ (by decide) _ _ _).trans r.2⟩, hc, fun F => ?_⟩
    rw [e, Option.bind_some, ib, if_pos rfl, lt_eq, ek]
  | inr v =>
    rw [hv] at num
    obtain ⟨g, e, f, k2⟩ := num
    refine ⟨sI g (7, 0, 26) k (iZ v), (sRd_Pm f).sI (sPq_26 k) _, k2.fr (S := fun r _ => decide (r = (7, 0, 26))) (Fr.rf.sI rfl _) (fun _ => rfl) rfl rfl rfl rfl rfl rfl rfl, gI_self _ _ _ _, fun j => f.2.1 _ _ rfl, (gI_ne _ (by decide) _ _ _).trans (f.1 _ _ rfl), fun F => ?_⟩
    rw [e, Option.bind_some, ib, if_pos rfl, lt_eq, ek]
def RV0 (p1 p2 : Int32) (h : HD) : Option HD := (if p2 = 0 then (jX9_number (0 : Int32) (999 : Int32) h).bind fun q1 =>
  if inB p1 60 = true then lt (sI q1.2 (7, 0, 26) p1.toNatClampNeg q1.1) fun h2 =>
  (if p2 = (8 : Int32) then (jX9_number (1 : Int32) (20 : Int32) h2).bind fun q4 =>
  if inB p1 60 = true then lt (sI q4.2 (7, 0, 26) p1.toNatClampNeg q4.1) fun h5 =>
  (jX9_mustSign (40 : Int32) h5).bind fun q7 =>
  some q7 else none else some h2) else none else (if p2 = (1 : Int32) then (jX9_number (0 : Int32) (999 : Int32) h).bind fun q8 =>
  if inB p1 60 = true then lt (sI q8.2 (7, 0, 26) p1.toNatClampNeg q8.1) fun h9 =>
  (if p2 = (8 : Int32) then (jX9_number (1 : Int32) (20 : Int32) h9).bind fun q11 =>
  if inB p1 60 = true then lt (sI q11.2 (7, 0, 26) p1.toNatClampNeg q11.1) fun h12 =>
  (jX9_mustSign (40 : Int32) h12).bind fun q14 =>
  some q14 else none else some h9) else none else (if p2 = (4 : Int32) then (jX9_number (0 : Int32) (999 : Int32) h).bind fun q15 =>
  if inB p1 60 = true then lt (sI q15.2 (7, 0, 26) p1.toNatClampNeg q15.1) fun h16 =>
  (if p2 = (8 : Int32) then (jX9_number (1 : Int32) (20 : Int32) h16).bind fun q18 =>
  if inB p1 60 = true then lt (sI q18.2 (7, 0, 26) p1.toNatClampNeg q18.1) fun h19 =>
  (jX9_mustSign (40 : Int32) h19).bind fun q21 =>
  some q21 else none else some h16) else none else (if p2 = (5 : Int32) then (jX9_number (0 : Int32) (999 : Int32) h).bind fun q26 =>
  if inB p1 60 = true then lt (sI q26.2 (7, 0, 26) p1.toNatClampNeg q26.1) fun h27 =>
  (if p2 = (8 : Int32) then (jX9_number (1 : Int32) (20 : Int32) h27).bind fun q29 =>
  if inB p1 60 = true then lt (sI q29.2 (7, 0, 26) p1.toNatClampNeg q29.1) fun h30 =>
  (jX9_mustSign (40 : Int32) h30).bind fun q32 =>
  some q32 else none else some h27) else none else (if p2 = (8 : Int32) then (jX9_number (1 : Int32) (20 : Int32) h).bind fun q22 =>
  if inB p1 60 = true then lt (sI q22.2 (7, 0, 26) p1.toNatClampNeg q22.1) fun h23 =>
  (jX9_mustSign (40 : Int32) h23).bind fun q25 =>
  some q25 else none else some h)))))
theorem readsRest_eq (p1 p2 : Int32) (h : HD) : jX9_readsRest p1 p2 h = (if (jX9_isIn p2.toInt64 (0 : Int64) (3 : Int64) h) = true then (jX9_nameHere h).bind fun q33 => if inB p1 60 = true then lt (sJ q33.2 (7, 0, 29) p1.toNatClampNeg q33.1) fun h34 => RV0 p1 p2 h34 else none else RV0 p1 p2 h) := rfl
/-- the number is stored, and "(" behind that of a repeat -/
def RVs (p1 : Int32) (op : Nat) (h : HD) : Option HD := if op = 8 then ((jX9_number (1 : Int32) (20 : Int32) h).bind fun q => if inB p1 60 = true then lt (sI q.2 (7, 0, 26) p1.toNatClampNeg q.1) fun h23 => (jX9_mustSign (40 : Int32) h23).bind fun q25 => some q25 else none) else if hasV op = true then ((jX9_number (0 : Int32) (999 : Int32) h).bind fun q => if inB p1 60 = true then lt (sI q.2 (7, 0, 26) p1.toNatClampNeg q.1) fun h2 => some h2 else none) else some h
theorem RV0_eq (p1 : Int32) {op : Nat} (ho : op ≤ 8) (h : HD) : RV0 p1 (iZ op) h = RVs p1 op h := by
  have c : op = 0 ∨ op = 1 ∨ op = 2 ∨ op = 3 ∨ op = 4 ∨ op = 5 ∨ op = 6 ∨ op = 7 ∨ op = 8 := by omega
  rcases c with e | e | e | e | e | e | e | e | e <;> subst e <;> rfl
theorem b_RVs {c p : Int} {op k : Nat} (hk : k < 60) (hE : ErM h c p) (hc : c = 1 ∨ c = 2 ∨ c = 3 ∨ c = 5) : ∃ g, RVs (iZ k) op h = some g ∧ Fr (sPq k) h g ∧ ErM g c p := by
  have hg : jX9_isGood h = false := hE.g (by omega)
  have ek : (iZ k).toNatClampNeg = k := by rw [iZ_nat (by omega) (by omega), Int.toNat_natCast]
  have ib : inB (iZ k) 60 = true := inB_t (by omega) (by omega) (by omega)
  have e3 : ∀ a b, jX9_number a b h = some (gI h (7, 0, 0) 7, h) := fun a b => by
    unfold jX9_number jX9_looks
    rw [hg, if_neg Bool.false_ne_true, if_neg Bool.false_ne_true, Option.bind_some]
    show (if jX9_isGood h = true then _ else _) = _
    rw [hg, if_neg Bool.false_ne_true]
  have E2 : ErM (sI h (7, 0, 26) k (gI h (7, 0, 0) 7)) c p := ⟨(gI_ne _ (by decide) _ _ _).trans hE.1, (gI_ne _ (by decide) _ _ _).trans hE.2⟩
  unfold RVs
  by_cases q8 : op = 8
  · rw [if_pos q8]
    refine ⟨sI h (7, 0, 26) k (gI h (7, 0, 0) 7), ?_, Fr.rf.sI (sPq_26 k) _, E2⟩
    rw [e3, Option.bind_some, ib, if_pos rfl, lt_eq, ek, b_mustSign (E2.g (by omega))]
    rfl
  · rw [if_neg q8]
    by_cases qv : hasV op = true
    · rw [if_pos qv]
      refine ⟨sI h (7, 0, 26) k (gI h (7, 0, 0) 7), ?_, Fr.rf.sI (sPq_26 k) _, E2⟩
      rw [e3, Option.bind_some, ib, if_pos rfl, lt_eq, ek]
    · rw [if_neg qv]
      exact ⟨h, rfl, Fr.rf, hE⟩
/-- the number of a command; t1 is the token ahead -/
theorem m_RVs {op k : Nat} (ho : op ≤ 8) (hk : k < 60) (hM : MT h len bs (nx len bs t)) : match (match vlP len bs op t with | .inl e => .inl e | .inr (v, t2) => if op = 8 then (match mkP (nx len bs t2) 40 with | .inl e => .inl e | .inr _ => .inr (v, nx len bs t2)) else .inr (v, t2) : Rd (Int × Tok)) with
    | .inl (c, p) => ∃ g, RVs (iZ k) op h = some g ∧ Fr (sPq k) h g ∧ ErM g c p ∧ (c = 1 ∨ c = 2)
    | .inr (v, t2) => ∃ g, RVs (iZ k) op h = some g ∧ Fr (sPq k) h g ∧ MT g len bs (nx len bs t2) ∧ (hasV op = true → gI g (7, 0, 26) k = iZ v) ∧ (∀ j, gJ g (7, 0, 29) j = gJ h (7, 0, 29) j) ∧ gI g (7, 0, 0) 9 = gI h (7, 0, 0) 9 := by
  unfold RVs vlP
  by_cases q8 : op = 8
  · have hv8 : hasV op = true := by rw [q8]; rfl
    rw [if_pos q8, if_pos hv8, if_pos q8, if_pos q8]
    have ns := m_numS (k := k) hk hM (a := 1) (b := 20) (by decide) (by decide) (by decide) (by decide)
    cases hv : numP (nx len bs t) 1 20 with
    | inl er =>
      rw [hv] at ns
      obtain ⟨c, p⟩ := er
      obtain ⟨g, f, r, hc, eF⟩ := ns
      refine ⟨g, ?_, f, r, hc⟩
      rw [i1, i20, eF, b_mustSign (r.g (by omega))]
      rfl
    | inr v =>
      rw [hv] at ns
      obtain ⟨g, f, k2, v26, n29, n9, eF⟩ := ns
      have ms := m_mustSign k2 (c := 40) (by decide) (by decide)
      show match (if op = 8 then (match mkP (nx len bs (nx len bs t)) 40 with | .inl e => .inl e | .inr _ => .inr (v, nx len bs (nx len bs t))) else .inr (v, nx len bs t) : Rd (Int × Tok)) with | .inl (c, p) => _ | .inr (v, t2) => _
      rw [if_pos q8]
      unfold mkP
      by_cases q4 : isMk (nx len bs (nx len bs t)) 40
      · rw [if_pos q4]
        obtain ⟨g2, e2, f2, k3⟩ := ms.1 q4
        refine ⟨g2, ?_, f.tr (sRd_Pm f2), k3, fun _ => (f2.1 _ _ rfl).trans v26, fun j => (f2.2.1 _ _ rfl).trans (n29 j), (f2.1 _ _ rfl).trans n9⟩
        rw [i1, i20, eF, show (40 : Int32) = iZ 40 from rfl, e2]
        rfl
      · rw [if_neg q4]
        obtain ⟨g2, e2, f2, k3⟩ := ms.2 q4
        refine ⟨g2, ?_, f.tr (sME_Pm f2), k3, Or.inl rfl⟩
        rw [i1, i20, eF, show (40 : Int32) = iZ 40 from rfl, e2]
        rfl
  · rw [if_neg q8]
    by_cases qv : hasV op = true
    · rw [if_pos qv, if_pos qv, if_neg q8, if_neg q8]
      have ns := m_numS (k := k) hk hM (a := 0) (b := 999) (by decide) (by decide) (by decide) (by decide)
      cases hv : numP (nx len bs t) 0 999 with
      | inl er =>
        rw [hv] at ns
        obtain ⟨c, p⟩ := er
        obtain ⟨g, f, r, hc, eF⟩ := ns
        refine ⟨g, ?_, f, r, hc⟩
        rw [i0, i999, eF]
      | inr v =>
        rw [hv] at ns
        obtain ⟨g, f, k2, v26, n29, n9, eF⟩ := ns
        show match (if op = 8 then (match mkP (nx len bs (nx len bs t)) 40 with | .inl e => .inl e | .inr _ => .inr (v, nx len bs (nx len bs t))) else .inr (v, nx len bs t) : Rd (Int × Tok)) with | .inl (c, p) => _ | .inr (v, t2) => _
        rw [if_neg q8]
        refine ⟨g, ?_, f, k2, fun _ => v26, n29, n9⟩
        rw [i0, i999, eF]
    · rw [if_neg qv, if_neg qv]
      show match (if op = 8 then (match mkP (nx len bs t) 40 with | .inl e => .inl e | .inr _ => .inr (0, nx len bs t)) else .inr (0, t) : Rd (Int × Tok)) with | .inl (c, p) => _ | .inr (v, t2) => _
      rw [if_neg q8]
      exact ⟨h, if_neg q8, Fr.rf, hM, fun c => absurd c qv, fun _ => rfl, rfl⟩
/-- name, number, and "(" behind a repeat -/
def arQ (len : Int) (bs : Int → Int) (op : Nat) (t : Tok) : Rd (Cm × Tok) := match arP len bs op t with
  | .inl e => .inl e
  | .inr (c, t1) => if op = 8 then (match mkP (nx len bs t1) 40 with | .inl e => .inl e | .inr _ => .inr (c, nx len bs t1)) else .inr (c, t1)
theorem m_rest {op k : Nat} (ho : op ≤ 8) (hk : k < 60) (hM : MT h len bs (nx len bs t)) : match arQ len bs op t with
    | .inl (c, p) => ∃ g, jX9_readsRest (iZ k) (iZ op) h = some g ∧ Fr (sPq k) h g ∧ ErM g c p ∧ (c = 1 ∨ c = 2)
    | .inr (c, t2) => ∃ g, jX9_readsRest (iZ k) (iZ op) h = some g ∧ Fr (sPq k) h g ∧ MT g len bs (nx len bs t2) ∧ (op ≤ 3 → gJ g (7, 0, 29) k = jZ (eM c.2.1)) ∧ (hasV op = true → gI g (7, 0, 26) k = iZ c.2.2) ∧ gI g (7, 0, 0) 9 = gI h (7, 0, 0) 9 := by
  have ek : (iZ k).toNatClampNeg = k := by rw [iZ_nat (by omega) (by omega), Int.toNat_natCast]
  have ib : inB (iZ k) 60 = true := inB_t (by omega) (by omega) (by omega)
  have isin : jX9_isIn (iZ op).toInt64 (0 : Int64) (3 : Int64) h = decide (op ≤ 3) := by
    rw [iZ_j (by omega) (by omega), show (0 : Int64) = jZ 0 from rfl, show (3 : Int64) = jZ 3 from rfl, jZ_is (by omega) (by omega) (by omega) (by omega) (by omega) (by omega)]
    by_cases q : op ≤ 3
    · rw [decide_eq_true q, decide_eq_true (by omega)]
    · rw [decide_eq_false q, decide_eq_false (by omega)]
  rw [readsRest_eq, isin, RV0_eq _ ho]
  -- behind the name
  have tail : ∀ (g : HD) (t1 : Tok) (ks : List Nat), MT g len bs (nx len bs t1) → Fr (sPq k) h g → (op ≤ 3 → gJ g (7, 0, 29) k = jZ (eM ks)) → gI g (7, 0, 0) 9 = gI h (7, 0, 0) 9 → (match (match (match vlP len bs op t1 with | .inl e => .inl e | .inr (v, t2) => .inr ((op, ks, v), t2) : Rd (Cm × Tok)) with | .inl e => .inl e | .inr (c, t1) => if op = 8 then (match mkP (nx len bs t1) 40 with | .inl e => .inl e | .inr _ => .inr (c, nx len bs t1)) else .inr (c, t1) : Rd (Cm × Tok)) with
    | .inl (c, p) => ∃ g2, RVs (iZ k) op g = some g2 ∧ Fr (sPq k) h g2 ∧ ErM g2 c p ∧ (c = 1 ∨ c = 2)
    | .inr (c, t2) => ∃ g2, RVs (iZ k) op g = some g2 ∧ Fr (sPq k) h g2 ∧ MT g2 len bs (nx len bs t2) ∧ (op ≤ 3 → gJ g2 (7, 0, 29) k = jZ (eM c.2.1)) ∧ (hasV op = true → gI g2 (7, 0, 26) k = iZ c.2.2) ∧ gI g2 (7, 0, 0) 9 = gI h (7, 0, 0) 9) := by
    intro g t1 ks k1 f1 n1 n9
    have rv := m_RVs (op := op) ho hk k1
    cases hv : vlP len bs op t1 with
    | inl er =>
      rw [hv] at rv
      obtain ⟨c, p⟩ := er
      obtain ⟨g2, e2, f2, r2, hc⟩ := rv
      exact ⟨g2, e2, f1.tr f2, r2, hc⟩
    | inr vt =>
      rw [hv] at rv
      obtain ⟨v, t2⟩ := vt
      replace rv : match (if op = 8 then (match mkP (nx len bs t2) 40 with | .inl e => .inl e | .inr _ => .inr (v, nx len bs t2)) else .inr (v, t2) : Rd (Int × Tok)) with
        | .inl (c, p) => ∃ g2, RVs (iZ k) op g = some g2 ∧ Fr (sPq k) g g2 ∧ ErM g2 c p ∧ (c = 1 ∨ c = 2)
        | .inr (v, t2) => ∃ g2, RVs (iZ k) op g = some g2 ∧ Fr (sPq k) g g2 ∧ MT g2 len bs (nx len bs t2) ∧ (hasV op = true → gI g2 (7, 0, 26) k = iZ v) ∧ (∀ j, gJ g2 (7, 0, 29) j = gJ g (7, 0, 29) j) ∧ gI g2 (7, 0, 0) 9 = gI g (7, 0, 0) 9 := rv
      show match (if op = 8 then (match mkP (nx len bs t2) 40 with | .inl e => .inl e | .inr _ => .inr ((op, ks, v), nx len bs t2)) else .inr ((op, ks, v), t2) : Rd (Cm × Tok)) with | .inl (c, p) => _ | .inr (c, t2) => _
      by_cases q8 : op = 8
      · rw [if_pos q8] at rv ⊢
        cases hm : mkP (nx len bs t2) 40 with
        | inl er =>
          rw [hm] at rv
          obtain ⟨c, p⟩ := er
          obtain ⟨g2, e2, f2, r2, hc⟩ := rv
          exact ⟨g2, e2, f1.tr f2, r2, hc⟩
        | inr u =>
          rw [hm] at rv
          obtain ⟨g2, e2, f2, k2, b1, b2, b9⟩ := rv
          exact ⟨g2, e2, f1.tr f2, k2, fun c => (b2 k).trans (n1 c), b1, b9.trans n9⟩
      · rw [if_neg q8] at rv ⊢
        obtain ⟨g2, e2, f2, k2, b1, b2, b9⟩ := rv
        exact ⟨g2, e2, f1.tr f2, k2, fun c => (b2 k).trans (n1 c), b1, b9.trans n9⟩
  unfold arQ arP nmP
  by_cases q : op ≤ 3
  · rw [decide_eq_true q, if_pos rfl, if_pos q]
    have nm := m_nameHere hM
    by_cases q1 : (nx len bs t).1 = 1
    · obtain ⟨g1, e1, f1, k1⟩ := nm.1 q1
      rw [if_pos q1, e1, Option.bind_some, ib, if_pos rfl, lt_eq, ek]
      show match (match (match vlP len bs op (nx len bs t) with | .inl e => .inl e | .inr (v, t2) => .inr ((op, (nx len bs t).2.2.2.1, v), t2) : Rd (Cm × Tok)) with | .inl e => .inl e | .inr (c, t1) => if op = 8 then (match mkP (nx len bs t1) 40 with | .inl e => .inl e | .inr _ => .inr (c, nx len bs t1)) else .inr (c, t1) : Rd (Cm × Tok)) with | .inl (c, p) => ∃ g2, RV0 (iZ k) (iZ op) (sJ g1 (7, 0, 29) k (jZ (eM (nx len bs t).2.2.2.1))) = some g2 ∧ _ | .inr (c, t2) => ∃ g2, RV0 (iZ k) (iZ op) (sJ g1 (7, 0, 29) k (jZ (eM (nx len bs t).2.2.2.1))) = some g2 ∧ _
      rw [RV0_eq _ ho]
      exact tail _ _ _ (k1.fr (S := fun r _ => decide (r = (7, 0, 29))) (Fr.rf.sJ rfl _) (fun _ => rfl) rfl rfl rfl rfl rfl rfl rfl) ((sRd_Pm f1).sJ (sPq_29 k) _) (fun _ => by rw [gJ_sJ, if_pos ⟨rfl, rfl⟩]) ((gI_sJ _ _ _ _ _ _).trans (f1.1 _ _ rfl))
    · obtain ⟨w, g1, e1, f1, k1⟩ := nm.2 q1
      rw [if_neg q1, e1, Option.bind_some, ib, if_pos rfl, lt_eq, ek]
      have k2 : ErM (sJ g1 (7, 0, 29) k w) 1 (nx len bs t).2.1 := k1
      obtain ⟨g2, e2, f2, r2⟩ := b_RVs (op := op) hk k2 (Or.inl rfl)
      refine ⟨g2, ?_, ((sME_Pm f1).sJ (sPq_29 k) _).tr f2, r2, Or.inl rfl⟩
      show RV0 (iZ k) (iZ op) (sJ g1 (7, 0, 29) k w) = _
      rw [RV0_eq _ ho]
      exact e2
  · rw [decide_eq_false q, if_neg Bool.false_ne_true, if_neg q]
    exact tail h t [] hM Fr.rf (fun c => absurd c q) rfl
end
