/-! a script is done: the class -/
def sX8 : Rf → Nat → Bool := fun r k => sA8 r k || (Nat.beq r.1 6 && Nat.beq r.2.2 0 && Nat.beq k 15)
theorem sA8_X8 {h h2 : HD} (hF : Fr sA8 h h2) : Fr sX8 h h2 := hF.mono fun r k q => by
  unfold sX8 at q
  exact (Bool.or_eq_false_iff.mp q).1
theorem CellC.x8 {h g : HD} {i : Int} {c : Cm} {bh : Int} (hc : CellC h i c bh) (hF : Fr sX8 h g) : CellC g i c bh := hc.keep (hF.oO _) (hF.2.1 _ _ rfl) (hF.1 _ _ rfl) (hF.1 _ _ rfl)
/-- how many commands there are, at least m -/
def HN (h : HD) (m : Int) : Prop := ∃ n, gI h (3, 0, 0) 6 = iZ n ∧ m ≤ n ∧ n ≤ 30
theorem HN.x8 {h g : HD} {m : Int} (hn : HN h m) (hF : Fr sX8 h g) : HN g m := by
  obtain ⟨n, a, b, c⟩ := hn
  exact ⟨n, (hF.1 _ _ rfl).trans a, b, c⟩
section
variable {h : HD} {i m bh : Int} {c : Cm}
theorem x5_has (hn : HN h m) (i0' : 0 ≤ i) (im : i < m) : jX5_has (iZ i) h = true := by
  obtain ⟨n, a, b, b2⟩ := hn
  unfold jX5_has
  rw [a, i0, if_neg (lt_n (by omega) (by omega) (by omega)), if_neg (le_n (by omega) (by omega) (by omega)), show (30 : Int32) = iZ 30 from rfl, if_neg (le_n (by omega) (by omega) (by omega))]
theorem x5_in (hn : HN h m) (i0' : 0 ≤ i) (im : i < m) : inB (iZ i) 30 = true ∧ (iZ i).toNatClampNeg = i.toNat := by
  obtain ⟨n, a, b, b2⟩ := hn
  exact ⟨inB_t (by omega) (by omega) (by omega), iZ_nat (by omega) (by omega)⟩
theorem x5_command (hc : CellC h i c bh) (hn : HN h m) (i0' : 0 ≤ i) (im : i < m) : jX5_commandAt (iZ i) h = some (some (opC c.1)) := by
  obtain ⟨e1, e2⟩ := x5_in hn i0' im
  have := (opC_facts c.1 (by have := hc.2.2.2.2.1; omega)).1
  unfold jX5_commandAt
  rw [x5_has hn i0' im, if_pos rfl, e1, if_pos rfl, e2, hc.1]
  show (if opC c.1 < 9 then _ else _) = _
  rw [if_pos this]
theorem x5_number (hc : CellC h i c bh) (hn : HN h m) (i0' : 0 ≤ i) (im : i < m) : jX5_numberAt (iZ i) h = some (iZ c.2.2) := by
  obtain ⟨e1, e2⟩ := x5_in hn i0' im
  unfold jX5_numberAt
  rw [x5_has hn i0' im, if_pos rfl, e1, if_pos rfl, e2, hc.2.2.1]
theorem x5_name (hc : CellC h i c bh) (hn : HN h m) (i0' : 0 ≤ i) (im : i < m) : jX5_nameAt (iZ i) h = some (jZ (eC c.2.1)) := by
  obtain ⟨e1, e2⟩ := x5_in hn i0' im
  unfold jX5_nameAt
  rw [x5_has hn i0' im, if_pos rfl, e1, if_pos rfl, e2, hc.2.1]
theorem x5_behind (hc : CellC h i c bh) (hn : HN h m) (i0' : 0 ≤ i) (im : i < m) (ib : i < bh) (b1 : bh ≤ 1000) : jX5_behind (iZ i) h = some (iZ bh) := by
  obtain ⟨e1, e2⟩ := x5_in hn i0' im
  obtain ⟨n, a, b, b2⟩ := hn
  unfold jX5_behind
  rw [x5_has ⟨n, a, b, b2⟩ i0' im, if_pos rfl, e1, if_pos rfl, e2, hc.2.2.2.1, if_neg (le_n (by omega) (by omega) (by omega)), if_pos rfl]
end
def DX (k2 : Nat) (q4 q6 p1 : Int32) (h : HD) : Option (Bool × HD) := if inB (cmO k2) 9 = true then (if (SWM.getD (cmO k2).toNatClampNeg 0) = 1 then (if q6 = (-1 : Int32) then some (false, h) else (if (jX2_hasSpot 0 q4 h) = true then (jX8_doPrefer q6 q4 h).bind fun q8 =>
  (if q8.1 = true then some (true, q8.2) else some (false, q8.2)) else some (false, h))) else if (SWM.getD (cmO k2).toNatClampNeg 0) = 2 then (if q6 = (-1 : Int32) then some (false, h) else (jX8_doSwap q6 h).bind fun q10 =>
  (if q10.1 = true then some (true, q10.2) else some (false, q10.2))) else if (SWM.getD (cmO k2).toNatClampNeg 0) = 3 then (if (jX8_isTurn q4 h) = true then (jX8_doTurn q4 h).bind fun q12 =>
  (if q12.1 = true then some (true, q12.2) else some (false, q12.2)) else some (false, h)) else if (SWM.getD (cmO k2).toNatClampNeg 0) = 4 then (if (jX8_isBack q4 h) = true then (jX8_doSetBack q4 h).bind fun q14 =>
  (if q14.1 = true then some (true, q14.2) else some (false, q14.2)) else some (false, h)) else if (SWM.getD (cmO k2).toNatClampNeg 0) = 5 then (if (jX8_canComeTo q4 h) = true then (jX5_nameAt p1 h).bind fun q16 =>
  (jX8_doCome q16 q4 h).bind fun q17 =>
  (if q17.1 = true then some (true, q17.2) else some (false, q17.2)) else some (false, h)) else if (SWM.getD (cmO k2).toNatClampNeg 0) = 6 then (if q6 = (-1 : Int32) then some (false, h) else (jX8_doGo q6 h).bind fun q19 =>
  (if q19.1 = true then some (true, q19.2) else some (false, q19.2))) else if (SWM.getD (cmO k2).toNatClampNeg 0) = 7 then (jX8_doSort h).bind fun q21 =>
  (if q21.1 < 0 then some (false, q21.2) else some (true, q21.2)) else if (SWM.getD (cmO k2).toNatClampNeg 0) = 8 then (jX8_doReverse h).bind fun q23 =>
  some (q23.1, q23.2) else some (false, h)) else none
theorem doCommand_eq (p1 : Int32) (h : HD) : jX8_doCommand p1 h = (jX5_commandAt p1 h).bind fun q1 => oc (q1) (some (false, h)) (fun k2 => if k2 < 9 then (jX5_numberAt p1 h).bind fun q4 => (jX5_nameAt p1 h).bind fun q5 => (jX2_carNamed 0 q5 h).bind fun q6 => DX k2 q4 q6 p1 h else none) := rfl
theorem x8_canCome {h : HD} {R : Row} {v : Int} (hC : RwC h 0 R) (hn : 0 ≤ R.1 ∧ R.1 ≤ 11) (v1 : -2147483648 ≤ v) (v2 : v < 2147483648) : jX8_canComeTo (iZ v) h = decide (0 ≤ v ∧ v ≤ R.1 + 1) := by
  have hc1 : gI h (1, 0, 0) 2 = iZ R.1 := hC.1.1
  unfold jX8_canComeTo jX2_spots
  rw [hc1, i0, i1, iZ_add]
  by_cases q1 : v < 0
  · rw [if_pos (lt_y (by omega) (by omega) (by omega)), decide_eq_false (by omega)]
  · rw [if_neg (lt_n (by omega) (by omega) (by omega))]
    by_cases q2 : R.1 + 1 < v
    · rw [if_pos (lt_y (by omega) (by omega) (by omega)), decide_eq_false (by omega)]
    · rw [if_neg (lt_n (by omega) (by omega) (by omega)), decide_eq_true (by omega)]
theorem srN_in {n : Int} {pf : Int → Int} (hn : 0 ≤ n) : 0 ≤ srN n pf n ∧ srN n pf n ≤ n := by
  have := sm_bound (f := fun c => b1 (!decide (rkN n pf c = c))) (m := 1) hn (fun c _ _ => b1_in _)
  unfold srN
  omega
/-- a command that the class does -/
theorem c_do {h : HD} {i m bh : Int} {c : Cm} {s : S3} (hc : CellC h i c bh) (h8 : c.1 < 8) (hN : HN h m) (i0' : 0 ≤ i) (im : i < m) (hS : SC h s) (hok : RwOk s.1) : ∃ g, jX8_doCommand (iZ i) h = some ((doC c s).1, g) ∧ Fr sA8 h g ∧ SC g (doC c s).2 := by
  obtain ⟨⟨n, b, pf, nm⟩, a, rf⟩ := s
  have ho : PrOk n b pf := hok.1
  have hn : 0 ≤ n ∧ n ≤ 11 := ⟨ho.1, ho.2.1⟩
  have okc := hc.2.2.2.2
  obtain ⟨op, k, v⟩ := c
  obtain ⟨-, kz, kn, v0, v1⟩ := okc
  replace kz : NmZ k := kz
  replace kn : op ≤ 3 → NmOk k := kn
  replace v0 : 0 ≤ v := v0
  replace v1 : v ≤ 999 := v1
  replace h8 : op < 8 := h8
  have hC : RwC h 0 (n, b, pf, nm) := hS.1
  have o9 := (opC_facts op (by omega)).1
  obtain ⟨z, hz⟩ : ∃ z, cnN (n, b, pf, nm) k = z := ⟨_, rfl⟩
  have hzi := cnN_in (R := (n, b, pf, nm)) (k := k) hn.1
  rw [hz] at hzi
  replace hzi : -1 ≤ z ∧ z < n ∨ z = -1 := hzi
  have st : jX8_doCommand (iZ i) h = DX (opC op) (iZ v) (iZ z) (iZ i) h := by
    rw [doCommand_eq, x5_command hc hN i0' im, Option.bind_some]
    show (if opC op < 9 then _ else _) = _
    rw [if_pos o9, x5_number hc hN i0' im, Option.bind_some, x5_name hc hN i0' im, Option.bind_some]
    show (jX2_carNamed 0 (jZ (eC k)) h).bind _ = _
    rw [x2_carNamed hC hok kz, hz]
    rfl
  rw [st]
  have nope : ∃ g, some (false, h) = some (false, g) ∧ Fr sA8 h g ∧ SC g ((n, b, pf, nm), a, rf) := ⟨h, rfl, Fr.rf, hS⟩
  have ite_b : ∀ (x : Bool) (g : HD), (if x = true then some (true, g) else some (false, g)) = some (x, g) := fun x g => by cases x <;> rfl
  have nz : ¬ z = -1 → ¬ iZ z = (-1 : Int32) := fun q => eq_n (b := -1) (by omega) (by omega) (by omega) (by omega) (by omega)
  have yz : z = -1 → iZ z = (-1 : Int32) := fun q => by rw [q]; rfl
  unfold doC
  have nq : ∀ a b : Nat, a ≠ b → ¬ ((a, k, v) : Cm).1 = b := fun a b h => h
  have cs : op = 0 ∨ op = 1 ∨ op = 2 ∨ op = 3 ∨ op = 4 ∨ op = 5 ∨ op = 6 ∨ op = 7 := by omega
  rcases cs with e | e | e | e | e | e | e | e
  · subst e
    rw [if_pos rfl]
    show ∃ g, (if iZ z = (-1 : Int32) then some (false, h) else (if (jX2_hasSpot 0 (iZ v) h) = true then (jX8_doPrefer (iZ z) (iZ v) h).bind fun q8 => (if q8.1 = true then some (true, q8.2) else some (false, q8.2)) else some (false, h))) = some ((if cnN (n, b, pf, nm) k = -1 then (false, ((n, b, pf, nm), a, rf)) else if 0 ≤ v ∧ v ≤ n then (true, ((n, b, updP pf (cnN (n, b, pf, nm) k) v, nm), bmp 0 a, rf)) else (false, ((n, b, pf, nm), a, rf)) : Bool × S3).1, g) ∧ Fr sA8 h g ∧ SC g (if cnN (n, b, pf, nm) k = -1 then (false, ((n, b, pf, nm), a, rf)) else if 0 ≤ v ∧ v ≤ n then (true, ((n, b, updP pf (cnN (n, b, pf, nm) k) v, nm), bmp 0 a, rf)) else (false, ((n, b, pf, nm), a, rf)) : Bool × S3).2
    rw [hz]
    by_cases q : z = -1
    · rw [if_pos (yz q), if_pos q]; exact nope
    · rw [if_neg (nz q), if_neg q, x2_hasSpot hC.1 hn (by omega) (by omega)]
      by_cases q2 : 0 ≤ v ∧ v ≤ n
      · rw [decide_eq_true q2, if_pos rfl, if_pos q2]
        obtain ⟨g, e, f, s⟩ := d8_prefer (z := z) (v := v) hS hn (by omega) (by omega)
        exact ⟨g, by rw [e, Option.bind_some]; exact ite_b _ _, f, s⟩
      · rw [decide_eq_false q2, if_neg Bool.false_ne_true, if_neg q2]; exact nope
  · subst e
    rw [if_neg (nq _ _ (by decide)), if_pos rfl]
    show ∃ g, (if (jX8_canComeTo (iZ v) h) = true then (jX5_nameAt (iZ i) h).bind fun q16 => (jX8_doCome q16 (iZ v) h).bind fun q17 => (if q17.1 = true then some (true, q17.2) else some (false, q17.2)) else some (false, h)) = some ((if 0 ≤ v ∧ v ≤ n + 1 then (decide (n < 11 ∧ k ≠ [] ∧ cnN (n, b, pf, nm) k = -1), (if n < 11 then (if k ≠ [] ∧ cnN (n, b, pf, nm) k = -1 then (comR (n, b, pf, nm) k v, bmp 2 (bmp 0 a), rf) else ((n, b, pf, nm), bmp 1 a, 2)) else ((n, b, pf, nm), bmp 1 a, 1))) else (false, ((n, b, pf, nm), a, rf)) : Bool × S3).1, g) ∧ Fr sA8 h g ∧ SC g (if 0 ≤ v ∧ v ≤ n + 1 then (decide (n < 11 ∧ k ≠ [] ∧ cnN (n, b, pf, nm) k = -1), (if n < 11 then (if k ≠ [] ∧ cnN (n, b, pf, nm) k = -1 then (comR (n, b, pf, nm) k v, bmp 2 (bmp 0 a), rf) else ((n, b, pf, nm), bmp 1 a, 2)) else ((n, b, pf, nm), bmp 1 a, 1))) else (false, ((n, b, pf, nm), a, rf)) : Bool × S3).2
    rw [x8_canCome hC hn (by omega) (by omega)]
    by_cases q2 : 0 ≤ v ∧ v ≤ n + 1
    · rw [decide_eq_true (show 0 ≤ v ∧ v ≤ (n, b, pf, nm).1 + 1 from q2), if_pos rfl, if_pos q2, x5_name hc hN i0' im, Option.bind_some]
      obtain ⟨g, e, f, s⟩ := d8_come (v := v) hS hok kz
      refine ⟨g, ?_, f, s⟩
      show (jX8_doCome (jZ (eC k)) (iZ v) h).bind _ = _
      rw [e, Option.bind_some]
      exact ite_b _ _
    · rw [decide_eq_false (show ¬ (0 ≤ v ∧ v ≤ (n, b, pf, nm).1 + 1) from q2), if_neg Bool.false_ne_true, if_neg q2]; exact nope
  · subst e
    rw [if_neg (nq _ _ (by decide)), if_neg (nq _ _ (by decide)), if_pos rfl]
    show ∃ g, (if iZ z = (-1 : Int32) then some (false, h) else (jX8_doSwap (iZ z) h).bind fun q10 => (if q10.1 = true then some (true, q10.2) else some (false, q10.2))) = some ((if cnN (n, b, pf, nm) k = -1 then (false, ((n, b, pf, nm), a, rf)) else (decide (cnN (n, b, pf, nm) k + 1 < n), (if cnN (n, b, pf, nm) k + 1 < n then (swR (n, b, pf, nm) (cnN (n, b, pf, nm) k) (cnN (n, b, pf, nm) k + 1), bmp 0 a, rf) else ((n, b, pf, nm), bmp 1 a, 3))) : Bool × S3).1, g) ∧ Fr sA8 h g ∧ SC g (if cnN (n, b, pf, nm) k = -1 then (false, ((n, b, pf, nm), a, rf)) else (decide (cnN (n, b, pf, nm) k + 1 < n), (if cnN (n, b, pf, nm) k + 1 < n then (swR (n, b, pf, nm) (cnN (n, b, pf, nm) k) (cnN (n, b, pf, nm) k + 1), bmp 0 a, rf) else ((n, b, pf, nm), bmp 1 a, 3))) : Bool × S3).2
    rw [hz]
    by_cases q : z = -1
    · rw [if_pos (yz q), if_pos q]; exact nope
    · rw [if_neg (nz q), if_neg q]
      obtain ⟨g, e, f, s⟩ := d8_swap (z := z) hS hn (by omega) (by omega)
      exact ⟨g, by rw [e, Option.bind_some]; exact ite_b _ _, f, s⟩
  · subst e
    rw [if_neg (nq _ _ (by decide)), if_neg (nq _ _ (by decide)), if_neg (nq _ _ (by decide)), if_pos rfl]
    show ∃ g, (if iZ z = (-1 : Int32) then some (false, h) else (jX8_doGo (iZ z) h).bind fun q19 => (if q19.1 = true then some (true, q19.2) else some (false, q19.2))) = some ((if cnN (n, b, pf, nm) k = -1 then (false, ((n, b, pf, nm), a, rf)) else @ite _ (gB n pf (cnN (n, b, pf, nm) k)) (Classical.propDecidable _) (false, ((n, b, pf, nm), bmp 1 a, 4)) (true, (goR (n, b, pf, nm) (cnN (n, b, pf, nm) k), bmp 3 (bmp 0 a), rf)) : Bool × S3).1, g) ∧ Fr sA8 h g ∧ SC g (if cnN (n, b, pf, nm) k = -1 then (false, ((n, b, pf, nm), a, rf)) else @ite _ (gB n pf (cnN (n, b, pf, nm) k)) (Classical.propDecidable _) (false, ((n, b, pf, nm), bmp 1 a, 4)) (true, (goR (n, b, pf, nm) (cnN (n, b, pf, nm) k), bmp 3 (bmp 0 a), rf)) : Bool × S3).2
    rw [hz]
    by_cases q : z = -1
    · rw [if_pos (yz q), if_pos q]; exact nope
    · rw [if_neg (nz q), if_neg q]
      have dg := d8_go (z := z) hS hok (by omega) (by show z < n; omega)
      by_cases q3 : gB n pf z
      · rw [if_pos q3]
        obtain ⟨g, e, f, s⟩ := dg.1 q3
        exact ⟨g, by rw [e, Option.bind_some]; exact ite_b _ _, f, s⟩
      · rw [if_neg q3]
        obtain ⟨g, e, f, s⟩ := dg.2 q3
        exact ⟨g, by rw [e, Option.bind_some]; exact ite_b _ _, f, s⟩
  · subst e
    rw [if_neg (nq _ _ (by decide)), if_neg (nq _ _ (by decide)), if_neg (nq _ _ (by decide)), if_neg (nq _ _ (by decide)), if_pos rfl]
    show ∃ g, (if (jX8_isTurn (iZ v) h) = true then (jX8_doTurn (iZ v) h).bind fun q12 => (if q12.1 = true then some (true, q12.2) else some (false, q12.2)) else some (false, h)) = some ((if 0 ≤ v ∧ v ≤ 99 then (true, ((n, b, tuF n v pf n, nm), bmp 0 a, rf)) else (false, ((n, b, pf, nm), a, rf)) : Bool × S3).1, g) ∧ Fr sA8 h g ∧ SC g (if 0 ≤ v ∧ v ≤ 99 then (true, ((n, b, tuF n v pf n, nm), bmp 0 a, rf)) else (false, ((n, b, pf, nm), a, rf)) : Bool × S3).2
    rw [x8_isTurn h (by omega) (by omega)]
    by_cases q2 : 0 ≤ v ∧ v ≤ 99
    · rw [decide_eq_true q2, if_pos rfl, if_pos q2]
      obtain ⟨g, e, f, s⟩ := d8_turn (v := v) hS ho q2.1 q2.2
      exact ⟨g, by rw [e, Option.bind_some]; exact ite_b _ _, f, s⟩
    · rw [decide_eq_false q2, if_neg Bool.false_ne_true, if_neg q2]; exact nope
  · subst e
    rw [if_neg (nq _ _ (by decide)), if_neg (nq _ _ (by decide)), if_neg (nq _ _ (by decide)), if_neg (nq _ _ (by decide)), if_neg (nq _ _ (by decide)), if_pos rfl]
    show ∃ g, (if (jX8_isBack (iZ v) h) = true then (jX8_doSetBack (iZ v) h).bind fun q14 => (if q14.1 = true then some (true, q14.2) else some (false, q14.2)) else some (false, h)) = some ((if 0 ≤ v ∧ v ≤ 5 then (true, ((n, v, pf, nm), bmp 0 a, rf)) else (false, ((n, b, pf, nm), a, rf)) : Bool × S3).1, g) ∧ Fr sA8 h g ∧ SC g (if 0 ≤ v ∧ v ≤ 5 then (true, ((n, v, pf, nm), bmp 0 a, rf)) else (false, ((n, b, pf, nm), a, rf)) : Bool × S3).2
    rw [x8_isBack h (by omega) (by omega)]
    by_cases q2 : 0 ≤ v ∧ v ≤ 5
    · rw [decide_eq_true q2, if_pos rfl, if_pos q2]
      obtain ⟨g, e, f, s⟩ := d8_back (v := v) hS
      exact ⟨g, by rw [e, Option.bind_some]; exact ite_b _ _, f, s⟩
    · rw [decide_eq_false q2, if_neg Bool.false_ne_true, if_neg q2]; exact nope
  · subst e
    rw [if_neg (nq _ _ (by decide)), if_neg (nq _ _ (by decide)), if_neg (nq _ _ (by decide)), if_neg (nq _ _ (by decide)), if_neg (nq _ _ (by decide)), if_neg (nq _ _ (by decide)), if_pos rfl]
    show ∃ g, ((jX8_doSort h).bind fun q21 => (if q21.1 < 0 then some (false, q21.2) else some (true, q21.2))) = some (true, g) ∧ Fr sA8 h g ∧ SC g (srR (n, b, pf, nm) n, bmp 0 a, rf)
    obtain ⟨g, e, f, s⟩ := d8_sort hS hok
    have hr := srN_in (pf := pf) hn.1
    refine ⟨g, ?_, f, s⟩
    rw [e, Option.bind_some]
    exact if_neg (show ¬ iZ (srN n pf n) < 0 from lt_n (b := 0) hr.1 (by decide) (by omega))
  · subst e
    rw [if_neg (nq _ _ (by decide)), if_neg (nq _ _ (by decide)), if_neg (nq _ _ (by decide)), if_neg (nq _ _ (by decide)), if_neg (nq _ _ (by decide)), if_neg (nq _ _ (by decide)), if_neg (nq _ _ (by decide))]
    show ∃ g, ((jX8_doReverse h).bind fun q23 => some (q23.1, q23.2)) = some (true, g) ∧ Fr sA8 h g ∧ SC g (rvR (n, b, pf, nm) (n / 2), bmp 0 a, rf)
    obtain ⟨g, e, f, s⟩ := d8_rev hS hok
    exact ⟨g, by rw [e]; rfl, f, s⟩
/-! bodies -/
theorem oc_some {τ : Type} (k : Nat) (x : τ) (f : Nat → τ) : oc (some k) x f = f k := rfl
def dcL (rep : Int32 → Int32 → HD → Option (Bool × HD)) (p2 p3 : Int32) : Nat → Int32 → Int32 → HD → Option (Bool × HD)
  | 0, _, _, _ => none
  | n6 + 1, x4, x5, h => (if (30 : Int32) ≤ x5 then some (true, h) else (if p2 ≤ x4 then some (true, h) else (jX5_commandAt x4 h).bind fun q1 =>
  oc (q1) ((if (40 : Int32) ≤ (gI h (6, 0, 0) 15) then some (false, h) else (jX8_doCommand x4 h).bind fun q4 =>
  (if q4.1 = true then lt (sI q4.2 (6, 0, 0) 15 ((gI q4.2 (6, 0, 0) 15) + (1 : Int32))) fun h5 =>
  (jX5_behind x4 h5).bind fun q6 =>
  dcL rep p2 p3 n6 q6 (x5 + 1) h5 else some (false, q4.2)))) (fun k2 => if k2 < 9 then (if k2 = 8 then (rep x4 p3 h).bind fun q10 =>
  (if q10.1 = true then (jX5_behind x4 q10.2).bind fun q11 =>
  dcL rep p2 p3 n6 q11 (x5 + 1) q10.2 else some (false, q10.2)) else (if (40 : Int32) ≤ (gI h (6, 0, 0) 15) then some (false, h) else (jX8_doCommand x4 h).bind fun q7 =>
  (if q7.1 = true then lt (sI q7.2 (6, 0, 0) 15 ((gI q7.2 (6, 0, 0) 15) + (1 : Int32))) fun h8 =>
  (jX5_behind x4 h8).bind fun q9 =>
  dcL rep p2 p3 n6 q9 (x5 + 1) h8 else some (false, q7.2)))) else none)))
def drL (dc : Int32 → Int32 → Int32 → HD → Option (Bool × HD)) (p1 p2 : Int32) : Nat → Int32 → HD → Option (Bool × HD)
  | 0, _, _ => none
  | n16 + 1, x3, h => (if x3 ≤ 0 then some (true, h) else (jX5_behind p1 h).bind fun q2 =>
  (dc (p1 + (1 : Int32)) q2 (p2 + (1 : Int32)) h).bind fun q3 =>
  (if q3.1 = true then drL dc p1 p2 n16 (x3 + (-1)) q3.2 else some (false, q3.2)))
theorem l3_eq (p1 p2 p3 : Int32) : ∀ n, jX8_doCommands_l3_L6 p1 p2 p3 n = dcL jX8_doRepeat_l3 p2 p3 n := by
  intro n
  induction n with
  | zero => rfl
  | succ n ih =>
    funext x4 x5 h
    rw [jX8_doCommands_l3_L6, dcL, ih]
theorem l2_eq (p1 p2 p3 : Int32) : ∀ n, jX8_doCommands_l2_L6 p1 p2 p3 n = dcL jX8_doRepeat_l2 p2 p3 n := by
  intro n
  induction n with
  | zero => rfl
  | succ n ih =>
    funext x4 x5 h
    rw [jX8_doCommands_l2_L6, dcL, ih]
def rep1 (x p : Int32) (h : HD) : Option (Bool × HD) := (jX8_doRepeat_l1 x p h).bind fun q => some (q, h)
theorem l1_eq (p1 p2 p3 : Int32) : ∀ n, jX8_doCommands_l1_L6 p1 p2 p3 n = dcL rep1 p2 p3 n := by
  intro n
  induction n with
  | zero => rfl
  | succ n ih =>
    funext x4 x5 h
    rw [jX8_doCommands_l1_L6, dcL, ih]
    unfold rep1
    generalize jX8_doRepeat_l1 x4 p3 h = X
    cases X <;> rfl
theorem r3_eq (p1 p2 : Int32) : ∀ n, jX8_doRepeat_l3_L16 p1 p2 n = drL jX8_doCommands_l2 p1 p2 n := by
  intro n
  induction n with
  | zero => rfl
  | succ n ih =>
    funext x3 h
    rw [jX8_doRepeat_l3_L16, drL, ih]
theorem r2_eq (p1 p2 : Int32) : ∀ n, jX8_doRepeat_l2_L16 p1 p2 n = drL jX8_doCommands_l1 p1 p2 n := by
  intro n
  induction n with
  | zero => rfl
  | succ n ih =>
    funext x3 h
    rw [jX8_doRepeat_l2_L16, drL, ih]
/-- the heap behind what was done: the state, and how many commands were done -/
def PoC (h g : HD) (x : St3) : Prop := Fr sX8 h g ∧ SC g x.1 ∧ RwOk x.1.1 ∧ gI g (6, 0, 0) 15 = iZ x.2 ∧ 0 ≤ x.2 ∧ x.2 ≤ 40
theorem PoC.tr {h g g2 : HD} {x y : St3} (a : PoC h g x) (b : PoC g g2 y) : PoC h g2 y := ⟨a.1.tr b.1, b.2⟩
section
variable {ρ : Type} {ex : ρ → St3 → Bool × St3} {sz : ρ → Int} {at' : HD → Int → ρ → Prop}
theorem c_body {rep : Int32 → Int32 → HD → Option (Bool × HD)} {dep : Int} (hsz : ∀ b, 0 ≤ sz b) (hm : ∀ h g, Fr sX8 h g → ∀ j x, at' h j x → at' g j x) (hrep : ∀ (b : ρ) (n i : Int) (h : HD) (x : St3), CellC h i (8, [], n) (i + 1 + sz b) → 1 ≤ n → n ≤ 20 → at' h (i + 1) b → 0 ≤ i → i + 1 + sz b ≤ 30 → HN h (i + 1 + sz b) → PoC h h x → ∃ g, rep (iZ i) (iZ dep) h = some ((repN (ex b) n.toNat x).1, g) ∧ PoC h g (repN (ex b) n.toNat x).2) : ∀ (b : Bd ρ) (i y : Int) (h : HD) (x : St3) (f : Nat) (to : Int), AtL (CellC h) AlwT 1 sz (at' h) i b → 0 ≤ i → to = i + szB 1 sz b → to ≤ 30 → HN h to → 0 ≤ y → y + szB 1 sz b ≤ 30 → PoC h h x → ∃ g, dcL rep (iZ to) (iZ dep) (f + b.length + 1) (iZ i) (iZ y) h = some ((exL ex b x).1, g) ∧ PoC h g (exL ex b x).2 := by
  have am : ∀ (h g : HD) (b : Bd ρ) (i : Int), Fr sX8 h g → AtL (CellC h) AlwT 1 sz (at' h) i b → AtL (CellC g) AlwT 1 sz (at' g) i b := fun h g b i hF hA => AtL_mono (by decide) hsz b i (fun j c bh _ _ hc => hc.x8 hF) (Or.inr (fun _ => trivial)) (fun _ _ _ _ => trivial) (fun j x _ _ => hm h g hF j x) hA
  intro b
  induction b with
  | nil =>
    intro i y h x f to hA hi ht h30 hN y0 y1 hP
    replace ht : to = i + 0 := ht
    refine ⟨h, ?_, hP⟩
    show dcL rep (iZ to) (iZ dep) (f + 0 + 1) (iZ i) (iZ y) h = some (true, h)
    rw [dcL, show (30 : Int32) = iZ 30 from rfl]
    by_cases q : (30 : Int) ≤ y
    · rw [if_pos (le_y (by omega) (by omega) (by replace y1 : y + 0 ≤ 30 := y1; omega))]
    · rw [if_neg (le_n (by omega) (by omega) (by omega)), if_pos (le_y (by omega) (by omega) (by omega))]
  | cons w r ih =>
    intro i y h x f to hA hi ht h30 hN y0 y1 hP
    have hr := szB_nn (e := 1) (by decide) hsz r
    obtain ⟨F0, hS, hok, e15, d0, d1⟩ := id hP
    rcases w with c | ⟨n, q⟩
    · replace ht : to = i + (1 + szB 1 sz r) := ht
      replace y1 : y + (1 + szB 1 sz r) ≤ 30 := y1
      obtain ⟨⟨hc, h8⟩, hA2⟩ : (CellC h i c (i + 1) ∧ c.1 < 8) ∧ AtL (CellC h) AlwT 1 sz (at' h) (i + 1) r := hA
      obtain ⟨o9, -, -, o8⟩ := opC_facts c.1 (by omega)
      show ∃ g, dcL rep (iZ to) (iZ dep) (f + (r.length + 1) + 1) (iZ i) (iZ y) h = some ((if 40 ≤ x.2 then (false, x) else if (doC c x.1).1 = true then exL ex r ((doC c x.1).2, x.2 + 1) else (false, ((doC c x.1).2, x.2)) : Bool × St3).1, g) ∧ PoC h g (if 40 ≤ x.2 then (false, x) else if (doC c x.1).1 = true then exL ex r ((doC c x.1).2, x.2 + 1) else (false, ((doC c x.1).2, x.2)) : Bool × St3).2
      rw [show f + (r.length + 1) + 1 = f + r.length + 1 + 1 by omega, dcL, show (30 : Int32) = iZ 30 from rfl, if_neg (le_n (by omega) (by omega) (by omega)), if_neg (le_n (by omega) (by omega) (by omega)), x5_command hc hN hi (by omega), Option.bind_some]
      show ∃ g, (if opC c.1 < 9 then (if opC c.1 = 8 then _ else _) else _) = _ ∧ _
      rw [if_pos o9, if_neg (fun e => absurd (o8.mp e) (by omega)), e15, show (40 : Int32) = iZ 40 from rfl]
      by_cases q40 : 40 ≤ x.2
      · rw [if_pos (le_y (by omega) (by omega) (by omega)), if_pos q40]
        exact ⟨h, rfl, hP⟩
      · rw [if_neg (le_n (by omega) (by omega) (by omega)), if_neg q40]
        obtain ⟨g, e, fr, s2⟩ := c_do hc h8 hN hi (by omega) hS hok
        have ok2 := doC_ok (c := c) (s := x.1) hc.2.2.2.2 hok
        have g15 : gI g (6, 0, 0) 15 = iZ x.2 := (fr.1 _ _ rfl).trans e15
        rw [e, Option.bind_some]
        by_cases qk : (doC c x.1).1 = true
        · rw [if_pos qk, if_pos qk]
          obtain ⟨g2, hg2⟩ : ∃ g2, g2 = sI g (6, 0, 0) 15 (iZ (x.2 + 1)) := ⟨_, rfl⟩
          have F2 : Fr (fun r k => decide (r = (6, 0, 0)) && Nat.beq k 15) g g2 := by rw [hg2]; exact Fr.rf.sI rfl _
          have X2 : Fr sX8 h g2 := (sA8_X8 fr).tr (by rw [hg2]; exact Fr.rf.sI rfl _)
          have S2 : SC g2 (doC c x.1).2 := s2.fr F2 (fun j k => by
            show (decide _ && _) = false
            rw [decide_eq_false (fun e => by cases e)]; rfl) (fun _ => rfl) rfl
          have P2 : PoC g2 g2 ((doC c x.1).2, x.2 + 1) := ⟨Fr.rf, S2, ok2, by rw [hg2, gI_self], by show 0 ≤ x.2 + 1; omega, by show x.2 + 1 ≤ 40; omega⟩
          have ihx := ih (i + 1) (y + 1) g2 ((doC c x.1).2, x.2 + 1) f to (am h g2 r (i + 1) X2 hA2) (by omega) (by omega) h30 (hN.x8 X2) (by omega) (by omega) P2
          obtain ⟨g3, e3, p3⟩ := ihx
          refine ⟨g3, ?_, ⟨X2.tr p3.1, p3.2⟩⟩
          show lt (sI g (6, 0, 0) 15 (gI g (6, 0, 0) 15 + 1)) _ = _
          rw [g15, i1, iZ_add, ← hg2, lt_eq, x5_behind (hc.x8 X2) (hN.x8 X2) hi (by omega) (by omega) (by omega), Option.bind_some, iZ_add]
          exact e3
        · rw [if_neg qk, if_neg qk]
          refine ⟨g, rfl, sA8_X8 fr, s2, ok2, g15, d0, d1⟩
    · have hq := hsz q
      replace ht : to = i + (1 + sz q + szB 1 sz r) := ht
      replace y1 : y + (1 + sz q + szB 1 sz r) ≤ 30 := y1
      obtain ⟨⟨hc, n1, n2⟩, hb, -, hA2⟩ : (CellC h i (8, [], n) (i + 1 + sz q) ∧ 1 ≤ n ∧ n ≤ 20) ∧ at' h (i + 1) q ∧ AlwT (i + 1 + sz q) ∧ AtL (CellC h) AlwT 1 sz (at' h) (i + 1 + sz q) r := hA
      have hN2 : HN h (i + 1 + sz q) := by
        obtain ⟨k, a, b, c⟩ := hN
        exact ⟨k, a, by omega, c⟩
      obtain ⟨g, e, p⟩ := hrep q n i h x hc n1 n2 hb hi (by omega) hN2 hP
      show ∃ g, dcL rep (iZ to) (iZ dep) (f + (r.length + 1) + 1) (iZ i) (iZ y) h = some ((if (repN (ex q) n.toNat x).1 = true then exL ex r (repN (ex q) n.toNat x).2 else (false, (repN (ex q) n.toNat x).2) : Bool × St3).1, g) ∧ PoC h g (if (repN (ex q) n.toNat x).1 = true then exL ex r (repN (ex q) n.toNat x).2 else (false, (repN (ex q) n.toNat x).2) : Bool × St3).2
      rw [show f + (r.length + 1) + 1 = f + r.length + 1 + 1 by omega, dcL, show (30 : Int32) = iZ 30 from rfl, if_neg (le_n (by omega) (by omega) (by omega)), if_neg (le_n (by omega) (by omega) (by omega)), x5_command hc hN hi (by omega), Option.bind_some, oc_some, if_pos (show opC ((8, [], n) : Cm).1 < 9 from (by decide : (8 : Nat) < 9)), if_pos (show opC ((8, [], n) : Cm).1 = 8 from rfl), e, Option.bind_some]
      by_cases qk : (repN (ex q) n.toNat x).1 = true
      · rw [if_pos qk, if_pos qk]
        have ihx := ih (i + 1 + sz q) (y + 1) g (repN (ex q) n.toNat x).2 f to (am h g r _ p.1 hA2) (by omega) (by omega) h30 (hN.x8 p.1) (by omega) (by omega) ⟨Fr.rf, p.2⟩
        obtain ⟨g3, e3, p3⟩ := ihx
        refine ⟨g3, ?_, p.tr p3⟩
        show (jX5_behind (iZ i) g).bind _ = _
        rw [x5_behind (hc.x8 p.1) (hN.x8 p.1) hi (by omega) (by omega) (by omega), Option.bind_some, i1, iZ_add]
        exact e3
      · rw [if_neg qk, if_neg qk]
        exact ⟨g, rfl, p⟩
/-- a body that is done several times -/
theorem c_rep {dc : Int32 → Int32 → Int32 → HD → Option (Bool × HD)} {dep : Int} (hd : 0 ≤ dep ∧ dep < 2) (hsz : ∀ b, 0 ≤ sz b) (hm : ∀ h g, Fr sX8 h g → ∀ j x, at' h j x → at' g j x) (hdc : ∀ (b : ρ) (i : Int) (h : HD) (x : St3), at' h i b → 0 ≤ i → i + sz b ≤ 30 → HN h (i + sz b) → PoC h h x → ∃ g, dc (iZ i) (iZ (i + sz b)) (iZ (dep + 1)) h = some ((ex b x).1, g) ∧ PoC h g (ex b x).2) (b : ρ) (n i : Int) (h : HD) (x : St3) (hc : CellC h i (8, [], n) (i + 1 + sz b)) (n1 : 1 ≤ n) (n2 : n ≤ 20) (hb : at' h (i + 1) b) (hi : 0 ≤ i) (h30 : i + 1 + sz b ≤ 30) (hN : HN h (i + 1 + sz b)) (hP : PoC h h x) : ∃ g, (if iZ dep < (2 : Int32) then (jX5_numberAt (iZ i) h).bind fun q1 => drL dc (iZ i) (iZ dep) FU q1 h else some (false, h)) = some ((repN (ex b) n.toNat x).1, g) ∧ PoC h g (repN (ex b) n.toNat x).2 := by
  have hs := hsz b
  rw [i2, if_pos (lt_y (by omega) (by omega) (by omega)), x5_number hc hN hi (by omega), Option.bind_some]
  have key : ∀ (k : Nat) (f : Nat) (h : HD) (x : St3), (k : Int) ≤ 20 → CellC h i (8, [], n) (i + 1 + sz b) → at' h (i + 1) b → HN h (i + 1 + sz b) → PoC h h x → ∃ g, drL dc (iZ i) (iZ dep) (f + k + 1) (iZ k) h = some ((repN (ex b) k x).1, g) ∧ PoC h g (repN (ex b) k x).2 := by
    intro k
    induction k with
    | zero =>
      intro f h x _ _ _ _ hP
      refine ⟨h, ?_, hP⟩
      show drL dc (iZ i) (iZ dep) (f + 0 + 1) (iZ 0) h = some (true, h)
      rw [drL, if_pos (show iZ 0 ≤ 0 by decide)]
    | succ k ih =>
      intro f h x hk hc hb hN hP
      obtain ⟨g, e, p⟩ := hdc b (i + 1) h x hb (by omega) (by omega) hN hP
      show ∃ g, drL dc (iZ i) (iZ dep) (f + (k + 1) + 1) (iZ ((k + 1 : Nat) : Int)) h = some ((if (ex b x).1 = true then repN (ex b) k (ex b x).2 else (false, (ex b x).2) : Bool × St3).1, g) ∧ PoC h g (if (ex b x).1 = true then repN (ex b) k (ex b x).2 else (false, (ex b x).2) : Bool × St3).2
      have hb2 := x5_behind hc hN hi (by omega) (by omega) (by omega)
      rw [show f + (k + 1) + 1 = f + k + 1 + 1 by omega, drL, if_neg (show ¬ iZ ((k + 1 : Nat) : Int) ≤ 0 from le_n (b := 0) (by omega) (by omega) (by omega)), hb2, Option.bind_some, i1, iZ_add, iZ_add, e, Option.bind_some]
      by_cases q : (ex b x).1 = true
      · rw [if_pos q, if_pos q]
        obtain ⟨g2, e2, p2⟩ := ih f g (ex b x).2 (by omega) (hc.x8 p.1) (hm h g p.1 _ _ hb) (hN.x8 p.1) ⟨Fr.rf, p.2⟩
        refine ⟨g2, ?_, p.tr p2⟩
        rw [iZ_neg, iZ_add, show ((k + 1 : Nat) : Int) + -1 = (k : Int) by omega]
        exact e2
      · rw [if_neg q, if_neg q]
        exact ⟨g, rfl, p⟩
  obtain ⟨g, e, p⟩ := key n.toNat (999999 - n.toNat) h x (by omega) hc hb hN hP
  rw [show 999999 - n.toNat + n.toNat + 1 = FU by unfold FU; omega, show ((n.toNat : Nat) : Int) = n by omega] at e
  exact ⟨g, e, p⟩
end
