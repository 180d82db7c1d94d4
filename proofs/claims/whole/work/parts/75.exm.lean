/-! a script is done: the reference -/
def sX9 : Rf → Nat → Bool := fun r k => sA9 r k || decide (r = (7, 0, 27) ∨ r = (7, 0, 28))
theorem sA9_X9 {h h2 : HD} (hF : Fr sA9 h h2) : Fr sX9 h h2 := hF.mono fun r k q => by
  unfold sX9 at q
  exact (Bool.or_eq_false_iff.mp q).1
theorem CellM.x9 {h g : HD} {i : Int} {c : Cm} {b b2 : Int} (hc : CellM h i c b) (hF : Fr sX9 h g) : CellM g i c b2 := hc.keep (hF.1 _ _ rfl) (hF.2.1 _ _ rfl) (hF.1 _ _ rfl)
theorem LapM.x9 {h g : HD} {i : Int} (hc : LapM h i) (hF : Fr sX9 h g) : LapM g i := (hF.1 _ _ rfl).trans hc
theorem x9_carAny {h : HD} {R : Row} (hM : RwM h (7, 0, 2) (7, 0, 7) 0 0 R) (hn : 0 ≤ R.1 ∧ R.1 ≤ 11) (w : Int64) : ∃ v, jX9_carNamed w h = some v := by
  have hc : gI h (7, 0, 2) 0 = iZ R.1 := hM.pr.1
  unfold jX9_carNamed
  rw [i0]
  have key : ∀ (k : Nat) (f : Nat) (z : Int), 0 ≤ z → R.1 - z = (k : Int) → ∃ v, jX9_carNamed_L2 w h (f + k + 1) (iZ z) = some v := by
    intro k
    induction k with
    | zero =>
      intro f z z0 hz
      refine ⟨-1, ?_⟩
      rw [show f + 0 + 1 = f + 1 by omega, jX9_carNamed_L2, hc, if_pos (le_y (by omega) (by omega) (by omega))]
    | succ k ih =>
      intro f z z0 hz
      rw [show f + (k + 1) + 1 = f + k + 1 + 1 by omega, jX9_carNamed_L2, hc, if_neg (le_n (by omega) (by omega) (by omega)), inB_t (by omega) (by omega) (by omega), if_pos rfl]
      by_cases q : lg_cmp (gJ h (7, 0, 7) (iZ z).toNatClampNeg) w = 0
      · exact ⟨iZ z, if_pos q⟩
      · rw [if_neg q, i1, iZ_add]
        exact ih f (z + 1) (by omega) (by omega)
  obtain ⟨v, e⟩ := key R.1.toNat (999999 - R.1.toNat) 0 (Int.le_refl 0) (by omega)
  rw [show 999999 - R.1.toNat + R.1.toNat + 1 = FU by unfold FU; omega] at e
  exact ⟨v, e⟩
theorem x9_canCome {h : HD} {n b : Int} {pf : Int → Int} (hg : PrM h n b pf) (hn : 0 ≤ n ∧ n ≤ 11) {v : Int} (v1 : -2147483648 ≤ v) (v2 : v < 2147483648) : jX9_mayCome (iZ v) h = some (decide (0 ≤ v ∧ v ≤ n + 1)) := by
  unfold jX9_mayCome
  rw [hg.1, i1, iZ_add, iZ_j (by omega) (by omega), iZ_j (by omega) (by omega), show (0 : Int64) = jZ 0 from rfl, jZ_is (by omega) (by omega) (by omega) (by omega) (by omega) (by omega)]
def MYX (op q2 n26 p1 : Int32) (w : Int64) (h : HD) : Option (Bool × HD) := (if op = 0 then (if q2 = (-1 : Int32) then some (false, h) else (jX9_isSpot n26 h).bind fun q5 =>
  (if q5 = true then some (true, h) else some (false, h))) else if op = 1 then (jX9_mayCome n26 h).bind fun q7 =>
  (if q7 = true then if inB p1 60 = true then (jX9_whyNoCar w h).bind fun q9 =>
  (jX9_refused q9 h).bind fun q10 =>
  (if q10.1 = true then some (false, q10.2) else some (true, q10.2)) else none else some (false, h)) else if op = 2 then (if q2 = (-1 : Int32) then some (false, h) else (jX9_whyNoSwap q2 h).bind fun q12 =>
  (jX9_refused q12 h).bind fun q13 =>
  (if q13.1 = true then some (false, q13.2) else some (true, q13.2))) else if op = 3 then (if q2 = (-1 : Int32) then some (false, h) else (jX9_whyNoGo q2 h).bind fun q15 =>
  (jX9_refused q15 h).bind fun q16 =>
  (if q16.1 = true then some (false, q16.2) else some (true, q16.2))) else if op = 4 then some ((jX9_isTurn n26 h), h) else if op = 5 then some ((jX9_isBack n26 h), h) else some (true, h))
theorem may_eq (p1 : Int32) (h : HD) : jX9_may p1 h = if inB p1 60 = true then (jX9_carNamed (gJ h (7, 0, 29) p1.toNatClampNeg) h).bind fun q2 => if inB p1 60 = true then if inB p1 60 = true then MYX (gI h (7, 0, 25) p1.toNatClampNeg) q2 (gI h (7, 0, 26) p1.toNatClampNeg) p1 (gJ h (7, 0, 29) p1.toNatClampNeg) h else none else none else none := rfl
def DS (op q2 n26 p1 : Int32) (w : Int64) (h : HD) : Option (Int32 × HD) := (if op = 0 then (jX9_wishes q2 n26 h).bind fun q5 =>
  some (q5.1, q5.2) else if op = 1 then if inB p1 60 = true then (jX9_comes w n26 h).bind fun q8 =>
  some (q8.1, q8.2) else none else if op = 2 then (jX9_swaps q2 h).bind fun q10 =>
  some (q10.1, q10.2) else if op = 3 then (jX9_leaves0 q2 h).bind fun q12 =>
  some (q12.1, q12.2) else if op = 4 then (jX9_turns n26 h).bind fun q14 =>
  some (q14.1, q14.2) else if op = 5 then (jX9_looksBack n26 h).bind fun q16 =>
  some (q16.1, q16.2) else if op = 6 then (jX9_sorts h).bind fun q18 =>
  some (q18.1, q18.2) else (jX9_reverses h).bind fun q20 =>
  some (q20.1, q20.2))
theorem does_eq (p1 : Int32) (h : HD) : jX9_does p1 h = if inB p1 60 = true then (jX9_carNamed (gJ h (7, 0, 29) p1.toNatClampNeg) h).bind fun q2 => if inB p1 60 = true then if inB p1 60 = true then DS (gI h (7, 0, 25) p1.toNatClampNeg) q2 (gI h (7, 0, 26) p1.toNatClampNeg) p1 (gJ h (7, 0, 29) p1.toNatClampNeg) h else none else none else none := rfl
/-- a command that the reference does -/
def DoM (h : HD) (i : Int) (r : Bool × S3) : Prop := (r.1 = true ∧ ∃ v g, jX9_may (iZ i) h = some (true, h) ∧ jX9_does (iZ i) h = some (v, g) ∧ Fr sA9 h g ∧ SM g r.2) ∨ (r.1 = false ∧ ∃ g, jX9_may (iZ i) h = some (false, g) ∧ Fr sA9 h g ∧ SM g r.2)
theorem m_do {h : HD} {i bh : Int} {c : Cm} {s : S3} (hc : CellM h i c bh) (h8 : c.1 < 8) (i0' : 0 ≤ i) (i60 : i < 60) (hS : SM h s) (hok : RwOk s.1) : DoM h i (doC c s) := by
  obtain ⟨⟨n, b, pf, nm⟩, a, rf⟩ := s
  have ho : PrOk n b pf := hok.1
  have hn : 0 ≤ n ∧ n ≤ 11 := ⟨ho.1, ho.2.1⟩
  obtain ⟨op, k, v⟩ := c
  obtain ⟨m1, m2, m3, -, kz, kn, v0, v1⟩ := hc
  replace m1 : gI h (7, 0, 25) i.toNat = iZ op := m1
  replace m2 : op ≤ 3 → gJ h (7, 0, 29) i.toNat = jZ (eM k) := m2
  replace m3 : hasV op = true → gI h (7, 0, 26) i.toNat = iZ v := m3
  replace kz : NmZ k := kz
  replace v0 : 0 ≤ v := v0
  replace v1 : v ≤ 999 := v1
  replace h8 : op < 8 := h8
  have hM : RwM h (7, 0, 2) (7, 0, 7) 0 0 (n, b, pf, nm) := hS.1
  have hP : PrM h n b pf := hM.pr
  obtain ⟨z, hz⟩ : ∃ z, cnN (n, b, pf, nm) k = z := ⟨_, rfl⟩
  have hzi := cnN_in (R := (n, b, pf, nm)) (k := k) hn.1
  rw [hz] at hzi
  replace hzi : -1 ≤ z ∧ z < n ∨ z = -1 := hzi
  have ib : inB (iZ i) 60 = true := inB_t (by omega) (by omega) (by omega)
  have ei : (iZ i).toNatClampNeg = i.toNat := iZ_nat (by omega) (by omega)
  have nz : ¬ z = -1 → ¬ iZ z = (-1 : Int32) := fun q => eq_n (b := -1) (by omega) (by omega) (by omega) (by omega) (by omega)
  have yz : z = -1 → iZ z = (-1 : Int32) := fun q => by rw [q]; rfl
  have nq : ∀ a b : Nat, a ≠ b → ¬ ((a, k, v) : Cm).1 = b := fun a b h => h
  -- the car of the name
  have nam : op ≤ 3 → jX9_may (iZ i) h = MYX (iZ op) (iZ z) (gI h (7, 0, 26) i.toNat) (iZ i) (jZ (eM k)) h ∧ jX9_does (iZ i) h = DS (iZ op) (iZ z) (gI h (7, 0, 26) i.toNat) (iZ i) (jZ (eM k)) h := fun q => by
    have cn := x9_carNamed hM hok kz
    rw [hz] at cn
    refine ⟨?_, ?_⟩
    · rw [may_eq, ib, if_pos rfl, ei, m2 q, cn, Option.bind_some, m1]
      rfl
    · rw [does_eq, ib, if_pos rfl, ei, m2 q, cn, Option.bind_some, m1]
      rfl
  have nonam : ∃ q2, jX9_may (iZ i) h = MYX (iZ op) q2 (gI h (7, 0, 26) i.toNat) (iZ i) (gJ h (7, 0, 29) i.toNat) h ∧ jX9_does (iZ i) h = DS (iZ op) q2 (gI h (7, 0, 26) i.toNat) (iZ i) (gJ h (7, 0, 29) i.toNat) h := by
    obtain ⟨q2, cn⟩ := x9_carAny hM hn (gJ h (7, 0, 29) i.toNat)
    refine ⟨q2, ?_⟩
    refine ⟨?_, ?_⟩
    · rw [may_eq, ib, if_pos rfl, ei, cn, Option.bind_some, m1]
      rfl
    · rw [does_eq, ib, if_pos rfl, ei, cn, Option.bind_some, m1]
      rfl
  have nope : jX9_may (iZ i) h = some (false, h) → DoM h i (false, ((n, b, pf, nm), a, rf)) := fun e => Or.inr ⟨rfl, h, e, Fr.rf, hS⟩
  unfold doC
  have cs : op = 0 ∨ op = 1 ∨ op = 2 ∨ op = 3 ∨ op = 4 ∨ op = 5 ∨ op = 6 ∨ op = 7 := by omega
  rcases cs with e | e | e | e | e | e | e | e
  · subst e
    obtain ⟨e1, e2⟩ := nam (by decide)
    have v26 := m3 rfl
    rw [if_pos rfl]
    show DoM h i (if cnN (n, b, pf, nm) k = -1 then (false, ((n, b, pf, nm), a, rf)) else if 0 ≤ v ∧ v ≤ n then (true, ((n, b, updP pf (cnN (n, b, pf, nm) k) v, nm), bmp 0 a, rf)) else (false, ((n, b, pf, nm), a, rf)))
    replace e1 : jX9_may (iZ i) h = (if iZ z = (-1 : Int32) then some (false, h) else (jX9_isSpot (gI h (7, 0, 26) i.toNat) h).bind fun q5 => (if q5 = true then some (true, h) else some (false, h))) := e1
    replace e2 : jX9_does (iZ i) h = (jX9_wishes (iZ z) (gI h (7, 0, 26) i.toNat) h).bind fun q5 => some (q5.1, q5.2) := e2
    rw [v26] at e1 e2
    rw [hz]
    by_cases q : z = -1
    · rw [if_pos (yz q)] at e1
      rw [if_pos q]; exact nope e1
    · rw [if_neg (nz q), x9_isSpot hP hn (by omega) (by omega), Option.bind_some] at e1
      rw [if_neg q]
      by_cases q2 : 0 ≤ v ∧ v ≤ n
      · rw [decide_eq_true q2, if_pos rfl] at e1
        rw [if_pos q2]
        obtain ⟨g, e, f, s⟩ := d9_wishes (z := z) (v := v) hS hn (by omega) (by omega)
        rw [e] at e2
        exact Or.inl ⟨rfl, _, g, e1, e2, f, s⟩
      · rw [decide_eq_false q2, if_neg Bool.false_ne_true] at e1
        rw [if_neg q2]; exact nope e1
  · subst e
    obtain ⟨e1, e2⟩ := nam (by decide)
    have v26 := m3 rfl
    rw [if_neg (nq _ _ (by decide)), if_pos rfl]
    show DoM h i (if 0 ≤ v ∧ v ≤ n + 1 then (decide (n < 11 ∧ k ≠ [] ∧ cnN (n, b, pf, nm) k = -1), (if n < 11 then (if k ≠ [] ∧ cnN (n, b, pf, nm) k = -1 then (comR (n, b, pf, nm) k v, bmp 2 (bmp 0 a), rf) else ((n, b, pf, nm), bmp 1 a, 2)) else ((n, b, pf, nm), bmp 1 a, 1))) else (false, ((n, b, pf, nm), a, rf)))
    replace e1 : jX9_may (iZ i) h = (jX9_mayCome (gI h (7, 0, 26) i.toNat) h).bind fun q7 => (if q7 = true then if inB (iZ i) 60 = true then (jX9_whyNoCar (jZ (eM k)) h).bind fun q9 => (jX9_refused q9 h).bind fun q10 => (if q10.1 = true then some (false, q10.2) else some (true, q10.2)) else none else some (false, h)) := e1
    replace e2 : jX9_does (iZ i) h = if inB (iZ i) 60 = true then (jX9_comes (jZ (eM k)) (gI h (7, 0, 26) i.toNat) h).bind fun q8 => some (q8.1, q8.2) else none := e2
    rw [v26, x9_canCome hP hn (by omega) (by omega), Option.bind_some] at e1
    rw [v26, ib, if_pos rfl] at e2
    by_cases q2 : 0 ≤ v ∧ v ≤ n + 1
    · rw [decide_eq_true q2, if_pos rfl, ib, if_pos rfl, d9_whyCar hM hok kz, Option.bind_some] at e1
      rw [if_pos q2]
      by_cases qv : n < 11 ∧ k ≠ [] ∧ cnN (n, b, pf, nm) k = -1
      · rw [if_pos (show (n, b, pf, nm).1 < 11 from qv.1), if_pos qv.2] at e1
        replace e1 : jX9_may (iZ i) h = some (true, h) := e1
        rw [decide_eq_true qv, if_pos qv.1, if_pos qv.2]
        obtain ⟨g, e, f, s⟩ := d9_comes (k := k) (v := v) hS hok qv.1
        rw [e] at e2
        exact Or.inl ⟨rfl, _, g, e1, e2, f, s⟩
      · rw [decide_eq_false qv]
        obtain ⟨c, hc, hc1, hc2⟩ : ∃ c : Int, (c = 1 ∨ c = 2) ∧ (if (n, b, pf, nm).1 < 11 then (if k ≠ [] ∧ cnN (n, b, pf, nm) k = -1 then 0 else 2) else 1 : Int) = c ∧ (if n < 11 then (if k ≠ [] ∧ cnN (n, b, pf, nm) k = -1 then (comR (n, b, pf, nm) k v, bmp 2 (bmp 0 a), rf) else ((n, b, pf, nm), bmp 1 a, 2)) else ((n, b, pf, nm), bmp 1 a, 1) : S3) = ((n, b, pf, nm), bmp 1 a, iZ c) := by
          by_cases r1 : n < 11
          · have r2 : ¬ (k ≠ [] ∧ cnN (n, b, pf, nm) k = -1) := fun e => qv ⟨r1, e⟩
            exact ⟨2, Or.inr rfl, by rw [if_pos r1, if_neg r2], by rw [if_pos r1, if_neg r2]; rfl⟩
          · exact ⟨1, Or.inl rfl, by rw [if_neg r1], by rw [if_neg r1]; rfl⟩
        rw [hc1] at e1
        rw [hc2]
        have cne : iZ c ≠ 0 := by rcases hc with rfl | rfl <;> decide
        obtain ⟨g, e, f, s⟩ := d9_refuse hS (k := iZ c) cne
        rw [e] at e1
        exact Or.inr ⟨rfl, g, e1, f, s⟩
    · rw [decide_eq_false q2, if_neg Bool.false_ne_true] at e1
      rw [if_neg q2]; exact nope e1
  · subst e
    obtain ⟨e1, e2⟩ := nam (by decide)
    rw [if_neg (nq _ _ (by decide)), if_neg (nq _ _ (by decide)), if_pos rfl]
    show DoM h i (if cnN (n, b, pf, nm) k = -1 then (false, ((n, b, pf, nm), a, rf)) else (decide (cnN (n, b, pf, nm) k + 1 < n), (if cnN (n, b, pf, nm) k + 1 < n then (swR (n, b, pf, nm) (cnN (n, b, pf, nm) k) (cnN (n, b, pf, nm) k + 1), bmp 0 a, rf) else ((n, b, pf, nm), bmp 1 a, 3))))
    replace e1 : jX9_may (iZ i) h = (if iZ z = (-1 : Int32) then some (false, h) else (jX9_whyNoSwap (iZ z) h).bind fun q12 => (jX9_refused q12 h).bind fun q13 => (if q13.1 = true then some (false, q13.2) else some (true, q13.2))) := e1
    replace e2 : jX9_does (iZ i) h = (jX9_swaps (iZ z) h).bind fun q10 => some (q10.1, q10.2) := e2
    rw [hz]
    by_cases q : z = -1
    · rw [if_pos (yz q)] at e1
      rw [if_pos q]; exact nope e1
    · rw [if_neg (nz q), d9_whySwap hM hn (by omega) (by omega), Option.bind_some] at e1
      rw [if_neg q]
      by_cases q2 : z + 1 < n
      · rw [if_pos q2] at e1
        replace e1 : jX9_may (iZ i) h = some (true, h) := e1
        rw [decide_eq_true q2, if_pos q2]
        obtain ⟨g, e, f, s⟩ := d9_swaps (z := z) hS hn (by omega) q2
        rw [e] at e2
        exact Or.inl ⟨rfl, _, g, e1, e2, f, s⟩
      · rw [if_neg q2] at e1
        rw [decide_eq_false q2, if_neg q2]
        obtain ⟨g, e, f, s⟩ := d9_refuse hS (k := 3) (by decide)
        rw [show iZ 3 = (3 : Int32) from rfl, e] at e1
        exact Or.inr ⟨rfl, g, e1, f, s⟩
  · subst e
    obtain ⟨e1, e2⟩ := nam (by decide)
    rw [if_neg (nq _ _ (by decide)), if_neg (nq _ _ (by decide)), if_neg (nq _ _ (by decide)), if_pos rfl]
    show DoM h i (if cnN (n, b, pf, nm) k = -1 then (false, ((n, b, pf, nm), a, rf)) else @ite _ (gB n pf (cnN (n, b, pf, nm) k)) (Classical.propDecidable _) (false, ((n, b, pf, nm), bmp 1 a, 4)) (true, (goR (n, b, pf, nm) (cnN (n, b, pf, nm) k), bmp 3 (bmp 0 a), rf)))
    replace e1 : jX9_may (iZ i) h = (if iZ z = (-1 : Int32) then some (false, h) else (jX9_whyNoGo (iZ z) h).bind fun q15 => (jX9_refused q15 h).bind fun q16 => (if q16.1 = true then some (false, q16.2) else some (true, q16.2))) := e1
    replace e2 : jX9_does (iZ i) h = (jX9_leaves0 (iZ z) h).bind fun q12 => some (q12.1, q12.2) := e2
    rw [hz]
    by_cases q : z = -1
    · rw [if_pos (yz q)] at e1
      rw [if_pos q]; exact nope e1
    · have wg := d9_whyGo (z := z) hM hok (by omega) (by show z < n; omega)
      rw [if_neg (nz q)] at e1
      rw [if_neg q]
      by_cases q3 : gB n pf z
      · rw [wg.1 q3, Option.bind_some] at e1
        rw [if_pos q3]
        obtain ⟨g, e, f, s⟩ := d9_refuse hS (k := 4) (by decide)
        rw [show iZ 4 = (4 : Int32) from rfl, e] at e1
        exact Or.inr ⟨rfl, g, e1, f, s⟩
      · rw [wg.2 q3, Option.bind_some] at e1
        replace e1 : jX9_may (iZ i) h = some (true, h) := e1
        rw [if_neg q3]
        obtain ⟨g, e, f, s⟩ := d9_leaves (z := z) hS hok (by omega) (by show z < n; omega)
        rw [e] at e2
        exact Or.inl ⟨rfl, _, g, e1, e2, f, s⟩
  · subst e
    obtain ⟨q2', e1, e2⟩ := nonam
    have v26 := m3 rfl
    rw [if_neg (nq _ _ (by decide)), if_neg (nq _ _ (by decide)), if_neg (nq _ _ (by decide)), if_neg (nq _ _ (by decide)), if_pos rfl]
    show DoM h i (if 0 ≤ v ∧ v ≤ 99 then (true, ((n, b, tuF n v pf n, nm), bmp 0 a, rf)) else (false, ((n, b, pf, nm), a, rf)))
    replace e1 : jX9_may (iZ i) h = some ((jX9_isTurn (gI h (7, 0, 26) i.toNat) h), h) := e1
    replace e2 : jX9_does (iZ i) h = (jX9_turns (gI h (7, 0, 26) i.toNat) h).bind fun q14 => some (q14.1, q14.2) := e2
    rw [v26, x9_isTurn h (by omega) (by omega)] at e1
    rw [v26] at e2
    by_cases q2 : 0 ≤ v ∧ v ≤ 99
    · rw [decide_eq_true q2] at e1
      rw [if_pos q2]
      obtain ⟨g, e, f, s⟩ := d9_turn (v := v) hS hok q2.1 q2.2
      rw [e] at e2
      exact Or.inl ⟨rfl, _, g, e1, e2, f, s⟩
    · rw [decide_eq_false q2] at e1
      rw [if_neg q2]; exact nope e1
  · subst e
    obtain ⟨q2', e1, e2⟩ := nonam
    have v26 := m3 rfl
    rw [if_neg (nq _ _ (by decide)), if_neg (nq _ _ (by decide)), if_neg (nq _ _ (by decide)), if_neg (nq _ _ (by decide)), if_neg (nq _ _ (by decide)), if_pos rfl]
    show DoM h i (if 0 ≤ v ∧ v ≤ 5 then (true, ((n, v, pf, nm), bmp 0 a, rf)) else (false, ((n, b, pf, nm), a, rf)))
    replace e1 : jX9_may (iZ i) h = some ((jX9_isBack (gI h (7, 0, 26) i.toNat) h), h) := e1
    replace e2 : jX9_does (iZ i) h = (jX9_looksBack (gI h (7, 0, 26) i.toNat) h).bind fun q16 => some (q16.1, q16.2) := e2
    rw [v26, x9_isBack h (by omega) (by omega)] at e1
    rw [v26] at e2
    by_cases q2 : 0 ≤ v ∧ v ≤ 5
    · rw [decide_eq_true q2] at e1
      rw [if_pos q2]
      obtain ⟨g, e, f, s⟩ := d9_back (v := v) hS
      rw [e] at e2
      exact Or.inl ⟨rfl, _, g, e1, e2, f, s⟩
    · rw [decide_eq_false q2] at e1
      rw [if_neg q2]; exact nope e1
  · subst e
    obtain ⟨q2', e1, e2⟩ := nonam
    rw [if_neg (nq _ _ (by decide)), if_neg (nq _ _ (by decide)), if_neg (nq _ _ (by decide)), if_neg (nq _ _ (by decide)), if_neg (nq _ _ (by decide)), if_neg (nq _ _ (by decide)), if_pos rfl]
    show DoM h i (true, (srR (n, b, pf, nm) n, bmp 0 a, rf))
    replace e1 : jX9_may (iZ i) h = some (true, h) := e1
    replace e2 : jX9_does (iZ i) h = (jX9_sorts h).bind fun q18 => some (q18.1, q18.2) := e2
    obtain ⟨g, e, f, s⟩ := d9_sort hS hok
    rw [e] at e2
    exact Or.inl ⟨rfl, _, g, e1, e2, f, s⟩
  · subst e
    obtain ⟨q2', e1, e2⟩ := nonam
    rw [if_neg (nq _ _ (by decide)), if_neg (nq _ _ (by decide)), if_neg (nq _ _ (by decide)), if_neg (nq _ _ (by decide)), if_neg (nq _ _ (by decide)), if_neg (nq _ _ (by decide)), if_neg (nq _ _ (by decide))]
    show DoM h i (true, (rvR (n, b, pf, nm) (n / 2), bmp 0 a, rf))
    replace e1 : jX9_may (iZ i) h = some (true, h) := e1
    replace e2 : jX9_does (iZ i) h = (jX9_reverses h).bind fun q20 => some (q20.1, q20.2) := e2
    obtain ⟨g, e, f, s⟩ := d9_rev hS hok
    rw [e] at e2
    exact Or.inl ⟨rfl, _, g, e1, e2, f, s⟩
