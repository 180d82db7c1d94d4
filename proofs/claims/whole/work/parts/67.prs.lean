/-! what is read of a script, purely -/
def wPref : List Nat := [16, 18, 5, 6, 5, 18]
def wCome : List Nat := [3, 15, 13, 5]
def wSwap : List Nat := [19, 23, 1, 16]
def wGo : List Nat := [7, 15]
def wTurn : List Nat := [20, 21, 18, 14]
def wSort : List Nat := [19, 15, 18, 20]
def wRev : List Nat := [18, 5, 22, 5, 18, 19, 5]
def wRep : List Nat := [18, 5, 16, 5, 1, 20]
/-- the reference's number of a command -/
def opW (ks : List Nat) : Option Nat := if ks = wPref then some 0 else if ks = wCome then some 1 else if ks = wSwap then some 2 else if ks = wGo then some 3 else if ks = wTurn then some 4 else if ks = wBack then some 5 else if ks = wSort then some 6 else if ks = wRev then some 7 else if ks = wRep then some 8 else none
/-- the class's -/
def opC (k : Nat) : Nat := ([0, 4, 1, 5, 2, 3, 6, 7, 8] : List Nat).getD k 0
def cmdOf (t : Tok) : Option Nat := if t.1 = 1 then opW t.2.2.2.1 else none
def hasV (op : Nat) : Bool := ([true, true, false, false, true, true, false, false, true] : List Bool).getD op false
def nmP (len : Int) (bs : Int → Int) (op : Nat) (t : Tok) : Rd (List Nat × Tok) := if op ≤ 3 then (if (nx len bs t).1 = 1 then .inr ((nx len bs t).2.2.2.1, nx len bs t) else .inl (1, (nx len bs t).2.1)) else .inr ([], t)
def vlP (len : Int) (bs : Int → Int) (op : Nat) (t1 : Tok) : Rd (Int × Tok) := if hasV op = true then (match numP (nx len bs t1) (if op = 8 then 1 else 0) (if op = 8 then 20 else 999) with | .inl e => .inl e | .inr v => .inr (v, nx len bs t1)) else .inr (0, t1)
def arP (len : Int) (bs : Int → Int) (op : Nat) (t : Tok) : Rd (Cm × Tok) := match nmP len bs op t with
  | .inl e => .inl e
  | .inr (k, t1) => match vlP len bs op t1 with
    | .inl e => .inl e
    | .inr (v, t2) => .inr ((op, k, v), t2)
def cmP (len : Int) (bs : Int → Int) (z : Zp) (t : Tok) : Rd (Zp × Tok) := match cmdOf t with
  | none => .inl (1, t.2.1)
  | some op => if op = 8 ∧ dpZ z = 2 then .inl (3, t.2.1) else if 30 ≤ szZ 1 z then .inl (5, t.2.1) else
    match arP len bs op t with
    | .inl e => .inl e
    | .inr (c, t1) => match mkP (nx len bs t1) (if op = 8 then 40 else 59) with
      | .inl e => .inl e
      | .inr _ => .inr (if op = 8 then opnZ c.2.2 z else addZ c z, nx len bs (nx len bs t1))
def scP (len : Int) (bs : Int → Int) : Nat → Zp → Tok → Rd B2
  | 0, _, _ => .inl (1, 0)
  | f + 1, z, t => if dpZ z = 0 ∧ t.1 = 0 then .inr z.1 else if 0 < dpZ z ∧ isMk t 41 then (match mkP (nx len bs t) 59 with | .inl e => .inl e | .inr _ => scP len bs f (clsZ z) (nx len bs (nx len bs t))) else match cmP len bs z t with
    | .inl e => .inl e
    | .inr (z2, t2) => scP len bs f z2 t2
/-- a token of this text -/
def TG (len : Int) (t : Tok) : Prop := TkOk t ∧ 0 ≤ t.2.1 ∧ t.2.1 ≤ t.2.2.1 ∧ t.2.2.1 ≤ len ∧ (t.1 ≠ 0 → t.2.1 < t.2.2.1)
theorem TG.nx {len : Int} {bs : Int → Int} {t : Tok} (h : TG len t) : TG len (nx len bs t) ∧ t.2.2.1 ≤ (nx len bs t).2.1 := by
  obtain ⟨-, a, b, c, -⟩ := h
  have := tok_ok (bs := bs) c
  exact ⟨⟨this.1, by show 0 ≤ (tok len bs t.2.2.1).2.1; omega, this.2.2.1, this.2.2.2.1, this.2.2.2.2⟩, this.2.1⟩
theorem opW_in {ks : List Nat} {op : Nat} (h : opW ks = some op) : op ≤ 8 := by
  unfold opW at h
  repeat' split at h
  all_goals first
    | (cases h; decide)
    | cases h
theorem cmdOf_in {t : Tok} {op : Nat} (h : cmdOf t = some op) : op ≤ 8 ∧ t.1 = 1 := by
  unfold cmdOf at h
  split at h
  · exact ⟨opW_in h, ‹_›⟩
  · cases h
theorem nmP_ok {len : Int} {bs : Int → Int} {op : Nat} {t t1 : Tok} {k : List Nat} (hT : TG len t) (h : nmP len bs op t = .inr (k, t1)) : NmZ k ∧ (op ≤ 3 → NmOk k) ∧ TG len t1 ∧ t.2.2.1 ≤ t1.2.2.1 ∧ (¬ op ≤ 3 → k = []) := by
  have hn := hT.nx (bs := bs)
  unfold nmP at h
  split at h
  · split at h
    · rename_i q1 q2
      cases h
      have := hn.1.1.1 q2
      exact ⟨Or.inr this, fun _ => this, hn.1, by have := hn.1.2.2.1; omega, fun c => absurd q1 c⟩
    · cases h
  · rename_i q1
    cases h
    exact ⟨Or.inl rfl, fun c => absurd c q1, hT, Int.le_refl _, fun _ => rfl⟩
theorem vlP_ok {len : Int} {bs : Int → Int} {op : Nat} {t t1 : Tok} {v : Int} (hT : TG len t) (h : vlP len bs op t = .inr (v, t1)) : 0 ≤ v ∧ v ≤ 999 ∧ (op = 8 → 1 ≤ v ∧ v ≤ 20) ∧ TG len t1 ∧ t.2.2.1 ≤ t1.2.2.1 ∧ (hasV op = false → v = 0) := by
  have hn := hT.nx (bs := bs)
  unfold vlP at h
  split at h
  · rename_i q1
    cases hv : numP (nx len bs t) (if op = 8 then 1 else 0) (if op = 8 then 20 else 999) with
    | inl e => rw [hv] at h; cases h
    | inr w =>
      rw [hv] at h
      cases h
      have := numP_in hv
      refine ⟨?_, ?_, fun e => ?_, hn.1, by have := hn.1.2.2.1; omega, fun c => by rw [q1] at c; cases c⟩
      · by_cases e : op = 8
        · rw [if_pos e, if_pos e] at this; omega
        · rw [if_neg e, if_neg e] at this; omega
      · by_cases e : op = 8
        · rw [if_pos e, if_pos e] at this; omega
        · rw [if_neg e, if_neg e] at this; omega
      · rw [if_pos e, if_pos e] at this; exact this
  · rename_i q1
    cases h
    refine ⟨by decide, by decide, fun e => ?_, hT, Int.le_refl _, fun _ => rfl⟩
    rw [e] at q1
    exact absurd rfl q1
theorem arP_ok {len : Int} {bs : Int → Int} {op : Nat} {t t1 : Tok} {c : Cm} (ho : op ≤ 8) (hT : TG len t) (h : arP len bs op t = .inr (c, t1)) : CmOk c ∧ c.1 = op ∧ (op = 8 → c.2.1 = [] ∧ 1 ≤ c.2.2 ∧ c.2.2 ≤ 20) ∧ TG len t1 ∧ t.2.2.1 ≤ t1.2.2.1 := by
  unfold arP at h
  cases hk : nmP len bs op t with
  | inl e => rw [hk] at h; cases h
  | inr kt =>
    obtain ⟨k, t2⟩ := kt
    rw [hk] at h
    replace h : (match vlP len bs op t2 with | .inl e => .inl e | .inr (v, t2) => .inr ((op, k, v), t2) : Rd (Cm × Tok)) = .inr (c, t1) := h
    obtain ⟨a1, a2, a3, a4, a5⟩ := nmP_ok hT hk
    cases hv : vlP len bs op t2 with
    | inl e => rw [hv] at h; cases h
    | inr vt =>
      obtain ⟨v, t3⟩ := vt
      rw [hv] at h
      cases h
      obtain ⟨b1, b2, b3, b4, b5, -⟩ := vlP_ok a3 hv
      exact ⟨⟨ho, a1, a2, b1, b2⟩, rfl, fun e => ⟨a5 (by omega), b3 e⟩, b4, by omega⟩
theorem cmP_ok {len : Int} {bs : Int → Int} {z z2 : Zp} {t t2 : Tok} (hT : TG len t) (h : cmP len bs z t = .inr (z2, t2)) : TG len t2 ∧ t.2.1 + 1 ≤ t2.2.1 := by
  unfold cmP at h
  cases hc : cmdOf t with
  | none => rw [hc] at h; cases h
  | some op =>
    obtain ⟨ho, h1⟩ := cmdOf_in hc
    rw [hc] at h
    replace h : (if op = 8 ∧ dpZ z = 2 then .inl (3, t.2.1) else if 30 ≤ szZ 1 z then .inl (5, t.2.1) else match arP len bs op t with | .inl e => .inl e | .inr (c, t1) => match mkP (nx len bs t1) (if op = 8 then 40 else 59) with | .inl e => .inl e | .inr _ => .inr (if op = 8 then opnZ c.2.2 z else addZ c z, nx len bs (nx len bs t1)) : Rd (Zp × Tok)) = .inr (z2, t2) := h
    split at h
    · cases h
    · split at h
      · cases h
      · cases ha : arP len bs op t with
        | inl e => rw [ha] at h; cases h
        | inr ct =>
          obtain ⟨c, t1⟩ := ct
          rw [ha] at h
          replace h : (match mkP (nx len bs t1) (if op = 8 then 40 else 59) with | .inl e => .inl e | .inr _ => .inr (if op = 8 then opnZ c.2.2 z else addZ c z, nx len bs (nx len bs t1)) : Rd (Zp × Tok)) = .inr (z2, t2) := h
          obtain ⟨-, -, -, a4, a5⟩ := arP_ok ho hT ha
          cases hm : mkP (nx len bs t1) (if op = 8 then 40 else 59) with
          | inl e => rw [hm] at h; cases h
          | inr u =>
            rw [hm] at h
            cases h
            have n1 := a4.nx (bs := bs)
            have n2 := n1.1.nx (bs := bs)
            have := hT.2.2.2.2 (by omega)
            have := n1.1.2.2.1
            exact ⟨n2.1, by omega⟩
/-! the class's command words -/
theorem opC_facts : ∀ k, k < 9 → opC k < 9 ∧ (cmN (opC k) = 0 ↔ ¬ k ≤ 3) ∧ (cmV (opC k) = 0 ↔ ¬ hasV k = true) ∧ (opC k = 8 ↔ k = 8) := by decide
def wCl (k : Nat) : List Nat := ([wPref, wSwap, wTurn, wBack, wCome, wGo, wSort, wRev, wRep] : List (List Nat)).getD k []
theorem wCl_ok : ∀ k, k < 9 → (1 ≤ (wCl k).length ∧ (wCl k).length ≤ 8 ∧ ∀ l ∈ wCl k, 1 ≤ l ∧ l ≤ 26) := by decide
theorem wCl_tx : ∀ k, k < 9 → (txC k).2 = (wCl k).map (fun (l : Nat) => iZ (96 + (l : Int))) := by decide
theorem x3_step (h : HD) {ks : List Nat} (hk : NmOk ks) (f : Nat) {k : Nat} (k9 : k < 9) : jX3_withWord_L10 (jZ (eC ks)) h (f + 1) (iZ k) = if ks = wCl k then some (some k) else jX3_withWord_L10 (jZ (eC ks)) h f (iZ ((k + 1 : Nat) : Int)) := by
  have w := wCl_ok k k9
  have hw : NmOk (wCl k) := w
  have e1 := eC_le hk
  have e2 := eC_le hw
  rw [jX3_withWord_L10, i9, if_neg (le_n (by omega) (by omega) (by omega)), inB_t (by omega) (by omega) (by omega), if_pos rfl, iZ_nat (by omega) (by omega), Int.toNat_natCast, x8_wordOf h hw.lt hw.2.1 (wCl_tx k k9), Option.bind_some, i1, iZ_add]
  by_cases q : ks = wCl k
  · rw [if_pos q, if_pos ((lg_eq0 _ _).mpr (by rw [q]))]
  · have : ¬ lg_cmp (jZ (eC (wCl k))) (jZ (eC ks)) = 0 := fun c => by
      have := (lg_eq0 _ _).mp c
      rw [jZ_eq (by omega) (by omega) (by omega) (by omega)] at this
      exact q (eC_inj hw hk this).symm
    rw [if_neg q, if_neg this]
    rfl
theorem x3_withWord (h : HD) {ks : List Nat} (hk : NmOk ks) : jX3_withWord (jZ (eC ks)) h = some ((opW ks).map opC) := by
  unfold jX3_withWord
  have fin : jX3_withWord_L10 (jZ (eC ks)) h (FU - 9) (iZ ((9 : Nat) : Int)) = some none := by
    rw [show FU - 9 = 999990 + 1 from rfl, jX3_withWord_L10, i9]
    exact if_pos (le_y (by omega) (by omega) (by omega))
  have st := fun (f : Nat) (k : Nat) (k9 : k < 9) => x3_step h hk f k9
  show jX3_withWord_L10 (jZ (eC ks)) h (999999 + 1) (iZ ((0 : Nat) : Int)) = _
  rw [st 999999 0 (by decide)]
  show (if ks = wPref then _ else jX3_withWord_L10 (jZ (eC ks)) h (999998 + 1) (iZ ((1 : Nat) : Int))) = _
  by_cases q0 : ks = wPref
  · rw [if_pos q0, q0]; rfl
  rw [if_neg q0, st 999998 1 (by decide)]
  show (if ks = wSwap then _ else jX3_withWord_L10 (jZ (eC ks)) h (999997 + 1) (iZ ((2 : Nat) : Int))) = _
  by_cases q1 : ks = wSwap
  · rw [if_pos q1, q1]; rfl
  rw [if_neg q1, st 999997 2 (by decide)]
  show (if ks = wTurn then _ else jX3_withWord_L10 (jZ (eC ks)) h (999996 + 1) (iZ ((3 : Nat) : Int))) = _
  by_cases q2 : ks = wTurn
  · rw [if_pos q2, q2]; rfl
  rw [if_neg q2, st 999996 3 (by decide)]
  show (if ks = wBack then _ else jX3_withWord_L10 (jZ (eC ks)) h (999995 + 1) (iZ ((4 : Nat) : Int))) = _
  by_cases q3 : ks = wBack
  · rw [if_pos q3, q3]; rfl
  rw [if_neg q3, st 999995 4 (by decide)]
  show (if ks = wCome then _ else jX3_withWord_L10 (jZ (eC ks)) h (999994 + 1) (iZ ((5 : Nat) : Int))) = _
  by_cases q4 : ks = wCome
  · rw [if_pos q4, q4]; rfl
  rw [if_neg q4, st 999994 5 (by decide)]
  show (if ks = wGo then _ else jX3_withWord_L10 (jZ (eC ks)) h (999993 + 1) (iZ ((6 : Nat) : Int))) = _
  by_cases q5 : ks = wGo
  · rw [if_pos q5, q5]; rfl
  rw [if_neg q5, st 999993 6 (by decide)]
  show (if ks = wSort then _ else jX3_withWord_L10 (jZ (eC ks)) h (999992 + 1) (iZ ((7 : Nat) : Int))) = _
  by_cases q6 : ks = wSort
  · rw [if_pos q6, q6]; rfl
  rw [if_neg q6, st 999992 7 (by decide)]
  show (if ks = wRev then _ else jX3_withWord_L10 (jZ (eC ks)) h (999991 + 1) (iZ ((8 : Nat) : Int))) = _
  by_cases q7 : ks = wRev
  · rw [if_pos q7, q7]; rfl
  rw [if_neg q7, st 999991 8 (by decide)]
  show (if ks = wRep then _ else jX3_withWord_L10 (jZ (eC ks)) h (FU - 9) (iZ ((9 : Nat) : Int))) = _
  by_cases q8 : ks = wRep
  · rw [if_pos q8, q8]; rfl
  rw [if_neg q8, fin]
  unfold opW
  rw [if_neg q0, if_neg q4, if_neg q1, if_neg q5, if_neg q2, if_neg q3, if_neg q6, if_neg q7, if_neg q8]
  rfl
