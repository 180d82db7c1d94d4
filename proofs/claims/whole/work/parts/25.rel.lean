/-! THE CLASS'S STATE AND THE REFERENCE'S -/
/-- a name as a number: its letters 1 to 26, base 32; the class's begins with the highest of eight places -/
def eM (ls : List Nat) : Int := ls.foldl (fun (a : Int) (l : Nat) => a * 32 + (l : Int)) 0
def eC (ls : List Nat) : Int := eM ls * 32 ^ (8 - ls.length)
def NmOk (ls : List Nat) : Prop := 1 ≤ ls.length ∧ ls.length ≤ 8 ∧ ∀ l ∈ ls, 1 ≤ l ∧ l ≤ 26
/-- a row of cars: how many, BACK, preferences, names -/
abbrev Row : Type := Int × Int × (Int → Int) × (Int → List Nat)
def RwOk (R : Row) : Prop := PrOk R.1 R.2.1 R.2.2.1 ∧ ∀ z, 0 ≤ z → z < R.1 → NmOk (R.2.2.2 z)
def RwC (h : HD) (o : Nat) (R : Row) : Prop := PrC h o R.1 R.2.1 R.2.2.1 ∧ ∀ z : Int, 0 ≤ z → z < R.1 → gJ h (1, o, 1) z.toNat = jZ (eC (R.2.2.2 z))
def RwM (h : HD) (r t : Rf) (a c : Int) (R : Row) : Prop := gI h r a.toNat = iZ R.1 ∧ gI h r (a + 1).toNat = iZ R.2.1 ∧ (∀ z : Int, 0 ≤ z → z < R.1 → gI h r (a + 2 + z).toNat = iZ (R.2.2.1 z)) ∧ ∀ z : Int, 0 ≤ z → z < R.1 → gJ h t (c + z).toNat = jZ (eM (R.2.2.2 z))
theorem RwM.pr {h : HD} {R : Row} (hM : RwM h (7, 0, 2) (7, 0, 7) 0 0 R) : PrM h R.1 R.2.1 R.2.2.1 := ⟨hM.1, hM.2.1, fun z h1 h2 => by have := hM.2.2.1 z h1 h2; rwa [show (0 : Int) + 2 + z = 2 + z by omega] at this⟩
/-- the cells that no call needs of another -/
def scr : Rf → Nat → Bool := fun r k => (Nat.beq r.1 1 && (Nat.beq r.2.1 1 || Nat.beq r.2.1 3)) || Nat.beq r.1 2 || Nat.beq r.1 3 || Nat.beq r.1 4 || Nat.beq r.1 5 || (Nat.beq r.1 6 && Nat.beq r.2.2 0 && Nat.beq k 15) || (Nat.beq r.1 7 && Nat.beq r.2.2 0 && (Nat.beq k 0 || (Nat.ble 3 k && Nat.ble k 9) || Nat.beq k 12 || Nat.beq k 38 || Nat.beq k 45 || Nat.beq k 46 || Nat.beq k 47)) || (Nat.beq r.1 7 && (Nat.beq r.2.2 4 || Nat.beq r.2.2 5 || Nat.beq r.2.2 9 || Nat.beq r.2.2 10 || (Nat.ble 13 r.2.2 && Nat.ble r.2.2 29))) || Nat.beq r.1 8
def sby (x : Int) : Int := if x < 128 then x else x - 256
def RBuf (h : HD) : Prop := ∃ (len : Int) (bs : Int → Int), 0 ≤ len ∧ len ≤ 400 ∧ gI h (0, 0, 0) 1 = iZ len ∧ gI h (7, 0, 0) 2 = iZ len ∧ ∀ z : Int, 0 ≤ z → z < len → 0 ≤ bs z ∧ bs z < 256 ∧ gI h (0, 0, 1) z.toNat = iZ (sby (bs z)) ∧ gI h (7, 0, 1) z.toNat = iZ (bs z)
def RAcc (h : HD) : Prop := (∀ i : Nat, i < 5 → gI h (6, 0, 2) i = gI h (7, 0, 12) i) ∧ gI h (6, 0, 0) 16 = gI h (7, 0, 0) 26
def RErr (h : HD) : Prop := gI h (6, 0, 0) 17 = gI h (7, 0, 0) 10 ∧ gI h (6, 0, 0) 18 = gI h (7, 0, 0) 11
def RUnd (h : HD) : Prop := ∃ (k : Int) (past : Int → Row), 0 ≤ k ∧ k ≤ 6 ∧ gI h (6, 0, 0) 13 = iZ k ∧ gI h (7, 0, 0) 23 = iZ k ∧ (∀ i : Nat, i < 6 → 4 ≤ gK h i ∧ gK h i < 10) ∧ (∀ i j : Nat, i < 6 → j < 6 → gK h i = gK h j → i = j) ∧ ∀ z : Int, 0 ≤ z → z < k → RwOk (past z) ∧ RwC h (gK h z.toNat) (past z) ∧ RwM h (7, 0, 6) (7, 0, 11) (13 * z) (11 * z) (past z)
def RSav (h : HD) : Prop := (gI h (6, 0, 0) 14 = iZ 0 ∧ gI h (7, 0, 0) 24 = iZ 0) ∨ (gI h (6, 0, 0) 14 = iZ 1 ∧ gI h (7, 0, 0) 24 = iZ 1 ∧ ∃ R : Row, RwOk R ∧ RwC h 2 R ∧ RwM h (7, 0, 3) (7, 0, 8) 0 0 R)
def RRep (h : HD) : Prop := ∃ len : Int, 0 ≤ len ∧ len ≤ 120 ∧ gI h (0, 1, 0) 1 = iZ len ∧ gI h (7, 0, 0) 49 = iZ len ∧ (∀ z : Int, 0 ≤ z → z < len → gI h (0, 1, 1) z.toNat = gI h (7, 0, 30) z.toNat) ∧ (gI h (7, 0, 0) 50 = iZ 1 ∨ (gI h (7, 0, 0) 50 = iZ 0 ∧ len = 0))
def RCur (h : HD) (R : Row) : Prop := RwOk R ∧ RwC h 0 R ∧ RwM h (7, 0, 2) (7, 0, 7) 0 0 R
def Rel (h : HD) : Prop := (∃ R : Row, RCur h R) ∧ RBuf h ∧ RAcc h ∧ RErr h ∧ RUnd h ∧ RSav h ∧ RRep h
theorem RwC.fr {S : Rf → Nat → Bool} {h h2 : HD} {o : Nat} {R : Row} (hR : RwC h o R) (hF : Fr S h h2) (hs : ∀ j k, S (1, o, j) k = false) : RwC h2 o R := ⟨hR.1.fr hF hs, fun z h1 h3 => (hF.2.1 _ _ (hs _ _)).trans (hR.2 z h1 h3)⟩
theorem RwM.fr {S : Rf → Nat → Bool} {h h2 : HD} {r t : Rf} {a c : Int} {R : Row} (hR : RwM h r t a c R) (hF : Fr S h h2) (hs : ∀ k, S r k = false) (ht : ∀ k, S t k = false) : RwM h2 r t a c R := ⟨(hF.1 _ _ (hs _)).trans hR.1, (hF.1 _ _ (hs _)).trans hR.2.1, fun z h1 h3 => (hF.1 _ _ (hs _)).trans (hR.2.2.1 z h1 h3), fun z h1 h3 => (hF.2.1 _ _ (ht _)).trans (hR.2.2.2 z h1 h3)⟩
theorem RBuf.fr {S : Rf → Nat → Bool} {h h2 : HD} (hR : RBuf h) (hF : Fr S h h2) (s1 : S (0, 0, 0) 1 = false) (s2 : S (7, 0, 0) 2 = false) (s3 : ∀ k, S (0, 0, 1) k = false) (s4 : ∀ k, S (7, 0, 1) k = false) : RBuf h2 := by
  obtain ⟨len, bs, l0, l1, e1, e2, hb⟩ := hR
  exact ⟨len, bs, l0, l1, (hF.1 _ _ s1).trans e1, (hF.1 _ _ s2).trans e2, fun z h1 h3 => ⟨(hb z h1 h3).1, (hb z h1 h3).2.1, (hF.1 _ _ (s3 _)).trans (hb z h1 h3).2.2.1, (hF.1 _ _ (s4 _)).trans (hb z h1 h3).2.2.2⟩⟩
theorem RAcc.fr {S : Rf → Nat → Bool} {h h2 : HD} (hR : RAcc h) (hF : Fr S h h2) (s1 : ∀ k, S (6, 0, 2) k = false) (s2 : ∀ k, S (7, 0, 12) k = false) (s3 : S (6, 0, 0) 16 = false) (s4 : S (7, 0, 0) 26 = false) : RAcc h2 := ⟨fun i hi => ((hF.1 _ _ (s1 _)).trans (hR.1 i hi)).trans (hF.1 _ _ (s2 _)).symm, ((hF.1 _ _ s3).trans hR.2).trans (hF.1 _ _ s4).symm⟩
theorem RErr.fr {S : Rf → Nat → Bool} {h h2 : HD} (hR : RErr h) (hF : Fr S h h2) (s1 : S (6, 0, 0) 17 = false) (s2 : S (7, 0, 0) 10 = false) (s3 : S (6, 0, 0) 18 = false) (s4 : S (7, 0, 0) 11 = false) : RErr h2 := ⟨((hF.1 _ _ s1).trans hR.1).trans (hF.1 _ _ s2).symm, ((hF.1 _ _ s3).trans hR.2).trans (hF.1 _ _ s4).symm⟩
theorem RUnd.fr {S : Rf → Nat → Bool} {h h2 : HD} (hR : RUnd h) (hF : Fr S h h2) (s1 : S (6, 0, 0) 13 = false) (s2 : S (7, 0, 0) 23 = false) (s3 : ∀ o j k, 4 ≤ o → S (1, o, j) k = false) (s4 : ∀ k, S (7, 0, 6) k = false) (s5 : ∀ k, S (7, 0, 11) k = false) : RUnd h2 := by
  obtain ⟨k, past, k0, k1, e1, e2, g1, g2, hb⟩ := hR
  refine ⟨k, past, k0, k1, (hF.1 _ _ s1).trans e1, (hF.1 _ _ s2).trans e2, fun i hi => by rw [hF.kK]; exact g1 i hi, fun i j hi hj => by rw [hF.kK, hF.kK]; exact g2 i j hi hj, fun z h1 h3 => ?_⟩
  obtain ⟨a1, a2, a3⟩ := hb z h1 h3
  rw [hF.kK]
  exact ⟨a1, a2.fr hF (fun j q => s3 _ j q (g1 z.toNat (by omega)).1), a3.fr hF s4 s5⟩
theorem RSav.fr {S : Rf → Nat → Bool} {h h2 : HD} (hR : RSav h) (hF : Fr S h h2) (s1 : S (6, 0, 0) 14 = false) (s2 : S (7, 0, 0) 24 = false) (s3 : ∀ j k, S (1, 2, j) k = false) (s4 : ∀ k, S (7, 0, 3) k = false) (s5 : ∀ k, S (7, 0, 8) k = false) : RSav h2 := by
  rcases hR with ⟨e1, e2⟩ | ⟨e1, e2, R, a1, a2, a3⟩
  · exact Or.inl ⟨(hF.1 _ _ s1).trans e1, (hF.1 _ _ s2).trans e2⟩
  · exact Or.inr ⟨(hF.1 _ _ s1).trans e1, (hF.1 _ _ s2).trans e2, R, a1, a2.fr hF s3, a3.fr hF s4 s5⟩
theorem RRep.fr {S : Rf → Nat → Bool} {h h2 : HD} (hR : RRep h) (hF : Fr S h h2) (s1 : S (0, 1, 0) 1 = false) (s2 : S (7, 0, 0) 49 = false) (s3 : ∀ k, S (0, 1, 1) k = false) (s4 : ∀ k, S (7, 0, 30) k = false) (s5 : S (7, 0, 0) 50 = false) : RRep h2 := by
  obtain ⟨len, l0, l1, e1, e2, hb, e3⟩ := hR
  refine ⟨len, l0, l1, (hF.1 _ _ s1).trans e1, (hF.1 _ _ s2).trans e2, fun z h1 h3 => ((hF.1 _ _ (s3 _)).trans (hb z h1 h3)).trans (hF.1 _ _ (s4 _)).symm, ?_⟩
  rw [hF.1 _ _ s5]
  exact e3
theorem RCur.fr {S : Rf → Nat → Bool} {h h2 : HD} {R : Row} (hR : RCur h R) (hF : Fr S h h2) (s1 : ∀ j k, S (1, 0, j) k = false) (s2 : ∀ k, S (7, 0, 2) k = false) (s3 : ∀ k, S (7, 0, 7) k = false) : RCur h2 R := ⟨hR.1, hR.2.1.fr hF s1, hR.2.2.fr hF s2 s3⟩
theorem scr_1 {o : Nat} (ho : o ≠ 1 ∧ o ≠ 3) : ∀ j k, scr (1, o, j) k = false := fun j k => by
  have e1 : Nat.beq o 1 = false := by
    cases h : Nat.beq o 1 with
    | true => exact absurd (Nat.eq_of_beq_eq_true h) ho.1
    | false => rfl
  have e3 : Nat.beq o 3 = false := by
    cases h : Nat.beq o 3 with
    | true => exact absurd (Nat.eq_of_beq_eq_true h) ho.2
    | false => rfl
  unfold scr
  show (((((((((Nat.beq 1 1 && (Nat.beq o 1 || Nat.beq o 3)) || _) || _) || _) || _) || _) || _) || _) || _) = false
  rw [e1, e3]
  rfl
/-- calls that change nothing but what no call needs -/
theorem Rel.fr {h h2 : HD} (hR : Rel h) (hF : Fr scr h h2) : Rel h2 := by
  obtain ⟨⟨R, r1⟩, r2, r3, r4, r5, r6, r7⟩ := hR
  exact ⟨⟨R, r1.fr hF (scr_1 (by decide)) (fun _ => rfl) (fun _ => rfl)⟩, r2.fr hF rfl rfl (fun _ => rfl) (fun _ => rfl), r3.fr hF (fun _ => rfl) (fun _ => rfl) rfl rfl, r4.fr hF rfl rfl rfl rfl, r5.fr hF rfl rfl (fun o j k ho => scr_1 ⟨by omega, by omega⟩ j k) (fun _ => rfl) (fun _ => rfl), r6.fr hF rfl rfl (scr_1 (by decide)) (fun _ => rfl) (fun _ => rfl), r7.fr hF rfl rfl (fun _ => rfl) (fun _ => rfl) rfl⟩
/-! what a call's two answers have to do with each other -/
/-- an answer or an exception against the reference's answer and code -/
def Pr (exs : List Nat) (r : Nat ⊕ Int32) (w : Int32) (h2 : HD) : Prop := (r = .inr w ∧ gI h2 (7, 0, 0) 0 = iZ 0) ∨ ∃ (i e : Nat), exs[i]? = some e ∧ r = .inl e ∧ gI h2 (7, 0, 0) 0 = iZ (i + 1)
def PrB (exs : List Nat) (r : Nat ⊕ Bool) (w : Bool) (h2 : HD) : Prop := (r = .inr w ∧ gI h2 (7, 0, 0) 0 = iZ 0) ∨ ∃ (i e : Nat), exs[i]? = some e ∧ r = .inl e ∧ gI h2 (7, 0, 0) 0 = iZ (i + 1)
/-- the code alone has changed -/
def c0 (h : HD) (z : Int) : HD := sI h (7, 0, 0) 0 (iZ z)
theorem c0_def (h : HD) : sI h (7, 0, 0) 0 (0 : Int32) = c0 h 0 := rfl
theorem c0_fr (h : HD) (z : Int) : Fr scr h (c0 h z) := Fr.rf.sI rfl _
theorem c0_0 (h : HD) (z : Int) : gI (c0 h z) (7, 0, 0) 0 = iZ z := gI_self _ _ _ _
theorem x9_goes (h : HD) (x : Bool) : jX9_goes x h = some (x, c0 h (b1 (!x))) := by
  unfold jX9_goes c0
  cases x
  · rw [if_neg (by decide), x9_truth]; rfl
  · rw [if_pos rfl, x9_truth]; rfl
theorem x9_both (h : HD) (x y : Bool) : jX9_goesBoth x y h = some (x && y, c0 h (bif x then bif y then 0 else 2 else 1)) := by
  unfold jX9_goesBoth c0
  cases x
  · rw [if_neg (by decide), lt_eq, gI_self, if_neg (by decide)]; rfl
  · rw [if_pos rfl]
    cases y
    · rw [if_neg (by decide), lt_eq, gI_self, if_neg (by decide)]; rfl
    · rw [if_pos rfl, lt_eq, gI_self, if_pos (by decide)]; rfl
theorem PrM.c0 {h : HD} {n b : Int} {pf : Int → Int} (hR : PrM h n b pf) (z : Int) : PrM (c0 h z) n b pf := hR.fr (S := fun r _ => decide (r = (7, 0, 0))) (Fr.rf.sI rfl _) (fun _ => rfl)
theorem sPm_scr {h h2 : HD} (hF : Fr sPm h h2) : Fr scr h h2 := hF.mono fun r k q => by
  refine decide_eq_false fun e => ?_
  rcases e with e | e | e <;> · rw [e] at q; simp [scr] at q
theorem sPl_scr {h h2 : HD} (hF : Fr sPl h h2) : Fr scr h h2 := hF.mono fun r k q => by
  refine decide_eq_false fun e => ?_
  rcases e with e | e | e | e | e <;> · rw [e] at q; simp [scr] at q
theorem sPk_scr {o : Nat} {h h2 : HD} (hF : Fr (sPk o) h h2) : Fr scr h h2 := hF.mono fun r k q => by
  refine decide_eq_false fun e => ?_
  unfold scr at q
  rw [e.1] at q
  simp at q
section
variable {h : HD} {n b : Int} {pf : Int → Int}
theorem x9_isCar (hR : PrM h n b pf) (hn : 0 ≤ n ∧ n ≤ 11) {z : Int} (h1 : -2147483648 ≤ z) (h2 : z < 2147483648) : jX9_isCar (iZ z) h = some (decide (0 ≤ z ∧ z < n)) := by
  unfold jX9_isCar
  rw [hR.1, i1, iZ_sub, iZ_j (by omega) (by omega), iZ_j (by omega) (by omega), show (0 : Int64) = jZ 0 from rfl, jZ_is (by omega) (by omega) (by omega) (by omega) (by omega) (by omega)]
  congr 1
  by_cases q : 0 ≤ z ∧ z < n
  · rw [decide_eq_true q, decide_eq_true (by omega)]
  · rw [decide_eq_false q, decide_eq_false (by omega)]
theorem x9_isSpot (hR : PrM h n b pf) (hn : 0 ≤ n ∧ n ≤ 11) {z : Int} (h1 : -2147483648 ≤ z) (h2 : z < 2147483648) : jX9_isSpot (iZ z) h = some (decide (0 ≤ z ∧ z ≤ n)) := by
  unfold jX9_isSpot
  rw [hR.1, iZ_j (by omega) (by omega), iZ_j (by omega) (by omega), show (0 : Int64) = jZ 0 from rfl, jZ_is (by omega) (by omega) (by omega) (by omega) (by omega) (by omega)]
theorem x9_areCars (hR : PrM h n b pf) (hn : 0 ≤ n ∧ n ≤ 11) {z : Int} (h1 : -2147483648 ≤ z) (h2 : z < 2147483648) : jX9_areCars (iZ z) h = some (decide (0 ≤ z ∧ z ≤ n)) := by
  unfold jX9_areCars
  rw [hR.1, iZ_j (by omega) (by omega), iZ_j (by omega) (by omega), show (0 : Int64) = jZ 0 from rfl, jZ_is (by omega) (by omega) (by omega) (by omega) (by omega) (by omega)]
theorem x8_needCar {o : Nat} (hR : PrC h 0 n b pf) (hn : 0 ≤ n ∧ n ≤ 11) {z : Int} (h1 : -2147483648 ≤ z) (h2 : z < 2147483648) : jX8_needCar (iZ z) h = some (if 0 ≤ z ∧ z < n then .inr () else .inl 2) := by
  unfold jX8_needCar
  rw [x2_hasCar hR.1 hn h1 h2]
  by_cases q : 0 ≤ z ∧ z < n
  · rw [decide_eq_true q, if_pos rfl, if_pos q]
  · rw [decide_eq_false q, if_neg (by decide), if_neg q]
theorem x2_hasSpot {o : Nat} (hR : PrC h o n b pf) (hn : 0 ≤ n ∧ n ≤ 11) {z : Int} (h1 : -2147483648 ≤ z) (h2 : z < 2147483648) : jX2_hasSpot o (iZ z) h = decide (0 ≤ z ∧ z ≤ n) := by
  unfold jX2_hasSpot
  rw [hR.1, i0]
  by_cases q1 : z < 0
  · rw [if_pos (lt_y (by omega) (by omega) (by omega)), decide_eq_false (by omega)]
  · rw [if_neg (lt_n (by omega) (by omega) (by omega))]
    by_cases q2 : n < z
    · rw [if_pos (lt_y (by omega) (by omega) (by omega)), decide_eq_false (by omega)]
    · rw [if_neg (lt_n (by omega) (by omega) (by omega)), decide_eq_true (by omega)]
theorem x8_needSpot (hR : PrC h 0 n b pf) (hn : 0 ≤ n ∧ n ≤ 11) {z : Int} (h1 : -2147483648 ≤ z) (h2 : z < 2147483648) : jX8_needSpot (iZ z) h = some (if 0 ≤ z ∧ z ≤ n then .inr () else .inl 2) := by
  unfold jX8_needSpot
  rw [x2_hasSpot hR hn h1 h2]
  by_cases q : 0 ≤ z ∧ z ≤ n
  · rw [decide_eq_true q, if_pos rfl, if_pos q]
  · rw [decide_eq_false q, if_neg (by decide), if_neg q]
theorem x8_needNode (hR : PrC h 0 n b pf) (hn : 0 ≤ n ∧ n ≤ 11) {z : Int} (h1 : -2147483648 ≤ z) (h2 : z < 2147483648) : jX8_needNode (iZ z) h = some (if 0 ≤ z ∧ z ≤ n then .inr () else .inl 2) := by
  unfold jX8_needNode
  rw [x2_hasSpot hR hn h1 h2]
  by_cases q : 0 ≤ z ∧ z ≤ n
  · rw [decide_eq_true q, if_pos rfl, if_pos q]
  · rw [decide_eq_false q, if_neg (by decide), if_neg q]
theorem x8_needPref (hR : PrC h 0 n b pf) (hn : 0 ≤ n ∧ n ≤ 11) {z : Int} (h1 : -2147483648 ≤ z) (h2 : z < 2147483648) : jX8_needPreference (iZ z) h = some (if 0 ≤ z ∧ z ≤ n then .inr () else .inl 1) := by
  unfold jX8_needPreference
  rw [x2_hasSpot hR hn h1 h2]
  by_cases q : 0 ≤ z ∧ z ≤ n
  · rw [decide_eq_true q, if_pos rfl, if_pos q]
  · rw [decide_eq_false q, if_neg (by decide), if_neg q]
theorem x8_needSet (h : HD) {z : Int} (h1 : -2147483648 ≤ z) (h2 : z < 2147483648) : jX8_needSetting (iZ z) h = some (if 0 ≤ z ∧ z ≤ 9 then .inr () else .inl 1) := by
  unfold jX8_needSetting
  rw [i0, i9]
  by_cases q1 : z < 0
  · rw [if_pos (lt_y (by omega) (by omega) (by omega)), if_neg (by omega)]
  · rw [if_neg (lt_n (by omega) (by omega) (by omega))]
    by_cases q2 : z ≤ 9
    · rw [if_pos (le_y (by omega) (by omega) (by omega)), if_pos (by omega)]
    · rw [if_neg (le_n (by omega) (by omega) (by omega)), if_neg (by omega)]
theorem x9_isSet (h : HD) {z : Int} (h1 : -2147483648 ≤ z) (h2 : z < 2147483648) : jX9_isSetting (iZ z) h = decide (0 ≤ z ∧ z ≤ 9) := by
  unfold jX9_isSetting
  rw [iZ_j (by omega) (by omega), show (0 : Int64) = jZ 0 from rfl, show (9 : Int64) = jZ 9 from rfl, jZ_is (by omega) (by omega) (by omega) (by omega) (by omega) (by omega)]
/-- one of the ten numbers -/
def stN (R : Row) (w : Int32) : Int := if w = 0 then R.1 else if w = 1 then R.1 + 1 else if w = 2 then R.2.1 else if w = 3 then fr (R.1 + 1) R.2.1 R.2.2.1 R.1 else if w = 4 then lkN R.1 R.2.1 R.2.2.1 else if w = 5 then arN R.1 R.2.1 R.2.2.1 else if w = 6 then wyN R.1 R.2.1 R.2.2.1 else if w = 7 then tn R.1 R.2.1 R.2.2.1 else if w = 8 then brN R.1 R.2.1 R.2.2.1 else prN R.1 R.2.2.1
theorem x8_settingOf {h : HD} (o : Nat) {R : Row} (hR : RwC h o R) (hok : RwOk R) (w : Int32) : ∃ h2, jX8_settingOf o w h = some (iZ (stN R w), h2) ∧ Fr (sPk 0) h h2 := by
  obtain ⟨n, b, pf, nm⟩ := R
  have hP : PrC h o n b pf := hR.1
  have ho : PrOk n b pf := hok.1
  obtain ⟨h2, e2, f2, k2⟩ := x4_comeRound 0 o hP ho ho.1 (Int.le_refl n)
  have hP2 := hP.fr f2 (sPk_1 0 o)
  refine ⟨h2, ?_, f2⟩
  unfold jX8_settingOf jX2_count
  rw [hP.1, e2, Option.bind_some]
  have es : jX2_spots o h2 = iZ (n + 1) := by unfold jX2_spots; rw [hP2.1, i1, iZ_add]
  unfold stN jX2_back jX4_freeSpot
  rw [es, x4_lucky k2 ho, x4_area k2 ho, x4_way k2 ho, x4_turn k2, x4_breaks k2 ho, x2_preferred hP2 ho, hP2.1, hP2.2.1, k2.2]
  simp only [Option.bind_some]
  by_cases q0 : w = 0
  · rw [if_pos q0, if_pos q0]
  · rw [if_neg q0, if_neg q0]
    by_cases q1 : w = 1
    · rw [if_pos q1, if_pos q1]
    · rw [if_neg q1, if_neg q1]
      by_cases q2 : w = 2
      · rw [if_pos q2, if_pos q2]
      · rw [if_neg q2, if_neg q2]
        by_cases q3 : w = 3
        · rw [if_pos q3, if_pos q3]
        · rw [if_neg q3, if_neg q3]
          by_cases q4 : w = 4
          · rw [if_pos q4, if_pos q4]
          · rw [if_neg q4, if_neg q4]
            by_cases q5 : w = 5
            · rw [if_pos q5, if_pos q5]
            · rw [if_neg q5, if_neg q5]
              by_cases q6 : w = 6
              · rw [if_pos q6, if_pos q6]
              · rw [if_neg q6, if_neg q6]
                by_cases q7 : w = 7
                · rw [if_pos q7, if_pos q7]
                · rw [if_neg q7, if_neg q7]
                  by_cases q8 : w = 8
                  · rw [if_pos q8, if_pos q8]
                  · rw [if_neg q8, if_neg q8]
theorem x9_settingOf {h : HD} {R : Row} (hR : PrM h R.1 R.2.1 R.2.2.1) (hok : RwOk R) (w : Int32) : ∃ h2, jX9_settingOf w h = some (iZ (stN R w), h2) ∧ Fr sPm h h2 := by
  obtain ⟨n, b, pf, nm⟩ := R
  have hP : PrM h n b pf := hR
  have ho : PrOk n b pf := hok.1
  obtain ⟨h2, e2, f2, k2⟩ := x9_parks hP ho ho.1 (Int.le_refl n)
  have hP2 := hP.fr f2 (fun _ => rfl)
  refine ⟨h2, ?_, f2⟩
  unfold jX9_settingOf
  rw [hP.1, e2, Option.bind_some]
  unfold stN
  rw [x9_lucky hP2 k2 ho, x9_area hP2 k2 ho, x9_way hP2 k2 ho, x9_turn hP2 k2 ⟨ho.1, ho.2.1⟩, x9_breaks hP2 k2 ho, x9_preferred hP2 ho, hP2.1, hP2.2.1, x9_gap k2 ⟨ho.1, ho.2.1⟩ ho.1 (Int.le_refl n), x9_spots hP2]
  simp only [Option.bind_some]
  by_cases q0 : w = 0
  · rw [if_pos q0, if_pos q0]
  · rw [if_neg q0, if_neg q0]
    by_cases q1 : w = 1
    · rw [if_pos q1, if_pos q1]
    · rw [if_neg q1, if_neg q1]
      by_cases q2 : w = 2
      · rw [if_pos q2, if_pos q2]
      · rw [if_neg q2, if_neg q2]
        by_cases q3 : w = 3
        · rw [if_pos q3, if_pos q3]
        · rw [if_neg q3, if_neg q3]
          by_cases q4 : w = 4
          · rw [if_pos q4, if_pos q4]
          · rw [if_neg q4, if_neg q4]
            by_cases q5 : w = 5
            · rw [if_pos q5, if_pos q5]
            · rw [if_neg q5, if_neg q5]
              by_cases q6 : w = 6
              · rw [if_pos q6, if_pos q6]
              · rw [if_neg q6, if_neg q6]
                by_cases q7 : w = 7
                · rw [if_pos q7, if_pos q7]
                · rw [if_neg q7, if_neg q7]
                  by_cases q8 : w = 8
                  · rw [if_pos q8, if_pos q8]
                  · rw [if_neg q8, if_neg q8]
end
/-- the pair of calls: both come to their ends, alike, and the states are alike behind them -/
def PP (exs : List Nat) (X8 : Option ((Nat ⊕ Int32) × HD)) (X9 : HD → Option (Int32 × HD)) : Prop := ∃ r h1 v h2, X8 = some (r, h1) ∧ X9 h1 = some (v, h2) ∧ Rel h2 ∧ Pr exs r v h2
theorem PP.ok {exs : List Nat} {X8 : Option ((Nat ⊕ Int32) × HD)} {X9 : HD → Option (Int32 × HD)} {v : Int32} {h1 h2 : HD} (e1 : X8 = some (.inr v, h1)) (e2 : X9 h1 = some (v, h2)) (hR : Rel h2) (h0 : gI h2 (7, 0, 0) 0 = iZ 0) : PP exs X8 X9 := ⟨_, h1, v, h2, e1, e2, hR, Or.inl ⟨rfl, h0⟩⟩
theorem PP.ex {exs : List Nat} {X8 : Option ((Nat ⊕ Int32) × HD)} {X9 : HD → Option (Int32 × HD)} {w : Int32} {h1 h2 : HD} (i : Nat) {e : Nat} (e1 : X8 = some (.inl e, h1)) (e2 : X9 h1 = some (w, h2)) (hR : Rel h2) (hi : exs[i]? = some e) (h0 : gI h2 (7, 0, 0) 0 = iZ (i + 1)) : PP exs X8 X9 := ⟨_, h1, w, h2, e1, e2, hR, Or.inr ⟨i, e, hi, rfl, h0⟩⟩
def PB (exs : List Nat) (X8 : Option ((Nat ⊕ Bool) × HD)) (X9 : HD → Option (Bool × HD)) : Prop := ∃ r h1 v h2, X8 = some (r, h1) ∧ X9 h1 = some (v, h2) ∧ Rel h2 ∧ PrB exs r v h2
theorem PB.ok {exs : List Nat} {X8 : Option ((Nat ⊕ Bool) × HD)} {X9 : HD → Option (Bool × HD)} {v : Bool} {h1 h2 : HD} (e1 : X8 = some (.inr v, h1)) (e2 : X9 h1 = some (v, h2)) (hR : Rel h2) (h0 : gI h2 (7, 0, 0) 0 = iZ 0) : PB exs X8 X9 := ⟨_, h1, v, h2, e1, e2, hR, Or.inl ⟨rfl, h0⟩⟩
theorem PB.ex {exs : List Nat} {X8 : Option ((Nat ⊕ Bool) × HD)} {X9 : HD → Option (Bool × HD)} {w : Bool} {h1 h2 : HD} (i : Nat) {e : Nat} (e1 : X8 = some (.inl e, h1)) (e2 : X9 h1 = some (w, h2)) (hR : Rel h2) (hi : exs[i]? = some e) (h0 : gI h2 (7, 0, 0) 0 = iZ (i + 1)) : PB exs X8 X9 := ⟨_, h1, w, h2, e1, e2, hR, Or.inr ⟨i, e, hi, rfl, h0⟩⟩
/-- a pair without exceptions -/
def PV {τ : Type} (X8 : Option (τ × HD)) (X9 : HD → Option (τ × HD)) : Prop := ∃ v h1 h2, X8 = some (v, h1) ∧ X9 h1 = some (v, h2) ∧ Rel h2
theorem p_setting {h : HD} (hR : Rel h) (w : Int32) : PP [1] (jX8_setting w h) (jX9_setting w) := by
  obtain ⟨⟨R, hok, hC, hM⟩, -⟩ := id hR
  obtain ⟨z, z1, z2, rfl⟩ := iZ_ex w
  by_cases q : 0 ≤ z ∧ z ≤ 9
  · obtain ⟨h1, e1, f1⟩ := x8_settingOf 0 hC hok (iZ z)
    have hM1 : PrM h1 R.1 R.2.1 R.2.2.1 := hM.pr.fr (sPk_scr f1) (fun _ => rfl)
    obtain ⟨h2, e2, f2⟩ := x9_settingOf (hM1.c0 0) hok (iZ z)
    refine PP.ok (h1 := h1) (h2 := h2) (v := iZ (stN R (iZ z))) ?_ ?_ (hR.fr (((sPk_scr f1).tr (c0_fr h1 0)).tr (sPm_scr f2))) ?_
    · unfold jX8_setting
      rw [x8_needSet h z1 z2, if_pos q, Option.bind_some]
      show (jX8_settingOf 0 (iZ z) h).bind _ = _
      rw [e1]
      rfl
    · unfold jX9_setting
      rw [x9_isSet _ z1 z2, decide_eq_true q, x9_goes, Option.bind_some, if_pos rfl]
      show (jX9_settingOf (iZ z) (c0 h1 0)).bind _ = _
      rw [e2]
      rfl
    · rw [f2.1 _ _ rfl]; exact c0_0 _ _
  · refine PP.ex (h1 := h) (h2 := c0 h 1) (w := 0) 0 (e := 1) ?_ ?_ (hR.fr (c0_fr h 1)) rfl (c0_0 _ _)
    · unfold jX8_setting; rw [x8_needSet h z1 z2, if_neg q]; rfl
    · unfold jX9_setting; rw [x9_isSet _ z1 z2, decide_eq_false q, x9_goes]; rfl
