/-! TOKENS of a text -/
def isD (b : Int) : Bool := decide (48 ≤ b ∧ b ≤ 57)
def isS (b : Int) : Bool := decide (b = 32) || decide (b = 10)
/-- behind the spaces, the letters, the digits -/
def skS (len : Int) (bs : Int → Int) (i : Int) : Int := fnd (fun j => !isS (bs j)) (len - i).toNat i
def skL (len : Int) (bs : Int → Int) (i : Int) : Int := fnd (fun j => !isL (bs j)) (len - i).toNat i
def skD (len : Int) (bs : Int → Int) (i : Int) : Int := fnd (fun j => !isD (bs j)) (len - i).toNat i
/-- the number of z digits from p on -/
def nmD (bs : Int → Int) (p z : Int) : Int := itr (fun j a => 10 * a + (bs (p + j) - 48)) 0 z
theorem nmD_s (bs : Int → Int) (p : Int) {z : Int} (h : 0 ≤ z) : nmD bs p (z + 1) = 10 * nmD bs p z + (bs (p + z) - 48) := itr_s _ _ h
def mn (a b : Int) : Int := if a ≤ b then a else b
/-- kind, start, next, word, number or mark -/
abbrev Tok : Type := Int × Int × Int × List Nat × Int
def tokW (len : Int) (bs : Int → Int) (p : Int) : Tok := (if skL len bs p - p ≤ 8 then 1 else 4, p, skL len bs p, lpre (fun j => bs (p + j)) (mn (skL len bs p - p) 8), 0)
def tokN (len : Int) (bs : Int → Int) (p : Int) : Tok := (if skD len bs p - p ≤ 3 then 2 else 4, p, skD len bs p, [], nmD bs p (mn (skD len bs p - p) 3))
def tokM (bs : Int → Int) (p : Int) : Tok := (if bs p = 59 ∨ bs p = 40 ∨ bs p = 41 then 3 else 4, p, p + 1, [], bs p)
def tok0 (p : Int) : Tok := (0, p, p, [], 0)
def tok (len : Int) (bs : Int → Int) (i : Int) : Tok := if skS len bs i < len then (if isL (bs (skS len bs i)) = true then tokW len bs (skS len bs i) else if isD (bs (skS len bs i)) = true then tokN len bs (skS len bs i) else tokM bs (skS len bs i)) else tok0 (skS len bs i)
def TkC (h : HD) (t : Tok) : Prop := gI h (4, 0, 0) 1 = iZ t.1 ∧ gI h (4, 0, 0) 2 = iZ t.2.1 ∧ gI h (4, 0, 0) 3 = iZ t.2.2.1 ∧ (t.1 = 1 → gJ h (4, 0, 0) 4 = jZ (eC t.2.2.2.1)) ∧ (t.1 = 2 → gI h (4, 0, 0) 5 = iZ t.2.2.2.2) ∧ (t.1 = 3 → gI h (4, 0, 0) 6 = iZ t.2.2.2.2)
def TkM (h : HD) (t : Tok) : Prop := gI h (7, 0, 0) 6 = iZ t.1 ∧ gI h (7, 0, 0) 5 = iZ t.2.1 ∧ gI h (7, 0, 0) 4 = iZ t.2.2.1 ∧ (t.1 = 1 → gJ h (7, 0, 0) 12 = jZ (eM t.2.2.2.1)) ∧ (t.1 = 2 ∨ t.1 = 3 → gI h (7, 0, 0) 7 = iZ t.2.2.2.2)
def sTk : Rf → Nat → Bool := fun r k => Nat.beq r.1 4 && Nat.ble k 6
section
variable {len i : Int} {bs : Int → Int}
theorem skS_in (h : i ≤ len) : i ≤ skS len bs i ∧ skS len bs i ≤ len := by
  have := fnd_ge (fun j => !isS (bs j)) (len - i).toNat i
  unfold skS
  omega
theorem skS_y {z : Int} (h1 : i ≤ z) (h2 : z < skS len bs i) : isS (bs z) = true := by
  have := fnd_not (fun j => !isS (bs j)) (len - i).toNat i z h1 h2
  simpa using this
theorem skS_n (h : i ≤ len) (h2 : skS len bs i < len) : isS (bs (skS len bs i)) = false := by
  have := fnd_is (fun j => !isS (bs j)) (len - i).toNat i (by unfold skS at h2; omega)
  unfold skS
  simpa using this
theorem skL_in (h : i ≤ len) : i ≤ skL len bs i ∧ skL len bs i ≤ len := by
  have := fnd_ge (fun j => !isL (bs j)) (len - i).toNat i
  unfold skL
  omega
theorem skL_y {z : Int} (h1 : i ≤ z) (h2 : z < skL len bs i) : isL (bs z) = true := by
  have := fnd_not (fun j => !isL (bs j)) (len - i).toNat i z h1 h2
  simpa using this
theorem skL_n (h : i ≤ len) (h2 : skL len bs i < len) : isL (bs (skL len bs i)) = false := by
  have := fnd_is (fun j => !isL (bs j)) (len - i).toNat i (by unfold skL at h2; omega)
  unfold skL
  simpa using this
theorem skD_in (h : i ≤ len) : i ≤ skD len bs i ∧ skD len bs i ≤ len := by
  have := fnd_ge (fun j => !isD (bs j)) (len - i).toNat i
  unfold skD
  omega
theorem skD_y {z : Int} (h1 : i ≤ z) (h2 : z < skD len bs i) : isD (bs z) = true := by
  have := fnd_not (fun j => !isD (bs j)) (len - i).toNat i z h1 h2
  simpa using this
theorem skD_n (h : i ≤ len) (h2 : skD len bs i < len) : isD (bs (skD len bs i)) = false := by
  have := fnd_is (fun j => !isD (bs j)) (len - i).toNat i (by unfold skD at h2; omega)
  unfold skD
  simpa using this
theorem mn_s {a b : Int} (h : a < b) : mn (a + 1) b = mn a b + 1 ∧ mn a b = a := by
  unfold mn
  rw [if_pos (by omega), if_pos (by omega)]
  exact ⟨rfl, rfl⟩
theorem mn_e {a b : Int} (h : b ≤ a) : mn (a + 1) b = b ∧ mn a b = b := by
  unfold mn
  rw [if_neg (by omega)]
  refine ⟨rfl, ?_⟩
  split <;> omega
theorem eC_nil : eC [] = 0 := by unfold eC; rw [eM_nil, Int.zero_mul]
/-! the class's -/
variable {h : HD}
theorem sby_is {b c : Int} (h1 : 0 ≤ b ∧ b < 256) (h2 : 0 ≤ c ∧ c < 128) : iZ (sby b) = iZ c ↔ b = c := by
  have e : sby b = c ↔ b = c := by unfold sby; split <;> omega
  have hs : -128 ≤ sby b ∧ sby b < 128 := by unfold sby; split <;> omega
  rw [iZ_eq (by omega) (by omega) (by omega) (by omega), e]
theorem x6_skip (hB : BfC 0 h len bs) (l1 : len ≤ 400) (ia : 0 ≤ i) (ib : i ≤ len) (h3 : gI h (4, 0, 0) 3 = iZ i) (K : HD → Option HD) : jX6_advance_L0 K FU h = K (sI h (4, 0, 0) 3 (iZ (skS len bs i))) := by
  have hs := skS_in (bs := bs) ib
  have hself : ∀ g : HD, gI g (4, 0, 0) 3 = iZ i → sI g (4, 0, 0) 3 (iZ i) = g := fun g hg => by
    refine Prod.ext ?_ rfl
    funext q j
    show (if q = (4, 0, 0) ∧ j = 3 then iZ i else g.1 q j) = g.1 q j
    by_cases e : q = (4, 0, 0) ∧ j = 3
    · rw [if_pos e, e.1, e.2]; exact hg.symm
    · rw [if_neg e]
  have hss : ∀ (a b : Int), sI (sI h (4, 0, 0) 3 (iZ a)) (4, 0, 0) 3 (iZ b) = sI h (4, 0, 0) 3 (iZ b) := fun a b => by
    refine Prod.ext ?_ rfl
    funext q j
    show (if q = (4, 0, 0) ∧ j = 3 then iZ b else if q = (4, 0, 0) ∧ j = 3 then iZ a else h.1 q j) = if q = (4, 0, 0) ∧ j = 3 then iZ b else h.1 q j
    by_cases e : q = (4, 0, 0) ∧ j = 3
    · rw [if_pos e, if_pos e]
    · rw [if_neg e, if_neg e, if_neg e]
  have hBz : ∀ z, BfC 0 (sI h (4, 0, 0) 3 (iZ z)) len bs := fun z => hB.fr (S := sTk) (Fr.rf.sI rfl _) rfl (fun _ => rfl)
  have e := loopN (fun f (x : HD) => jX6_advance_L0 K f x) (fun z => sI h (4, 0, 0) 3 (iZ z)) (a := i) (b := skS len bs i) (res := K (sI h (4, 0, 0) 3 (iZ (skS len bs i)))) hs.1 (fun f z z0 z1 => ?_) (fun f => ?_) FU (FU_gt (by omega))
  · have e2 : jX6_advance_L0 K FU (sI h (4, 0, 0) 3 (iZ i)) = _ := e
    rwa [hself h h3] at e2
  · show jX6_advance_L0 K (f + 1) (sI h (4, 0, 0) 3 (iZ z)) = jX6_advance_L0 K f (sI h (4, 0, 0) 3 (iZ (z + 1)))
    have hy := skS_y z0 z1
    have hb := (hB.2.2 z (by omega) (by omega)).1
    rw [jX6_advance_L0]
    unfold jX1_length
    rw [(hBz z).2.1, gI_self, if_neg (le_n (by omega) (by omega) (by omega)), x1_at (hBz z) l1 (by omega) (by omega), Option.bind_some]
    unfold isS at hy
    by_cases q : bs z = 32
    · rw [if_pos (show iZ (sby (bs z)) = 32 from (sby_is hb (c := 32) (by decide)).mpr q), lt_eq, i1, iZ_add, hss]
    · have q2 : bs z = 10 := by
        rw [decide_eq_false q, Bool.false_or] at hy
        exact of_decide_eq_true hy
      rw [if_neg (show ¬ iZ (sby (bs z)) = 32 from fun c => q ((sby_is hb (c := 32) (by decide)).mp c)), Option.bind_some, if_pos (show iZ (sby (bs z)) = 10 from (sby_is hb (c := 10) (by decide)).mpr q2), lt_eq, i1, iZ_add, hss]
  · show jX6_advance_L0 K (f + 1) (sI h (4, 0, 0) 3 (iZ (skS len bs i))) = _
    rw [jX6_advance_L0]
    unfold jX1_length
    rw [(hBz _).2.1, gI_self]
    by_cases q : len ≤ skS len bs i
    · rw [if_pos (le_y (by omega) (by omega) (by omega))]
    · have hy := skS_n (bs := bs) ib (by omega)
      have hb := (hB.2.2 (skS len bs i) (by omega) (by omega)).1
      unfold isS at hy
      rw [Bool.or_eq_false_iff] at hy
      rw [if_neg (le_n (by omega) (by omega) (by omega)), x1_at (hBz _) l1 (by omega) (by omega), Option.bind_some, if_neg (show ¬ iZ (sby (bs (skS len bs i))) = 32 from fun c => of_decide_eq_false hy.1 ((sby_is hb (c := 32) (by decide)).mp c)), Option.bind_some, if_neg (show ¬ iZ (sby (bs (skS len bs i))) = 10 from fun c => of_decide_eq_false hy.2 ((sby_is hb (c := 10) (by decide)).mp c))]
theorem x6_word {p : Int} (hB : BfC 0 h len bs) (l1 : len ≤ 400) (p0 : 0 ≤ p) (p1 : p < len) (h2 : gI h (4, 0, 0) 2 = iZ p) (h3 : gI h (4, 0, 0) 3 = iZ p) : ∃ g, jX6_takeWord h = some g ∧ Fr sTk h g ∧ TkC g (tokW len bs p) := by
  have hs := skL_in (bs := bs) (Int.le_of_lt p1)
  obtain ⟨h0, e0⟩ : ∃ h0, h0 = sJ h (4, 0, 0) 4 (jZ 0) := ⟨_, rfl⟩
  have f0 : Fr sTk h h0 := by rw [e0]; exact Fr.rf.sJ rfl _
  obtain ⟨K, hK⟩ : ∃ K : HD → Option HD, K = fun h7 => (if ((gI h7 (4, 0, 0) 3) - (gI h7 (4, 0, 0) 2)) ≤ (8 : Int32) then lt (sI h7 (4, 0, 0) 1 (1 : Int32)) fun h8 => some h8 else lt (sI h7 (4, 0, 0) 1 (4 : Int32)) fun h9 => some h9) := ⟨_, rfl⟩
  have u : jX6_takeWord h = jX6_takeWord_L5 K FU h0 := by
    unfold jX6_takeWord
    rw [lt_eq, show (0 : Int64) = jZ 0 from rfl, ← e0, ← hK]
  rw [u]
  have hKx : ∀ x, K x = (if ((gI x (4, 0, 0) 3) - (gI x (4, 0, 0) 2)) ≤ (8 : Int32) then lt (sI x (4, 0, 0) 1 (1 : Int32)) fun h8 => some h8 else lt (sI x (4, 0, 0) 1 (4 : Int32)) fun h9 => some h9) := fun x => by rw [hK]
  refine loopI (fun f (x : HD) => jX6_takeWord_L5 K f x) (fun y x => Fr sTk h0 x ∧ gI x (4, 0, 0) 2 = iZ p ∧ gI x (4, 0, 0) 3 = iZ y ∧ gJ x (4, 0, 0) 4 = jZ (eC (lpre (fun j => bs (p + j)) (mn (y - p) 8)))) (a := p) (b := skL len bs p) (fun r => ∃ g, r = some g ∧ Fr sTk h g ∧ TkC g (tokW len bs p)) hs.1 ?_ ?_ FU h0 (FU_gt (by omega)) ⟨Fr.rf, by rw [e0]; exact h2, by rw [e0]; exact h3, by rw [e0, gJ_sJ, if_pos ⟨rfl, rfl⟩, show p - p = 0 by omega, show mn 0 8 = 0 from rfl, lpre_0, eC_nil]⟩
  · intro f y x y0 y1 hI
    obtain ⟨hF, g2, g3, gw⟩ := hI
    have hBx := hB.fr (f0.tr hF) rfl (fun _ => rfl)
    have hy := skL_y y0 y1
    have hb := (hB.2.2 y (by omega) (by omega)).1
    have hls := isL_s hy
    by_cases q : 8 ≤ y - p
    · refine ⟨sI x (4, 0, 0) 3 (iZ (y + 1)), ?_, hF.sI rfl _, by rw [gI_nk _ _ _ (by decide)]; exact g2, gI_self _ _ _ _, ?_⟩
      · show jX6_takeWord_L5 K (f + 1) x = _
        rw [jX6_takeWord_L5]
        unfold jX1_length
        rw [hBx.2.1, g3, if_neg (le_n (by omega) (by omega) (by omega)), x1_at hBx l1 (by omega) (by omega), Option.bind_some, x8_isLetter x hb.1 hb.2, if_pos hy, g2, iZ_sub, i8, if_pos (le_y (by omega) (by omega) (by omega)), lt_eq, i1, iZ_add]
      · rw [gJ_sI, gw, show y + 1 - p = y - p + 1 by omega, (mn_e q).1, (mn_e q).2]
    · have hw := x8_with x (ks := lpre (fun j => bs (p + j)) (y - p)) (l := (bs y - 96).toNat) (lpre_lt (fun j j0 j1 => skL_y (len := len) (bs := bs) (show p ≤ p + j by omega) (by omega))) (by have := lpre_len (fun j => bs (p + j)) (show 0 ≤ y - p by omega); omega) ⟨hls.2.1, hls.2.2.1⟩
      rw [lpre_len _ (show 0 ≤ y - p by omega), hls.2.2.2] at hw
      refine ⟨sI (sJ x (4, 0, 0) 4 (jZ (eC (lpre (fun j => bs (p + j)) (y + 1 - p))))) (4, 0, 0) 3 (iZ (y + 1)), ?_, (hF.sJ rfl _).sI rfl _, ?_, gI_self _ _ _ _, ?_⟩
      · show jX6_takeWord_L5 K (f + 1) x = _
        rw [jX6_takeWord_L5]
        unfold jX1_length
        rw [hBx.2.1, g3, if_neg (le_n (by omega) (by omega) (by omega)), x1_at hBx l1 (by omega) (by omega), Option.bind_some, x8_isLetter x hb.1 hb.2, if_pos hy, g2, iZ_sub, i8, if_neg (le_n (by omega) (by omega) (by omega)), Option.bind_some, gw, (mn_s (show y - p < 8 by omega)).2, hls.1, show (97 : Int32) = iZ 97 from rfl, iZ_sub, i1, iZ_add, show bs y - 97 + 1 = bs y - 96 by omega, hw, lt_eq, lt_eq, gI_sJ, g3, iZ_add, show y + 1 - p = y - p + 1 by omega, lpre_s _ (show 0 ≤ y - p by omega), show p + (y - p) = y by omega]
      · rw [gI_nk _ _ _ (by decide), gI_sJ]; exact g2
      · rw [gJ_sI, gJ_sJ, if_pos ⟨rfl, rfl⟩, show y + 1 - p = y - p + 1 by omega, (mn_s (show y - p < 8 by omega)).1, (mn_s (show y - p < 8 by omega)).2]
  · intro f x hI
    obtain ⟨hF, g2, g3, gw⟩ := hI
    have hBx := hB.fr (f0.tr hF) rfl (fun _ => rfl)
    have fin : K x = some (sI x (4, 0, 0) 1 (iZ (if skL len bs p - p ≤ 8 then 1 else 4))) := by
      rw [hKx, g3, g2, iZ_sub, i8]
      by_cases q : skL len bs p - p ≤ 8
      · rw [if_pos (le_y (by omega) (by omega) (by omega)), if_pos q]; rfl
      · rw [if_neg (le_n (by omega) (by omega) (by omega)), if_neg q]; rfl
    have e : jX6_takeWord_L5 K (f + 1) x = some (sI x (4, 0, 0) 1 (iZ (if skL len bs p - p ≤ 8 then 1 else 4))) := by
      rw [jX6_takeWord_L5]
      unfold jX1_length
      rw [hBx.2.1, g3]
      by_cases q : len ≤ skL len bs p
      · rw [if_pos (le_y (by omega) (by omega) (by omega))]; exact fin
      · have hy := skL_n (bs := bs) (Int.le_of_lt p1) (by omega)
        have hb := (hB.2.2 (skL len bs p) (by omega) (by omega)).1
        rw [if_neg (le_n (by omega) (by omega) (by omega)), x1_at hBx l1 (by omega) (by omega), Option.bind_some, x8_isLetter x hb.1 hb.2, hy, if_neg Bool.false_ne_true]
        exact fin
    refine ⟨_, e, (f0.tr hF).sI rfl _, gI_self _ _ _ _, (gI_nk _ _ _ (by decide) _).trans g2, (gI_nk _ _ _ (by decide) _).trans g3, fun _ => gw, fun c => ?_, fun c => ?_⟩
    · exfalso
      have c2 : (if skL len bs p - p ≤ 8 then (1 : Int) else 4) = 2 := c
      split at c2 <;> omega
    · exfalso
      have c2 : (if skL len bs p - p ≤ 8 then (1 : Int) else 4) = 3 := c
      split at c2 <;> omega
end
