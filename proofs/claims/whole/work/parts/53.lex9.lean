/-! the reference's next token -/
def sRd : Rf → Nat → Bool := fun r k => decide (r = (7, 0, 0)) && (Nat.beq k 4 || Nat.beq k 5 || Nat.beq k 6 || Nat.beq k 7 || Nat.beq k 12)
theorem sh_l1 {z : Int} (h1 : 0 ≤ z) (h2 : z * 32 < 9223372036854775808) : jZ z <<< ((5 : Int32).toInt64 &&& 63) = jZ (z * 32) := by
  obtain ⟨k, rfl⟩ : ∃ k : Nat, z = k := ⟨z.toNat, by omega⟩
  have e5 : (5 : Int32).toInt64 = jZ (5 * ((1 : Nat) : Int)) := by decide
  apply Int64.toBitVec_inj.mp
  rw [e5, Int64.toBitVec_shiftLeft, sh_k (by omega)]
  apply BitVec.eq_of_toNat_eq
  rw [BitVec.shiftLeft_eq', BitVec.toNat_shiftLeft, BitVec.toNat_ofNat, jb (by omega) (by omega), jb (by omega) h2, Nat.mod_eq_of_lt (show 5 * 1 < 2 ^ 64 by decide), Nat.shiftLeft_eq, Nat.mod_eq_of_lt (by omega)]
  omega
theorem x9_isLetter (h : HD) {b : Int} (h1 : -1 ≤ b) (h2 : b < 256) : jX9_isLetter (iZ b) h = isL b := by
  unfold jX9_isLetter isL
  rw [show (97 : Int32) = iZ 97 from rfl, show (122 : Int32) = iZ 122 from rfl]
  by_cases q1 : b < 97
  · rw [if_pos (lt_y (by omega) (by omega) (by omega)), decide_eq_false (by omega)]
  · rw [if_neg (lt_n (by omega) (by omega) (by omega))]
    by_cases q2 : 122 < b
    · rw [if_pos (lt_y (by omega) (by omega) (by omega)), decide_eq_false (by omega)]
    · rw [if_neg (lt_n (by omega) (by omega) (by omega)), decide_eq_true (by omega)]
theorem x9_isDigit (h : HD) {b : Int} (h1 : -1 ≤ b) (h2 : b < 256) : jX9_isDigit (iZ b) h = isD b := by
  unfold jX9_isDigit isD
  rw [show (48 : Int32) = iZ 48 from rfl, show (57 : Int32) = iZ 57 from rfl]
  by_cases q1 : b < 48
  · rw [if_pos (lt_y (by omega) (by omega) (by omega)), decide_eq_false (by omega)]
  · rw [if_neg (lt_n (by omega) (by omega) (by omega))]
    by_cases q2 : 57 < b
    · rw [if_pos (lt_y (by omega) (by omega) (by omega)), decide_eq_false (by omega)]
    · rw [if_neg (lt_n (by omega) (by omega) (by omega)), decide_eq_true (by omega)]
/-- the byte at a place, -1 behind the last -/
def bt (len : Int) (bs : Int → Int) (z : Int) : Int := if z < len then bs z else -1
section
variable {len i : Int} {bs : Int → Int} {h : HD}
theorem bt_in (hb : ∀ z, 0 ≤ z → z < len → 0 ≤ bs z ∧ bs z < 256) {z : Int} (z0 : 0 ≤ z) : -1 ≤ bt len bs z ∧ bt len bs z < 256 := by
  unfold bt
  split
  · have := hb z z0 (by assumption); omega
  · omega
theorem x9_here (hT : BfM (7, 0, 1) 3 h len bs) (l1 : len ≤ 400) {a k : Int} (ha : gI h (7, 0, 0) 4 = iZ a) (a0 : 0 ≤ a) (k0 : 0 ≤ k) (a1 : a ≤ 1000) (k1 : k ≤ 1000) : jX9_here (iZ k) h = some (iZ (bt len bs (a + k))) := by
  have l0 := hT.1
  unfold jX9_here bt
  rw [hT.2.1, ha, iZ_add]
  by_cases q : a + k < len
  · rw [if_neg (le_n (by omega) (by omega) (by omega)), inB_t (by omega) (by omega) (by omega), if_pos rfl, iZ_nat (by omega) (by omega), hT.2.2 _ (by omega) q, if_pos q]
  · rw [if_pos (le_y (by omega) (by omega) (by omega)), if_neg q]
    rfl
theorem x9_skip (hT : BfM (7, 0, 1) 3 h len bs) (hb : ∀ z, 0 ≤ z → z < len → 0 ≤ bs z ∧ bs z < 256) (l1 : len ≤ 400) (ia : 0 ≤ i) (ib : i ≤ len) (h4 : gI h (7, 0, 0) 4 = iZ i) (K : HD → Option HD) : jX9_goOnRead_L0 K FU h = K (sI h (7, 0, 0) 4 (iZ (skS len bs i))) := by
  have hs := skS_in (bs := bs) ib
  have hself : ∀ g : HD, gI g (7, 0, 0) 4 = iZ i → sI g (7, 0, 0) 4 (iZ i) = g := fun g hg => by
    refine Prod.ext ?_ rfl
    funext q j
    show (if q = (7, 0, 0) ∧ j = 4 then iZ i else g.1 q j) = g.1 q j
    by_cases e : q = (7, 0, 0) ∧ j = 4
    · rw [if_pos e, e.1, e.2]; exact hg.symm
    · rw [if_neg e]
  have hss : ∀ (a b : Int), sI (sI h (7, 0, 0) 4 (iZ a)) (7, 0, 0) 4 (iZ b) = sI h (7, 0, 0) 4 (iZ b) := fun a b => by
    refine Prod.ext ?_ rfl
    funext q j
    show (if q = (7, 0, 0) ∧ j = 4 then iZ b else if q = (7, 0, 0) ∧ j = 4 then iZ a else h.1 q j) = if q = (7, 0, 0) ∧ j = 4 then iZ b else h.1 q j
    by_cases e : q = (7, 0, 0) ∧ j = 4
    · rw [if_pos e, if_pos e]
    · rw [if_neg e, if_neg e, if_neg e]
  have hTz : ∀ z, BfM (7, 0, 1) 3 (sI h (7, 0, 0) 4 (iZ z)) len bs := fun z => hT.fr (S := sRd) (Fr.rf.sI rfl _) rfl (fun _ => rfl)
  have e := loopN (fun f (x : HD) => jX9_goOnRead_L0 K f x) (fun z => sI h (7, 0, 0) 4 (iZ z)) (a := i) (b := skS len bs i) (res := K (sI h (7, 0, 0) 4 (iZ (skS len bs i)))) hs.1 (fun f z z0 z1 => ?_) (fun f => ?_) FU (FU_gt (by omega))
  · have e2 : jX9_goOnRead_L0 K FU (sI h (7, 0, 0) 4 (iZ i)) = _ := e
    rwa [hself h h4] at e2
  · show jX9_goOnRead_L0 K (f + 1) (sI h (7, 0, 0) 4 (iZ z)) = jX9_goOnRead_L0 K f (sI h (7, 0, 0) 4 (iZ (z + 1)))
    have hy := skS_y z0 z1
    have hbz := hb z (by omega) (by omega)
    have eb : bt len bs (z + 0) = bs z := by unfold bt; rw [Int.add_zero, if_pos (by omega)]
    rw [jX9_goOnRead_L0, show (0 : Int32) = iZ 0 from rfl, x9_here (hTz z) l1 (gI_self _ _ _ _) (by omega) (by omega) (by omega) (by omega), eb, Option.bind_some, gI_self]
    unfold isS at hy
    by_cases q : bs z = 32
    · rw [if_pos (show iZ (bs z) = 32 by rw [q]; rfl), i1, iZ_add, lt_eq, hss]
    · have q2 : bs z = 10 := by
        rw [decide_eq_false q, Bool.false_or] at hy
        exact of_decide_eq_true hy
      rw [if_neg (show ¬ iZ (bs z) = 32 from eq_n (b := 32) (by omega) (by omega) (by omega) (by omega) (by omega)), Option.bind_some, if_pos (show iZ (bs z) = 10 by rw [q2]; rfl), i1, iZ_add, lt_eq, hss]
  · show jX9_goOnRead_L0 K (f + 1) (sI h (7, 0, 0) 4 (iZ (skS len bs i))) = _
    have hbi := bt_in hb (z := skS len bs i + 0) (by omega)
    have hn : bt len bs (skS len bs i + 0) ≠ 32 ∧ bt len bs (skS len bs i + 0) ≠ 10 := by
      rw [Int.add_zero]
      unfold bt
      by_cases q : skS len bs i < len
      · have hy := skS_n (bs := bs) ib q
        unfold isS at hy
        rw [Bool.or_eq_false_iff] at hy
        rw [if_pos q]
        exact ⟨of_decide_eq_false hy.1, of_decide_eq_false hy.2⟩
      · rw [if_neg q]; decide
    rw [jX9_goOnRead_L0, show (0 : Int32) = iZ 0 from rfl, x9_here (hTz _) l1 (gI_self _ _ _ _) (by omega) (by omega) (by omega) (by omega), Option.bind_some, if_neg (show ¬ iZ (bt len bs (skS len bs i + 0)) = 32 from eq_n (b := 32) (by omega) (by omega) (by omega) (by omega) (by omega)), Option.bind_some, if_neg (show ¬ iZ (bt len bs (skS len bs i + 0)) = 10 from eq_n (b := 10) (by omega) (by omega) (by omega) (by omega) (by omega))]
theorem x9_word {p : Int} (hT : BfM (7, 0, 1) 3 h len bs) (hb : ∀ z, 0 ≤ z → z < len → 0 ≤ bs z ∧ bs z < 256) (l1 : len ≤ 400) (p0 : 0 ≤ p) (p1 : p < len) (h4 : gI h (7, 0, 0) 4 = iZ p) (h5 : gI h (7, 0, 0) 5 = iZ p) (h12 : gJ h (7, 0, 0) 12 = jZ 0) (K : Int32 → HD → Option HD) (hK : ∀ y x, K y x = (if y ≤ (8 : Int32) then lt (sI x (7, 0, 0) 6 (1 : Int32)) fun h34 => lt (sI h34 (7, 0, 0) 4 ((gI h34 (7, 0, 0) 4) + y)) fun h35 => some h35 else lt (sI x (7, 0, 0) 6 (4 : Int32)) fun h36 => lt (sI h36 (7, 0, 0) 4 ((gI h36 (7, 0, 0) 4) + y)) fun h37 => some h37)) : ∃ g, jX9_goOnRead_L76 K FU (iZ 0) h = some g ∧ Fr sRd h g ∧ TkM g (tokW len bs p) := by
  have hs := skL_in (bs := bs) (Int.le_of_lt p1)
  refine loopI (fun f (x : Int32 × HD) => jX9_goOnRead_L76 K f x.1 x.2) (fun y x => x.1 = iZ y ∧ Fr sRd h x.2 ∧ gI x.2 (7, 0, 0) 4 = iZ p ∧ gI x.2 (7, 0, 0) 5 = iZ p ∧ gJ x.2 (7, 0, 0) 12 = jZ (eM (lpre (fun j => bs (p + j)) (mn y 8)))) (a := 0) (b := skL len bs p - p) (fun r => ∃ g, r = some g ∧ Fr sRd h g ∧ TkM g (tokW len bs p)) (by omega) ?_ ?_ FU (iZ 0, h) (FU_gt (by omega)) ⟨rfl, Fr.rf, h4, h5, by rw [show mn 0 8 = 0 from rfl, lpre_0, eM_nil]; exact h12⟩
  · intro f y x y0 y1 hI
    obtain ⟨x1, g⟩ := x
    obtain ⟨e, hF, g4, g5, gw⟩ := hI
    replace e : x1 = iZ y := e
    subst e
    replace hF : Fr sRd h g := hF
    replace g4 : gI g (7, 0, 0) 4 = iZ p := g4
    replace gw : gJ g (7, 0, 0) 12 = jZ (eM (lpre (fun j => bs (p + j)) (mn y 8))) := gw
    have hTx := hT.fr hF rfl (fun _ => rfl)
    have hy := skL_y (show p ≤ p + y by omega) (show p + y < skL len bs p by omega)
    have hbz := hb (p + y) (by omega) (by omega)
    have hls := isL_s hy
    have eb : bt len bs (p + y) = bs (p + y) := by unfold bt; rw [if_pos (by omega)]
    by_cases q : 8 ≤ y
    · refine ⟨(iZ (y + 1), g), ?_, rfl, hF, g4, g5, by rw [(mn_e q).1, ← (mn_e q).2]; exact gw⟩
      show jX9_goOnRead_L76 K (f + 1) (iZ y) g = _
      rw [jX9_goOnRead_L76, x9_here hTx l1 g4 p0 y0 (by omega) (by omega), eb, Option.bind_some, x9_isLetter g (by omega) hbz.2, if_pos hy, i8, if_pos (le_y (by omega) (by omega) (by omega)), i1, iZ_add]
    · have hL : Lt (lpre (fun j => bs (p + j)) y) := lpre_lt (fun j j0 j1 => skL_y (len := len) (bs := bs) (show p ≤ p + j by omega) (by omega))
      have hlen := lpre_len (fun j => bs (p + j)) y0
      have hm := eM_b _ _ rfl hL
      have hm2 : eM (lpre (fun j => bs (p + j)) y) < 34359738368 := by
        have h3 := hm.2.1
        have : (lpre (fun j => bs (p + j)) y).length = 0 ∨ (lpre (fun j => bs (p + j)) y).length = 1 ∨ (lpre (fun j => bs (p + j)) y).length = 2 ∨ (lpre (fun j => bs (p + j)) y).length = 3 ∨ (lpre (fun j => bs (p + j)) y).length = 4 ∨ (lpre (fun j => bs (p + j)) y).length = 5 ∨ (lpre (fun j => bs (p + j)) y).length = 6 ∨ (lpre (fun j => bs (p + j)) y).length = 7 := by omega
        rcases this with e | e | e | e | e | e | e | e <;> rw [e] at h3 <;> omega
      have ew := or_add (A := eM (lpre (fun j => bs (p + j)) y)) (b := bs (p + y) - 96) (m := 1) hm.1 (by omega) (by omega) (by omega) (by omega) (by omega)
      rw [show (32 : Int) ^ 1 = 32 from rfl] at ew
      refine ⟨(iZ (y + 1), sJ g (7, 0, 0) 12 (jZ (eM (lpre (fun j => bs (p + j)) (y + 1))))), ?_, rfl, hF.sJ rfl _, g4, g5, by show gJ (sJ g _ _ _) _ _ = _; rw [gJ_sJ, if_pos ⟨rfl, rfl⟩, (mn_s (show y < 8 by omega)).1, (mn_s (show y < 8 by omega)).2]⟩
      show jX9_goOnRead_L76 K (f + 1) (iZ y) g = _
      rw [jX9_goOnRead_L76, x9_here hTx l1 g4 p0 y0 (by omega) (by omega), eb, Option.bind_some, x9_isLetter g (by omega) hbz.2, if_pos hy, i8, if_neg (le_n (by omega) (by omega) (by omega)), Option.bind_some, gw, (mn_s (show y < 8 by omega)).2, sh_l1 hm.1 (by omega), show (97 : Int32) = iZ 97 from rfl, iZ_sub, i1, iZ_add, iZ_j (by omega) (by omega), show bs (p + y) - 97 + 1 = bs (p + y) - 96 by omega, ew, lt_eq, iZ_add, lpre_s _ y0, eM_snoc, hls.2.2.2]
  · intro f x hI
    obtain ⟨x1, g⟩ := x
    obtain ⟨e, hF, g4, g5, gw⟩ := hI
    replace e : x1 = iZ (skL len bs p - p) := e
    subst e
    replace hF : Fr sRd h g := hF
    replace g4 : gI g (7, 0, 0) 4 = iZ p := g4
    have hTx := hT.fr hF rfl (fun _ => rfl)
    have hbi := bt_in hb (z := p + (skL len bs p - p)) (by omega)
    have hn : isL (bt len bs (p + (skL len bs p - p))) = false := by
      rw [show p + (skL len bs p - p) = skL len bs p by omega]
      unfold bt
      by_cases q : skL len bs p < len
      · rw [if_pos q]; exact skL_n (bs := bs) (Int.le_of_lt p1) q
      · rw [if_neg q]; rfl
    have e0 : jX9_goOnRead_L76 K (f + 1) (iZ (skL len bs p - p)) g = some (sI (sI g (7, 0, 0) 6 (iZ (if skL len bs p - p ≤ 8 then 1 else 4))) (7, 0, 0) 4 (iZ (skL len bs p))) := by
      rw [jX9_goOnRead_L76, x9_here hTx l1 g4 p0 (by omega) (by omega) (by omega), Option.bind_some, x9_isLetter g hbi.1 hbi.2, hn, if_neg Bool.false_ne_true, hK, i8]
      by_cases q : skL len bs p - p ≤ 8
      · rw [if_pos (le_y (by omega) (by omega) (by omega)), if_pos q, lt_eq, lt_eq, gI_nk _ _ _ (by decide), g4, iZ_add, show p + (skL len bs p - p) = skL len bs p by omega]
        rfl
      · rw [if_neg (le_n (by omega) (by omega) (by omega)), if_neg q, lt_eq, lt_eq, gI_nk _ _ _ (by decide), g4, iZ_add, show p + (skL len bs p - p) = skL len bs p by omega]
        rfl
    refine ⟨_, e0, (hF.sI rfl _).sI rfl _, ?_, ?_, gI_self _ _ _ _, fun _ => gw, fun c => ?_⟩
    · rw [gI_nk _ _ _ (by decide), gI_self]; rfl
    · rw [gI_nk _ _ _ (by decide), gI_nk _ _ _ (by decide)]; exact g5
    · exfalso
      have c2 : (if skL len bs p - p ≤ 8 then (1 : Int) else 4) = 2 ∨ (if skL len bs p - p ≤ 8 then (1 : Int) else 4) = 3 := c
      rcases c2 with c2 | c2 <;> · split at c2 <;> omega
theorem x9_number {p : Int} (hT : BfM (7, 0, 1) 3 h len bs) (hb : ∀ z, 0 ≤ z → z < len → 0 ≤ bs z ∧ bs z < 256) (l1 : len ≤ 400) (p0 : 0 ≤ p) (p1 : p < len) (h4 : gI h (7, 0, 0) 4 = iZ p) (h5 : gI h (7, 0, 0) 5 = iZ p) (h7 : gI h (7, 0, 0) 7 = iZ 0) (K : Int32 → HD → Option HD) (hK : ∀ y x, K y x = (if y ≤ (3 : Int32) then lt (sI x (7, 0, 0) 6 (2 : Int32)) fun h34 => lt (sI h34 (7, 0, 0) 4 ((gI h34 (7, 0, 0) 4) + y)) fun h35 => some h35 else lt (sI x (7, 0, 0) 6 (4 : Int32)) fun h36 => lt (sI h36 (7, 0, 0) 4 ((gI h36 (7, 0, 0) 4) + y)) fun h37 => some h37)) : ∃ g, jX9_goOnRead_L146 K FU (iZ 0) h = some g ∧ Fr sRd h g ∧ TkM g (tokN len bs p) := by
  have hs := skD_in (bs := bs) (Int.le_of_lt p1)
  refine loopI (fun f (x : Int32 × HD) => jX9_goOnRead_L146 K f x.1 x.2) (fun y x => x.1 = iZ y ∧ Fr sRd h x.2 ∧ gI x.2 (7, 0, 0) 4 = iZ p ∧ gI x.2 (7, 0, 0) 5 = iZ p ∧ gI x.2 (7, 0, 0) 7 = iZ (nmD bs p (mn y 3))) (a := 0) (b := skD len bs p - p) (fun r => ∃ g, r = some g ∧ Fr sRd h g ∧ TkM g (tokN len bs p)) (by omega) ?_ ?_ FU (iZ 0, h) (FU_gt (by omega)) ⟨rfl, Fr.rf, h4, h5, by rw [show mn 0 3 = 0 from rfl, nmD_0]; exact h7⟩
  · intro f y x y0 y1 hI
    obtain ⟨x1, g⟩ := x
    obtain ⟨e, hF, g4, g5, gw⟩ := hI
    replace e : x1 = iZ y := e
    subst e
    replace hF : Fr sRd h g := hF
    replace g4 : gI g (7, 0, 0) 4 = iZ p := g4
    replace g5 : gI g (7, 0, 0) 5 = iZ p := g5
    replace gw : gI g (7, 0, 0) 7 = iZ (nmD bs p (mn y 3)) := gw
    have hTx := hT.fr hF rfl (fun _ => rfl)
    have hy := skD_y (show p ≤ p + y by omega) (show p + y < skD len bs p by omega)
    have hbz := hb (p + y) (by omega) (by omega)
    have hds := isD_s hy
    have eb : bt len bs (p + y) = bs (p + y) := by unfold bt; rw [if_pos (by omega)]
    by_cases q : 3 ≤ y
    · refine ⟨(iZ (y + 1), g), ?_, rfl, hF, g4, g5, by rw [(mn_e q).1, ← (mn_e q).2]; exact gw⟩
      show jX9_goOnRead_L146 K (f + 1) (iZ y) g = _
      rw [jX9_goOnRead_L146, x9_here hTx l1 g4 p0 y0 (by omega) (by omega), eb, Option.bind_some, x9_isDigit g (by omega) hbz.2, if_pos hy, i3, if_pos (le_y (by omega) (by omega) (by omega)), i1, iZ_add]
    · have hnb := nmD_b (len := len) (p := p) (bs := bs) (z := y) y0 (by omega) (by omega)
      refine ⟨(iZ (y + 1), sI g (7, 0, 0) 7 (iZ (nmD bs p (y + 1)))), ?_, rfl, hF.sI rfl _, (gI_nk _ _ _ (by decide) _).trans g4, (gI_nk _ _ _ (by decide) _).trans g5, by show gI (sI g _ _ _) _ _ = _; rw [gI_self, (mn_s (show y < 3 by omega)).1, (mn_s (show y < 3 by omega)).2]⟩
      show jX9_goOnRead_L146 K (f + 1) (iZ y) g = _
      rw [jX9_goOnRead_L146, x9_here hTx l1 g4 p0 y0 (by omega) (by omega), eb, Option.bind_some, x9_isDigit g (by omega) hbz.2, if_pos hy, i3, if_neg (le_n (by omega) (by omega) (by omega)), Option.bind_some, gw, (mn_s (show y < 3 by omega)).2, i10, iZ_mul, iZ_add, show (48 : Int32) = iZ 48 from rfl, iZ_sub, lt_eq, i1, iZ_add, nmD_s _ _ y0, show 10 * nmD bs p y + bs (p + y) - 48 = 10 * nmD bs p y + (bs (p + y) - 48) by omega]
  · intro f x hI
    obtain ⟨x1, g⟩ := x
    obtain ⟨e, hF, g4, g5, gw⟩ := hI
    replace e : x1 = iZ (skD len bs p - p) := e
    subst e
    replace hF : Fr sRd h g := hF
    replace g4 : gI g (7, 0, 0) 4 = iZ p := g4
    have hTx := hT.fr hF rfl (fun _ => rfl)
    have hbi := bt_in hb (z := p + (skD len bs p - p)) (by omega)
    have hn : isD (bt len bs (p + (skD len bs p - p))) = false := by
      rw [show p + (skD len bs p - p) = skD len bs p by omega]
      unfold bt
      by_cases q : skD len bs p < len
      · rw [if_pos q]; exact skD_n (bs := bs) (Int.le_of_lt p1) q
      · rw [if_neg q]; rfl
    have e0 : jX9_goOnRead_L146 K (f + 1) (iZ (skD len bs p - p)) g = some (sI (sI g (7, 0, 0) 6 (iZ (if skD len bs p - p ≤ 3 then 2 else 4))) (7, 0, 0) 4 (iZ (skD len bs p))) := by
      rw [jX9_goOnRead_L146, x9_here hTx l1 g4 p0 (by omega) (by omega) (by omega), Option.bind_some, x9_isDigit g hbi.1 hbi.2, hn, if_neg Bool.false_ne_true, hK, i3]
      by_cases q : skD len bs p - p ≤ 3
      · rw [if_pos (le_y (by omega) (by omega) (by omega)), if_pos q, lt_eq, lt_eq, gI_nk _ _ _ (by decide), g4, iZ_add, show p + (skD len bs p - p) = skD len bs p by omega]
        rfl
      · rw [if_neg (le_n (by omega) (by omega) (by omega)), if_neg q, lt_eq, lt_eq, gI_nk _ _ _ (by decide), g4, iZ_add, show p + (skD len bs p - p) = skD len bs p by omega]
        rfl
    refine ⟨_, e0, (hF.sI rfl _).sI rfl _, ?_, ?_, gI_self _ _ _ _, fun c => ?_, fun c => ?_⟩
    · rw [gI_nk _ _ _ (by decide), gI_self]; rfl
    · rw [gI_nk _ _ _ (by decide), gI_nk _ _ _ (by decide)]; exact g5
    · exfalso
      have c2 : (if skD len bs p - p ≤ 3 then (2 : Int) else 4) = 1 := c
      split at c2 <;> omega
    · rw [gI_nk _ _ _ (by decide), gI_nk _ _ _ (by decide)]; exact gw
end
section
variable {len i : Int} {bs : Int → Int} {h : HD}
/-- the reference's next token -/
theorem x9_goOn (hT : BfM (7, 0, 1) 3 h len bs) (hb : ∀ z, 0 ≤ z → z < len → 0 ≤ bs z ∧ bs z < 256) (l1 : len ≤ 400) (ia : 0 ≤ i) (ib : i ≤ len) (h4 : gI h (7, 0, 0) 4 = iZ i) : ∃ g, jX9_goOnRead h = some g ∧ Fr sRd h g ∧ TkM g (tok len bs i) := by
  have hs := skS_in (bs := bs) ib
  obtain ⟨p, hp⟩ : ∃ p, skS len bs i = p := ⟨_, rfl⟩
  rw [hp] at hs
  have ks := fun K => x9_skip (K := K) hT hb l1 ia ib h4
  rw [hp] at ks
  obtain ⟨g0, hg0⟩ : ∃ g0, g0 = sI (sJ (sI (sI h (7, 0, 0) 4 (iZ p)) (7, 0, 0) 5 (iZ p)) (7, 0, 0) 12 (jZ 0)) (7, 0, 0) 7 (iZ 0) := ⟨_, rfl⟩
  have f0 : Fr sRd h g0 := by rw [hg0]; exact (((Fr.rf.sI rfl _).sI rfl _).sJ rfl _).sI rfl _
  have T0 := hT.fr f0 rfl (fun _ => rfl)
  have c4 : gI g0 (7, 0, 0) 4 = iZ p := by rw [hg0, gI_nk _ _ _ (by decide), gI_sJ, gI_nk _ _ _ (by decide), gI_self]
  have c5 : gI g0 (7, 0, 0) 5 = iZ p := by rw [hg0, gI_nk _ _ _ (by decide), gI_sJ, gI_self]
  have c7 : gI g0 (7, 0, 0) 7 = iZ 0 := by rw [hg0, gI_self]
  have c12 : gJ g0 (7, 0, 0) 12 = jZ 0 := by rw [hg0, gJ_sI, gJ_sJ, if_pos ⟨rfl, rfl⟩]
  unfold jX9_goOnRead
  rw [ks]
  show ∃ g, (lt (sI (sI h (7, 0, 0) 4 (iZ p)) (7, 0, 0) 5 (gI (sI h (7, 0, 0) 4 (iZ p)) (7, 0, 0) 4)) _) = some g ∧ _
  rw [gI_self, lt_eq, lt_eq, lt_eq, show (0 : Int64) = jZ 0 from rfl, show (0 : Int32) = iZ 0 from rfl, ← hg0, x9_here T0 l1 c4 (by omega) (by omega) (by omega) (by omega), Option.bind_some, Int.add_zero]
  unfold tok
  rw [hp]
  by_cases q : p < len
  · have hbp := hb p (by omega) q
    have eb : bt len bs p = bs p := by unfold bt; rw [if_pos q]
    rw [eb, if_pos (le_y (by omega) (by omega) (by omega)), x9_isLetter g0 (by omega) hbp.2, if_pos q]
    by_cases qL : isL (bs p) = true
    · rw [if_pos qL, if_pos qL]
      have kw := fun K => x9_word (K := K) T0 hb l1 (by omega) q c4 c5 c12
      obtain ⟨g, e, f, t⟩ := kw _ (fun y x => rfl)
      exact ⟨g, e, f0.tr f, t⟩
    · rw [if_neg qL, if_neg qL, x9_isDigit g0 (by omega) hbp.2]
      by_cases qD : isD (bs p) = true
      · rw [if_pos qD, if_pos qD]
        have kn := fun K => x9_number (K := K) T0 hb l1 (by omega) q c4 c5 c7
        obtain ⟨g, e, f, t⟩ := kn _ (fun y x => rfl)
        exact ⟨g, e, f0.tr f, t⟩
      · rw [if_neg qD, if_neg qD]
        have fin : ∀ (k : Int), (k = 3 ↔ (bs p = 59 ∨ bs p = 40 ∨ bs p = 41)) → (k = 3 ∨ k = 4) → TkM (sI (sI (sI g0 (7, 0, 0) 6 (iZ k)) (7, 0, 0) 7 (iZ (bs p))) (7, 0, 0) 4 (iZ (p + 1))) (tokM bs p) := fun k hk hk2 => by
          unfold tokM
          have ek : (if bs p = 59 ∨ bs p = 40 ∨ bs p = 41 then (3 : Int) else 4) = k := by
            by_cases m : bs p = 59 ∨ bs p = 40 ∨ bs p = 41
            · rw [if_pos m, hk.mpr m]
            · rw [if_neg m]
              rcases hk2 with e | e
              · exact absurd (hk.mp e) m
              · exact e.symm
          rw [ek]
          refine ⟨?_, ?_, gI_self _ _ _ _, fun c => ?_, fun c => ?_⟩
          · rw [gI_nk _ _ _ (by decide), gI_nk _ _ _ (by decide), gI_self]
          · rw [gI_nk _ _ _ (by decide), gI_nk _ _ _ (by decide), gI_nk _ _ _ (by decide)]; exact c5
          · exfalso; replace c : k = 1 := c; omega
          · rw [gI_nk _ _ _ (by decide), gI_self]
        have fF : ∀ (k : Int), Fr sRd h (sI (sI (sI g0 (7, 0, 0) 6 (iZ k)) (7, 0, 0) 7 (iZ (bs p))) (7, 0, 0) 4 (iZ (p + 1))) := fun k => ((f0.sI rfl _).sI rfl _).sI rfl _
        have g4' : ∀ (k : Int), gI (sI (sI g0 (7, 0, 0) 6 (iZ k)) (7, 0, 0) 7 (iZ (bs p))) (7, 0, 0) 4 = iZ p := fun k => by
          rw [gI_nk _ _ _ (by decide), gI_nk _ _ _ (by decide)]; exact c4
        by_cases m1 : bs p = 59
        · rw [if_pos (show iZ (bs p) = 59 by rw [m1]; rfl)]
          refine ⟨_, ?_, fF 3, fin 3 (by omega) (Or.inl rfl)⟩
          rw [i3, lt_eq, lt_eq, lt_eq, g4', i1, iZ_add]
        · rw [if_neg (show ¬ iZ (bs p) = 59 from eq_n (b := 59) (by omega) (by omega) (by omega) (by omega) (by omega))]
          by_cases m2 : bs p = 40
          · rw [if_pos (show iZ (bs p) = 40 by rw [m2]; rfl)]
            refine ⟨_, ?_, fF 3, fin 3 (by omega) (Or.inl rfl)⟩
            rw [i3, lt_eq, lt_eq, lt_eq, g4', i1, iZ_add]
          · rw [if_neg (show ¬ iZ (bs p) = 40 from eq_n (b := 40) (by omega) (by omega) (by omega) (by omega) (by omega))]
            by_cases m3 : bs p = 41
            · rw [if_pos (show iZ (bs p) = 41 by rw [m3]; rfl)]
              refine ⟨_, ?_, fF 3, fin 3 (by omega) (Or.inl rfl)⟩
              rw [i3, lt_eq, lt_eq, lt_eq, g4', i1, iZ_add]
            · rw [if_neg (show ¬ iZ (bs p) = 41 from eq_n (b := 41) (by omega) (by omega) (by omega) (by omega) (by omega))]
              refine ⟨_, ?_, fF 4, fin 4 (by omega) (Or.inr rfl)⟩
              rw [show (4 : Int32) = iZ 4 from rfl, lt_eq, lt_eq, lt_eq, g4', i1, iZ_add]
  · have eb : bt len bs p = -1 := by unfold bt; rw [if_neg q]
    rw [eb, if_neg (le_n (by omega) (by omega) (by omega)), if_neg q]
    refine ⟨sI g0 (7, 0, 0) 6 (iZ 0), rfl, f0.sI rfl _, gI_self _ _ _ _, (gI_nk _ _ _ (by decide) _).trans c5, (gI_nk _ _ _ (by decide) _).trans c4, fun c => ?_, fun c => ?_⟩
    · exact absurd (show (0 : Int) = 1 from c) (by decide)
    · rcases c with c | c
      · exact absurd (show (0 : Int) = 2 from c) (by decide)
      · exact absurd (show (0 : Int) = 3 from c) (by decide)
end
