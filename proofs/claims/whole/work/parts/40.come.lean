/-! THE NAME IN THE BUFFER; come, letter -/
def isL (b : Int) : Bool := decide (97 ≤ b ∧ b ≤ 122)
def lpre (bs : Int → Int) (z : Int) : List Nat := (List.range z.toNat).map (fun (i : Nat) => (bs (i : Int) - 96).toNat)
theorem lpre_0 (bs : Int → Int) : lpre bs 0 = [] := rfl
theorem lpre_s (bs : Int → Int) {z : Int} (h : 0 ≤ z) : lpre bs (z + 1) = lpre bs z ++ [(bs z - 96).toNat] := by
  unfold lpre
  rw [show (z + 1).toNat = z.toNat + 1 by omega, List.range_succ, List.map_append, List.map_singleton, show ((z.toNat : Nat) : Int) = z by omega]
theorem lpre_len (bs : Int → Int) {z : Int} (h : 0 ≤ z) : ((lpre bs z).length : Int) = z := by
  unfold lpre
  rw [List.length_map, List.length_range]
  omega
theorem lpre_lt {bs : Int → Int} {z : Int} (h : ∀ i, 0 ≤ i → i < z → isL (bs i) = true) : Lt (lpre bs z) := by
  intro l hl
  unfold lpre at hl
  obtain ⟨i, hi, rfl⟩ := List.mem_map.mp hl
  have := List.mem_range.mp hi
  have := of_decide_eq_true (h i (by omega) (by omega))
  omega
def bng (len : Int) (bs : Int → Int) : Int := fnd (fun c => !isL (bs c)) len.toNat 0
def bnm (len : Int) (bs : Int → Int) : List Nat := if len ≤ 8 ∧ bng len bs = len then lpre bs len else []
section
variable {len : Int} {bs : Int → Int}
theorem bng_in (l0 : 0 ≤ len) : 0 ≤ bng len bs ∧ bng len bs ≤ len := by
  have := fnd_ge (fun c => !isL (bs c)) len.toNat 0
  unfold bng
  omega
theorem bng_y {z : Int} (h1 : 0 ≤ z) (h2 : z < bng len bs) : isL (bs z) = true := by
  have := fnd_not (fun c => !isL (bs c)) len.toNat 0 z h1 h2
  simpa using this
theorem bng_n (l0 : 0 ≤ len) (h : bng len bs < len) : isL (bs (bng len bs)) = false := by
  have := fnd_is (fun c => !isL (bs c)) len.toNat 0 (by unfold bng at h; omega)
  unfold bng
  simpa using this
theorem bnm_ok (l0 : 0 ≤ len) : NmZ (bnm len bs) := by
  unfold bnm
  split
  · rename_i q
    by_cases e : len = 0
    · rw [e]; exact Or.inl rfl
    · have hl := lpre_len bs l0
      exact Or.inr ⟨by omega, by omega, lpre_lt (fun i i0 i1 => bng_y i0 (by rw [q.2]; exact i1))⟩
  · exact Or.inl rfl
theorem bnm_len (l0 : 0 ≤ len) (h : bnm len bs ≠ []) : 1 ≤ len := by
  unfold bnm at h
  by_cases e : len = 0
  · subst e
    split at h
    · exact absurd rfl h
    · exact absurd rfl h
  · omega
theorem x1_at {h : HD} (hB : BfC 0 h len bs) (l1 : len ≤ 400) {z : Int} (h1 : 0 ≤ z) (h2 : z < len) : jX1_at 0 (iZ z) h = some (iZ (sby (bs z))) := by
  have e400 : ((bN 0 : Nat) : Int) = 400 := rfl
  unfold jX1_at
  rw [i0, if_neg (lt_n (by omega) (by omega) (by omega)), hB.2.1, if_neg (le_n (by omega) (by omega) (by omega)), iZ_ofNat, if_neg (le_n (by omega) (by omega) (by omega)), inB_t (by omega) (by omega) (by omega), if_pos rfl, iZ_nat (by omega) (by omega), (hB.2.2 z h1 h2).2]
theorem x8_isLetter (h : HD) {b : Int} (h1 : 0 ≤ b) (h2 : b < 256) : jX8_isLetter (iZ (sby b)) h = isL b := by
  unfold jX8_isLetter
  have e : (97 ≤ sby b ∧ sby b ≤ 122) ↔ (97 ≤ b ∧ b ≤ 122) := by unfold sby; split <;> omega
  have hs : -128 ≤ sby b ∧ sby b < 128 := by unfold sby; split <;> omega
  unfold isL
  rw [show (97 : Int32) = iZ 97 from rfl, show (122 : Int32) = iZ 122 from rfl]
  by_cases q1 : sby b < 97
  · rw [if_pos (lt_y (by omega) (by omega) (by omega)), decide_eq_false (by omega)]
  · rw [if_neg (lt_n (by omega) (by omega) (by omega))]
    by_cases q2 : 122 < sby b
    · rw [if_pos (lt_y (by omega) (by omega) (by omega)), decide_eq_false (by omega)]
    · rw [if_neg (lt_n (by omega) (by omega) (by omega)), decide_eq_true (by omega)]
theorem isL_s {b : Int} (h : isL b = true) : sby b = b ∧ 1 ≤ (b - 96).toNat ∧ (b - 96).toNat ≤ 26 ∧ (((b - 96).toNat : Nat) : Int) = b - 96 := by
  have := of_decide_eq_true h
  refine ⟨?_, by omega, by omega, by omega⟩
  unfold sby
  rw [if_pos (by omega)]
theorem x1_wholeName {h : HD} (hB : BfC 0 h len bs) (l1 : len ≤ 400) : jX1_wholeName 0 h = some (jZ (eC (bnm len bs))) := by
  have l0 := hB.1
  have g1 := bng_in (bs := bs) l0
  unfold jX1_wholeName
  rw [hB.2.1, i8]
  by_cases q : len ≤ 8
  · rw [if_pos (le_y (by omega) (by omega) (by omega)), i0]
    refine loopN (fun f (x : Int64 × Int32) => jX1_wholeName_L15 0 h f x.1 x.2) (fun z => (jZ (eC (lpre bs z)), iZ z)) (a := 0) (b := bng len bs) (by omega) (fun f z q1 q2 => ?_) (fun f => ?_) FU (FU_gt (by omega))
    · show jX1_wholeName_L15 0 h (f + 1) (jZ (eC (lpre bs z))) (iZ z) = jX1_wholeName_L15 0 h f (jZ (eC (lpre bs (z + 1)))) (iZ (z + 1))
      have hL := bng_y q1 q2
      have hs := isL_s hL
      have hb := (hB.2.2 z q1 (by omega)).1
      have hll := lpre_len bs q1
      have hw := x8_with h (ks := lpre bs z) (l := (bs z - 96).toNat) (lpre_lt (fun i i0 i1 => bng_y (len := len) (bs := bs) i0 (by omega))) (by omega) ⟨hs.2.1, hs.2.2.1⟩
      rw [hll, hs.2.2.2] at hw
      rw [jX1_wholeName_L15, hB.2.1, if_neg (le_n (by omega) (by omega) (by omega)), x1_at hB l1 q1 (by omega), Option.bind_some, x8_isLetter h hb.1 hb.2, if_pos hL, Option.bind_some, hs.1, show (97 : Int32) = iZ 97 from rfl, iZ_sub, i1, iZ_add, iZ_add, show bs z - 97 + 1 = bs z - 96 by omega, hw, lpre_s bs q1]
    · show jX1_wholeName_L15 0 h (f + 1) (jZ (eC (lpre bs (bng len bs)))) (iZ (bng len bs)) = _
      rw [jX1_wholeName_L15, hB.2.1]
      unfold bnm
      by_cases q3 : bng len bs < len
      · have hb := (hB.2.2 _ g1.1 q3).1
        rw [if_neg (le_n (by omega) (by omega) (by omega)), x1_at hB l1 g1.1 q3, Option.bind_some, x8_isLetter h hb.1 hb.2, bng_n l0 q3, if_neg Bool.false_ne_true, if_neg (fun c => by omega)]
        rfl
      · rw [if_pos (le_y (by omega) (by omega) (by omega)), if_pos ⟨q, by omega⟩, show bng len bs = len by omega]
  · rw [if_neg (le_n (by omega) (by omega) (by omega))]
    unfold bnm
    rw [if_neg (fun c => q c.1)]
    rfl
theorem x9_bufferName {h : HD} (hM : BfM (7, 0, 1) 2 h len bs) (l1 : len ≤ 400) (hb : ∀ z, 0 ≤ z → z < len → 0 ≤ bs z ∧ bs z < 256) : jX9_bufferName h = some (jZ (eM (bnm len bs))) := by
  have l0 := hM.1
  have g1 := bng_in (bs := bs) l0
  obtain ⟨K, hK⟩ : ∃ K : Int64 → Int32 → Option Int64, K = fun y18_1 y18_3 => (if y18_3 = 0 then some (0 : Int64) else some y18_1) := ⟨_, rfl⟩
  have hK0 : ∀ x, K x (iZ 0) = some 0 := fun x => by rw [hK]; rfl
  have hK1 : ∀ x, K x (iZ 1) = some x := fun x => by rw [hK]; rfl
  unfold jX9_bufferName
  rw [← hK, hM.2.1, iZ_j (by omega) (by omega), show (1 : Int64) = jZ 1 from rfl, show (8 : Int64) = jZ 8 from rfl, jZ_is (by omega) (by omega) (by omega) (by omega) (by omega) (by omega)]
  have st0 : ∀ (f : Nat) (x : Int64) (z : Int), jX9_bufferName_L18 h K (f + 1) x (iZ 0) (iZ z) = some 0 := fun f x z => by
    rw [jX9_bufferName_L18]
    split
    · exact hK0 x
    · rw [if_pos (show iZ 0 = 0 from rfl)]
      exact hK0 x
  by_cases q : 1 ≤ len ∧ len ≤ 8
  · rw [decide_eq_true q, b2i_t, i0]
    have st : ∀ (f : Nat) (z : Int), 0 ≤ z → z < len → z ≤ bng len bs → jX9_bufferName_L18 h K (f + 1) (jZ (eM (lpre bs z))) (iZ 1) (iZ z) = jX9_bufferName_L18 h K f (jZ (32 * eM (lpre bs z) + bs z - 96)) (b2i (isL (bs z))) (iZ (z + 1)) := fun f z z0 z1 z2 => by
      have hbz := hb z z0 z1
      rw [jX9_bufferName_L18, hM.2.1, if_neg (le_n (by omega) (by omega) (by omega)), if_neg (show ¬ iZ 1 = 0 by decide), inB_t (by omega) (by omega) (by omega), if_pos rfl, if_pos rfl, iZ_nat (by omega) (by omega), hM.2.2 z z0 z1, iZ_j (by omega) (by omega), show (32 : Int64) = jZ 32 from rfl, show (96 : Int64) = jZ 96 from rfl, jZ_mul, jZ_add, jZ_sub, show (97 : Int64) = jZ 97 from rfl, show (122 : Int64) = jZ 122 from rfl, jZ_is (by omega) (by omega) (by omega) (by omega) (by omega) (by omega), i1, iZ_add]
      rfl
    refine loopM 1 (fun f (x : Int64 × Int32 × Int32) => jX9_bufferName_L18 h K f x.1 x.2.1 x.2.2) (fun z => (jZ (eM (lpre bs z)), iZ 1, iZ z)) (a := 0) (b := bng len bs) (by omega) (fun f z q1 q2 => ?_) (fun f => ?_) FU (FU_gt (by omega))
    · show jX9_bufferName_L18 h K (f + 1) (jZ (eM (lpre bs z))) (iZ 1) (iZ z) = jX9_bufferName_L18 h K f (jZ (eM (lpre bs (z + 1)))) (iZ 1) (iZ (z + 1))
      have hL := bng_y q1 q2
      have hs := isL_s hL
      rw [st f z q1 (by omega) (by omega), hL, lpre_s bs q1, eM_snoc, hs.2.2.2, b2i_t]
      congr 1
      congr 1
      omega
    · show jX9_bufferName_L18 h K (f + 1 + 1) (jZ (eM (lpre bs (bng len bs)))) (iZ 1) (iZ (bng len bs)) = _
      unfold bnm
      by_cases q3 : bng len bs < len
      · rw [st (f + 1) _ g1.1 q3 (Int.le_refl _), bng_n l0 q3, b2i_f, st0, if_neg (fun c => by omega)]
        rfl
      · rw [jX9_bufferName_L18, hM.2.1, if_pos (le_y (by omega) (by omega) (by omega)), hK1, if_pos ⟨q.2, by omega⟩, show bng len bs = len by omega]
  · rw [decide_eq_false q, b2i_f, i0]
    have := st0 999999 0 0
    have e : bnm len bs = [] := by
      unfold bnm
      split
      · rename_i c
        rw [show len = 0 by omega]; rfl
      · rfl
    rw [e]
    exact this
end
/-! come -/
def sCB : Rf → Nat → Bool := fun r k => sCC r k || (Nat.beq r.1 0 && Nat.beq r.2.1 0 && Nat.beq r.2.2 0)
def sMB : Rf → Nat → Bool := fun r k => sMM r k || (Nat.beq r.1 7 && Nat.beq r.2.2 0 && Nat.beq k 2)
theorem Rel.chg2 {h h1 h2 : HD} {R : Row} {a : Ac} {rf : Int32} {k : Int} {past : Int → Row} (hR : Rel h) (hF : Fk sCB h h1) (hG : Fr sMB h1 h2) (hok : RwOk R) (hC : SC h1 (R, a, rf)) (hM : SM h2 (R, a, rf)) (hk : 0 ≤ k ∧ k ≤ 6) (hU : UC h1 k past) (hV : UM h2 k past) (hp : ∀ z, 0 ≤ z → z < k → RwOk (past z)) (hB : RBuf h2) : Rel h2 := by
  obtain ⟨-, -, -, r4, -, r6, r7⟩ := hR
  have c4 : RErr h1 := r4.fr (S := sCB) (h2 := ck h h1) hF.fr rfl rfl rfl rfl
  have c6 : RSav h1 := r6.fr (S := sCB) (h2 := ck h h1) hF.fr rfl rfl (fun _ _ => rfl) (fun _ => rfl) (fun _ => rfl)
  have c7 : RRep h1 := r7.fr (S := sCB) (h2 := ck h h1) hF.fr rfl rfl (fun _ => rfl) (fun _ => rfl) rfl
  have f1 : ∀ o j k, sMB (1, o, j) k = false := fun _ _ _ => rfl
  have u2 : UC h2 k past := hU.fr hk.2 hG rfl (fun o j k _ => f1 o j k)
  refine ⟨⟨R, hok, hC.1.fr hG (f1 0), hM.1⟩, hB, ⟨fun i hi => ?_, ?_⟩, c4.fr hG rfl rfl rfl rfl, ⟨k, past, hk.1, hk.2, u2.1, hV.1, u2.2.1, u2.2.2.1, fun z z0 z1 => ⟨hp z z0 z1, u2.2.2.2 z z0 z1, hV.2 z z0 z1⟩⟩, c6.fr hG rfl rfl (f1 2) (fun _ => rfl) (fun _ => rfl), c7.fr hG rfl rfl (fun _ => rfl) (fun _ => rfl) rfl⟩
  · exact ((hG.1 _ _ rfl).trans (hC.2.1 i hi)).trans (hM.2.1 i hi).symm
  · exact ((hG.1 _ _ rfl).trans hC.2.2).trans hM.2.2.symm
theorem CC_CB {h h2 : HD} (hF : Fk sCC h h2) : Fk sCB h h2 := hF.mono fun r k q => by
  unfold sCB at q
  exact (Bool.or_eq_false_iff.mp q).1
theorem MM_MB {h h2 : HD} (hF : Fr sMM h h2) : Fr sMB h h2 := hF.mono fun r k q => by
  unfold sMB at q
  exact (Bool.or_eq_false_iff.mp q).1
theorem p_come {h : HD} (hR : Rel h) (p : Int32) : PB [1] (jX8_come p h) (jX9_come p) := by
  obtain ⟨R, a, rf, k, past, hok, hC, hM, hk, hU, hV, hp⟩ := hR.get
  obtain ⟨len, bs, l1, bC, bM⟩ := hR.2.1.get
  have l0 := bC.1
  have ho : PrOk R.1 R.2.1 R.2.2.1 := hok.1
  have hn : 0 ≤ R.1 ∧ R.1 ≤ 11 := ⟨ho.1, ho.2.1⟩
  obtain ⟨v, v1, v2, rfl⟩ := iZ_ex p
  have a8 : jX8_canComeTo (iZ v) h = decide (0 ≤ v ∧ v ≤ R.1 + 1) := by
    have hc1 : gI h (1, 0, 0) 2 = iZ R.1 := hC.1.1.1
    unfold jX8_canComeTo jX2_spots
    rw [hc1, i0, i1, iZ_add]
    by_cases q1 : v < 0
    · rw [if_pos (lt_y (by omega) (by omega) (by omega)), decide_eq_false (by omega)]
    · rw [if_neg (lt_n (by omega) (by omega) (by omega))]
      by_cases q2 : R.1 + 1 < v
      · rw [if_pos (lt_y (by omega) (by omega) (by omega)), decide_eq_false (by omega)]
      · rw [if_neg (lt_n (by omega) (by omega) (by omega)), decide_eq_true (by omega)]
  have a9 : ∀ g, PrM g R.1 R.2.1 R.2.2.1 → jX9_mayCome (iZ v) g = some (decide (0 ≤ v ∧ v ≤ R.1 + 1)) := fun g hg => by
    unfold jX9_mayCome
    rw [hg.1, i1, iZ_add, iZ_j (by omega) (by omega), iZ_j (by omega) (by omega), show (0 : Int64) = jZ 0 from rfl, jZ_is (by omega) (by omega) (by omega) (by omega) (by omega) (by omega)]
  by_cases q : 0 ≤ v ∧ v ≤ R.1 + 1
  · obtain ⟨K, hK⟩ : ∃ K, bnm len bs = K := ⟨_, rfl⟩
    have hKz : NmZ K := hK ▸ bnm_ok l0
    obtain ⟨q0, e0, f0, -⟩ := x2_copy (o := 3) (r := 0) (by decide) hC.1 hn.2
    have n0 : jX8_note h = some q0 := by unfold jX8_note; rw [e0]; rfl
    have w0 : jX1_wholeName 0 q0 = some (jZ (eC K)) := hK ▸ x1_wholeName (bC.fr f0 rfl (fun _ => rfl)) l1
    have d8 := fun (g : HD) (hg : SC g (R, a, rf)) => d8_come (v := v) hg hok hKz
    by_cases qv : R.1 < 11 ∧ K ≠ [] ∧ cnN R K = -1
    · obtain ⟨q1, q2, q3, e1, e2, e3, -, F, C, U⟩ := c_kept (v := true) (s2 := (comR R K v, bmp 2 (bmp 0 a), rf)) (f := jX8_doCome (jZ (eC K)) (iZ v)) hC hn.2 hk hU (fun g hg => by
        obtain ⟨h3, e, f, c⟩ := d8 g hg
        rw [decide_eq_true qv] at e
        rw [if_pos qv.1, if_pos qv.2] at c
        exact ⟨h3, e, f, c⟩)
      have eq1 : q0 = q1 := Option.some.inj (n0.symm.trans e1)
      subst eq1
      have len1 : 1 ≤ len := bnm_len l0 (hK ▸ qv.2.1)
      have b3 : gI q3 (0, 0, 0) 1 = iZ len := (F.1 _ _ rfl).trans bC.2.1
      obtain ⟨q4, h4⟩ : ∃ q4, q4 = sI q3 (0, 0, 0) 1 (iZ 0) := ⟨_, rfl⟩
      have s4 : jX1_shorten 0 0 q3 = some q4 := by
        unfold jX1_shorten
        rw [if_neg (by decide), b3, i0, if_neg (le_n (by omega) (by omega) (by omega)), h4]
        rfl
      have f4 : Fr (fun (q : Rf) (_ : Nat) => decide (q = (0, 0, 0))) q3 q4 := by rw [h4]; exact Fr.rf.sI rfl _
      have nx : ∀ (o j k2 : Nat), (fun (q : Rf) (_ : Nat) => decide (q = (0, 0, 0))) (1, o, j) k2 = false := fun o j k2 => decide_eq_false (fun e => by cases e)
      have C4 : SC q4 (comR R K v, bmp 2 (bmp 0 a), rf) := C.fr f4 (nx 0) (fun _ => rfl) rfl
      have U4 : UC q4 (psK k) (psF k past R) := U.fr (psK_in hk).2 f4 rfl (fun o j k2 _ => nx o j k2)
      have F4 : Fk sCB h q4 := (CC_CB F).tr (Fk.of (by rw [h4]; exact Fr.rf.sI rfl _))
      have M4 : SM (c0 q4 0) (R, a, rf) := ((hM.fk F).fr f4 (fun _ => rfl) (fun _ => rfl) (fun _ => rfl) rfl).c0 0
      have V4 : UM (c0 q4 0) k past := ((hV.fk F).fr f4 rfl (fun _ => rfl) (fun _ => rfl)).c0 0
      have bM3 : BfM (7, 0, 1) 2 q3 len bs := bM.fr (S := sCC) (h2 := ck h q3) F.fr rfl (fun _ => rfl)
      have bM4 : BfM (7, 0, 1) 2 (c0 q4 0) len bs := (bM3.fr f4 rfl (fun _ => rfl)).fr (c0_fr q4 0) rfl (fun _ => rfl)
      obtain ⟨g1, E1, G1, A1, -⟩ := x9_aside M4.1 hn.2
      have M5 := M4.fr G1 (fun _ => rfl) (fun _ => rfl) (fun _ => rfl) rfl
      have V5 := V4.fr G1 rfl (fun _ => rfl) (fun _ => rfl)
      have bM5 := bM4.fr G1 rfl (fun _ => rfl)
      obtain ⟨g2, E2, G2, M6⟩ := d9_comes (k := K) (v := v) M5 hok qv.1
      obtain ⟨g3, h3⟩ : ∃ g3, g3 = sI g2 (7, 0, 0) 2 (iZ 0) := ⟨_, rfl⟩
      have G3 : Fr (fun (q : Rf) (k2 : Nat) => decide (q = (7, 0, 0)) && Nat.beq k2 2) g2 g3 := by rw [h3]; exact Fr.rf.sI rfl _
      have M7 := M6.fr G3 (fun _ => rfl) (fun _ => rfl) (fun _ => rfl) rfl
      have V7 := (V5.fr G2 rfl (fun _ => rfl) (fun _ => rfl)).fr G3 rfl (fun _ => rfl) (fun _ => rfl)
      have A7 := (A1.fr G2 (fun _ => rfl) (fun _ => rfl)).fr G3 (fun _ => rfl) (fun _ => rfl)
      obtain ⟨g4, E4, G4, V8⟩ := x9_keeps V7 hk (fun z z0 z1 => (hp z z0 z1).1.2.1) A7 hn.2
      have M8 := M7.fr G4 (fun _ => rfl) (fun _ => rfl) (fun _ => rfl) rfl
      have G : Fr sMB (c0 q4 0) g4 := (((MM_MB (s2_MM (Or.inr (Or.inl rfl)) (Or.inr (Or.inl rfl)) G1)).tr (MM_MB (A9_MM G2))).tr (by rw [h3]; exact Fr.rf.sI rfl _)).tr (MM_MB (Km_MM G4))
      have hbuf : RBuf g4 := by
        refine RBuf.of (len := 0) (bs := bs) (by decide) ⟨by decide, ?_, fun z z0 z1 => by omega⟩ ⟨by decide, ?_, fun z z0 z1 => by omega⟩
        · rw [G.1 _ _ rfl]
          show gI (sI q4 (7, 0, 0) 0 _) _ _ = _
          rw [gI_ne _ (by decide), h4, gI_self]
        · rw [G4.1 _ _ rfl, h3, gI_self]
      refine PB.ok (v := true) (h1 := q4) (h2 := g4) ?_ ?_ (hR.chg2 F4 ((MM_MB (c0_MM q4 0)).tr G) (comR_ok hok qv.1 (hKz.resolve_left qv.2.1) q.1 q.2) C4 M8 (psK_in hk) U4 V8 (psF_ok hk hp hok) hbuf) ?_
      · unfold jX8_come
        rw [a8, decide_eq_true q, if_pos rfl, e1, Option.bind_some, w0, Option.bind_some, e2, Option.bind_some]
        unfold jX8_keepNotedIf
        rw [if_pos rfl]
        show (Option.bind (Option.bind (jX8_keepNoted q2) _) _) = _
        rw [e3]
        show (jX1_shorten 0 0 q3).bind _ = _
        rw [s4]
        rfl
      · unfold jX9_come
        rw [a9 _ ((hM.fk F).fr f4 (fun _ => rfl) (fun _ => rfl) (fun _ => rfl) rfl).1.pr, decide_eq_true q, Option.bind_some, x9_goes, Option.bind_some, if_pos rfl]
        show (jX9_bufferName (c0 q4 0)).bind _ = _
        rw [x9_bufferName bM4 l1 (fun z z0 z1 => (bC.2.2 z z0 z1).1), hK, Option.bind_some]
        show (jX9_whyNoCar (jZ (eM K)) (c0 q4 0)).bind _ = _
        rw [d9_whyCar M4.1 hok hKz, if_pos qv.1, if_pos qv.2, Option.bind_some]
        show Option.bind (jX9_refused (iZ 0) (c0 q4 0)) _ = _
        rw [show jX9_refused (iZ 0) (c0 q4 0) = some (false, c0 q4 0) from rfl, Option.bind_some, if_neg Bool.false_ne_true, E1, Option.bind_some, x9_bufferName bM5 l1 (fun z z0 z1 => (bC.2.2 z z0 z1).1), hK, Option.bind_some, E2, Option.bind_some, i0, lt_eq]
        show Option.bind (jX9_kept (iZ (R.1 + 1)) (sI g2 (7, 0, 0) 2 (iZ 0))) _ = _
        unfold jX9_kept
        rw [← h3, E4]
        show (if iZ (R.1 + 1) ≤ iZ 0 then _ else _) = _
        rw [if_neg (le_n (by omega) (by omega) (by omega))]
      · rw [G4.1 _ _ rfl, h3, gI_nk _ _ _ (by decide), G2.1 _ _ rfl, G1.1 _ _ rfl]
        exact c0_0 _ _
    · obtain ⟨c, hc, hc2⟩ : ∃ c : Int, (c = 1 ∨ c = 2) ∧ (if R.1 < 11 then (if K ≠ [] ∧ cnN R K = -1 then 0 else 2) else 1 : Int) = c ∧ (if R.1 < 11 then (if K ≠ [] ∧ cnN R K = -1 then (comR R K v, bmp 2 (bmp 0 a), rf) else (R, bmp 1 a, 2)) else (R, bmp 1 a, 1) : S3) = (R, bmp 1 a, iZ c) := by
        by_cases r1 : R.1 < 11
        · have r2 : ¬ (K ≠ [] ∧ cnN R K = -1) := fun e => qv ⟨r1, e⟩
          exact ⟨2, Or.inr rfl, by rw [if_pos r1, if_neg r2], by rw [if_pos r1, if_neg r2]; rfl⟩
        · exact ⟨1, Or.inl rfl, by rw [if_neg r1], by rw [if_neg r1]; rfl⟩
      obtain ⟨q1, q2, q3, e1, e2, e3, ⟨F, C, U⟩, -⟩ := c_kept (v := false) (s2 := (R, bmp 1 a, iZ c)) (f := jX8_doCome (jZ (eC K)) (iZ v)) hC hn.2 hk hU (fun g hg => by
        obtain ⟨h3, e, f, c⟩ := d8 g hg
        rw [decide_eq_false qv] at e
        rw [hc2.2] at c
        exact ⟨h3, e, f, c⟩)
      have eq1 : q0 = q1 := Option.some.inj (n0.symm.trans e1)
      subst eq1
      have M1 := (hM.fk (Fk.of F)).c0 0
      have cne : iZ c ≠ 0 := by rcases hc with rfl | rfl <;> decide
      obtain ⟨g2, E2, G, M⟩ := d9_refuse M1 (k := iZ c) cne
      have bM4 : BfM (7, 0, 1) 2 (c0 q2 0) len bs := (bM.fr F rfl (fun _ => rfl)).fr (c0_fr q2 0) rfl (fun _ => rfl)
      refine PB.ok (v := false) (h1 := q2) (h2 := g2) ?_ ?_ (p_same hR hok hk hp F C U G M hV) ((G.1 _ _ rfl).trans (c0_0 _ _))
      · unfold jX8_come
        rw [a8, decide_eq_true q, if_pos rfl, e1, Option.bind_some, w0, Option.bind_some, e2, Option.bind_some]
        rfl
      · unfold jX9_come
        rw [a9 _ (hM.fk (Fk.of F)).1.pr, decide_eq_true q, Option.bind_some, x9_goes, Option.bind_some, if_pos rfl]
        show (jX9_bufferName (c0 q2 0)).bind _ = _
        rw [x9_bufferName bM4 l1 (fun z z0 z1 => (bC.2.2 z z0 z1).1), hK, Option.bind_some]
        show (jX9_whyNoCar (jZ (eM K)) (c0 q2 0)).bind _ = _
        rw [d9_whyCar M1.1 hok hKz, hc2.1, Option.bind_some]
        show Option.bind (jX9_refused (iZ c) (c0 q2 0)) _ = _
        rw [E2]
        rfl
  · refine PB.ex (h1 := h) (h2 := c0 h 1) (w := false) 0 (e := 1) ?_ ?_ (hR.fr (c0_fr h 1)) rfl (c0_0 _ _)
    · unfold jX8_come
      rw [a8, decide_eq_false q]; rfl
    · unfold jX9_come
      rw [a9 _ hM.1.pr, decide_eq_false q, Option.bind_some, x9_goes]; rfl
/-! letter -/
theorem p_letter {h : HD} (hR : Rel h) (p w : Int32) : PP [2] (nh h (jX8_letter p w h)) (jX9_letter p w) := by
  obtain ⟨⟨R, hok, hC, hM⟩, -⟩ := id hR
  have hn : 0 ≤ R.1 ∧ R.1 ≤ 11 := ⟨hok.1.1, hok.1.2.1⟩
  obtain ⟨z, z1, z2, rfl⟩ := iZ_ex p
  obtain ⟨c, c1, c2, rfl⟩ := iZ_ex w
  by_cases q : 0 ≤ z ∧ z < R.1
  · have hk := hok.2 z q.1 q.2
    have hkz : NmZ (R.2.2.2 z) := Or.inr hk
    have ev : (if 0 ≤ c ∧ c < 8 then ltr (R.2.2.2 z) c else 0) = (if 0 ≤ c ∧ c ≤ ((R.2.2.2 z).length : Int) - 1 then ltr (R.2.2.2 z) c else 0) := by
      have h8 := hk.2.1
      by_cases r : 0 ≤ c ∧ c ≤ ((R.2.2.2 z).length : Int) - 1
      · rw [if_pos r, if_pos (by omega)]
      · rw [if_neg r]
        split
        · unfold ltr
          rw [if_neg (by omega)]
        · rfl
    refine PP.ok (v := iZ (if 0 ≤ c ∧ c < 8 then ltr (R.2.2.2 z) c else 0)) (h1 := h) (h2 := c0 h 0) ?_ ?_ (hR.fr (c0_fr h 0)) (c0_0 _ _)
    · unfold jX8_letter nh
      rw [x8_needCar (o := 0) hC.1 hn z1 z2, if_pos q, Option.bind_some, sm_r, x2_nameOf hC hn q.1 q.2, Option.bind_some, x8_letterOf h hkz c1 c2]
      rfl
    · unfold jX9_letter
      rw [x9_isCar hM.pr hn z1 z2, decide_eq_true q, Option.bind_some, x9_goes, Option.bind_some, if_pos rfl, inB_t (by omega) (by omega) (by omega), if_pos rfl, iZ_nat (by omega) (by omega)]
      have en : gJ (c0 h 0) (7, 0, 7) z.toNat = jZ (eM (R.2.2.2 z)) := by
        have := hM.2.2.2 z q.1 q.2
        rwa [Int.zero_add] at this
      show (jX9_lettersOf (gJ (c0 h 0) (7, 0, 7) z.toNat) (c0 h 0)).bind _ = _
      have hl := hk.1
      have hl8 := hk.2.1
      rw [en, x9_lettersOf _ hkz, Option.bind_some, i1, iZ_sub, iZ_j (by omega) (by omega), iZ_j (by omega) (by omega), show (0 : Int64) = jZ 0 from rfl, jZ_is (by omega) (by omega) (by omega) (by omega) (by omega) (by omega), ev]
      by_cases r : 0 ≤ c ∧ c ≤ ((R.2.2.2 z).length : Int) - 1
      · rw [decide_eq_true r, if_pos rfl, if_pos r, if_pos rfl]
        show (jX9_letterOf (gJ (c0 h 0) (7, 0, 7) z.toNat) (iZ c) (c0 h 0)).bind _ = _
        rw [en, x9_letterOf _ hkz r.1 (by omega)]
        rfl
      · rw [decide_eq_false r, if_neg Bool.false_ne_true, if_neg r]
        rfl
  · refine PP.ex (h1 := h) (h2 := c0 h 1) (w := 0) 0 (e := 2) ?_ ?_ (hR.fr (c0_fr h 1)) rfl (c0_0 _ _)
    · unfold jX8_letter nh
      rw [x8_needCar (o := 0) hC.1 hn z1 z2, if_neg q]
      rfl
    · unfold jX9_letter
      rw [x9_isCar hM.pr hn z1 z2, decide_eq_false q, Option.bind_some, x9_goes]
      rfl
