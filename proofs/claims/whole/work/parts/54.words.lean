/-! words of the language; what the class reads at a token -/
theorem x8_wordOf (h : HD) {u : Nat × List Int32} {ks : List Nat} (hk : Lt ks) (h8 : ks.length ≤ 8) (hu : u.2 = ks.map (fun (l : Nat) => iZ (96 + (l : Int)))) : jX8_wordOf u h = some (jZ (eC ks)) := by
  have hul : u.2.length = ks.length := by rw [hu, List.length_map]
  unfold jX8_wordOf
  rw [show (0 : Int64) = jZ (eC []) by rw [eC_nil]; rfl, i0]
  refine loopN (fun f (x : Int64 × Int32) => jX8_wordOf_L4 u h f x.1 x.2) (fun z => (jZ (eC (ks.take z.toNat)), iZ z)) (a := 0) (b := ks.length) (by omega) (fun f z z0 z1 => ?_) (fun f => ?_) FU (FU_gt (by omega))
  · show jX8_wordOf_L4 u h (f + 1) (jZ (eC (ks.take z.toNat))) (iZ z) = jX8_wordOf_L4 u h f (jZ (eC (ks.take (z + 1).toNat))) (iZ (z + 1))
    have hz : z.toNat < ks.length := by omega
    have hlen : (ks.take z.toNat).length = z.toNat := by rw [List.length_take]; omega
    have hl := hk _ (List.getElem_mem hz)
    have hw := x8_with h (ks := ks.take z.toNat) (l := ks[z.toNat]) (fun l hl2 => hk l (List.mem_of_mem_take hl2)) (by omega) hl
    rw [hlen, show ((z.toNat : Nat) : Int) = z by omega] at hw
    have hg : u.2.getD z.toNat 0 = iZ (96 + (ks[z.toNat] : Int)) := by
      rw [hu, List.getD_eq_getElem?_getD, List.getElem?_map, List.getElem?_eq_getElem hz]
      rfl
    rw [jX8_wordOf_L4, hul, iZ_ofNat, if_neg (le_n (by omega) (by omega) (by omega)), i8, if_neg (le_n (by omega) (by omega) (by omega)), inB_t (by omega) (by omega) (by omega), if_pos rfl, iZ_nat (by omega) (by omega), hg, show (97 : Int32) = iZ 97 from rfl, iZ_sub, i1, iZ_add, iZ_add, show 96 + (ks[z.toNat] : Int) - 97 + 1 = (ks[z.toNat] : Int) by omega, hw, show (z + 1).toNat = z.toNat + 1 by omega, List.take_add_one, List.getElem?_eq_getElem hz]
    rfl
  · show jX8_wordOf_L4 u h (f + 1) (jZ (eC (ks.take ((ks.length : Nat) : Int).toNat))) (iZ ks.length) = _
    rw [jX8_wordOf_L4, hul, iZ_ofNat, if_pos (le_y (by omega) (by omega) (by omega)), Int.toNat_natCast, List.take_length]
/-- a token is well formed -/
def TkOk (t : Tok) : Prop := (t.1 = 1 → NmOk t.2.2.2.1) ∧ (t.1 = 2 → 0 ≤ t.2.2.2.2 ∧ t.2.2.2.2 ≤ 999) ∧ (t.1 = 3 → t.2.2.2.2 = 59 ∨ t.2.2.2.2 = 40 ∨ t.2.2.2.2 = 41) ∧ (0 ≤ t.1 ∧ t.1 ≤ 4)
theorem tok_ok {len i : Int} {bs : Int → Int} (ib : i ≤ len) : TkOk (tok len bs i) ∧ i ≤ (tok len bs i).2.1 ∧ (tok len bs i).2.1 ≤ (tok len bs i).2.2.1 ∧ (tok len bs i).2.2.1 ≤ len ∧ ((tok len bs i).1 ≠ 0 → (tok len bs i).2.1 < (tok len bs i).2.2.1) := by
  have hs := skS_in (bs := bs) ib
  obtain ⟨p, hp⟩ : ∃ p, skS len bs i = p := ⟨_, rfl⟩
  unfold tok
  rw [hp] at hs ⊢
  by_cases q : p < len
  · rw [if_pos q]
    by_cases qL : isL (bs p) = true
    · rw [if_pos qL]
      have hl := skL_in (bs := bs) (Int.le_of_lt q)
      have hlt : p < skL len bs p := by
        rcases Int.lt_or_le p (skL len bs p) with c | c
        · exact c
        · have := skL_n (bs := bs) (Int.le_of_lt q) (by omega)
          rw [show skL len bs p = p by omega, qL] at this
          cases this
      refine ⟨⟨fun c => ?_, fun c => ?_, fun c => ?_, ?_⟩, hs.1, Int.le_of_lt hlt, hl.2, fun _ => hlt⟩
      · have c2 : (if skL len bs p - p ≤ 8 then (1 : Int) else 4) = 1 := c
        have h8 : skL len bs p - p ≤ 8 := by
          rcases Int.lt_or_le 8 (skL len bs p - p) with d | d
          · rw [if_neg (by omega)] at c2; exact absurd c2 (by decide)
          · exact d
        have em : mn (skL len bs p - p) 8 = skL len bs p - p := by unfold mn; rw [if_pos h8]
        show NmOk (lpre (fun j => bs (p + j)) (mn (skL len bs p - p) 8))
        rw [em]
        have hlen := lpre_len (fun j => bs (p + j)) (show 0 ≤ skL len bs p - p by omega)
        exact ⟨by omega, by omega, lpre_lt (fun j j0 j1 => skL_y (len := len) (bs := bs) (show p ≤ p + j by omega) (by omega))⟩
      · exfalso
        have c2 : (if skL len bs p - p ≤ 8 then (1 : Int) else 4) = 2 := c
        split at c2 <;> omega
      · exfalso
        have c2 : (if skL len bs p - p ≤ 8 then (1 : Int) else 4) = 3 := c
        split at c2 <;> omega
      · show 0 ≤ (if skL len bs p - p ≤ 8 then (1 : Int) else 4) ∧ (if skL len bs p - p ≤ 8 then (1 : Int) else 4) ≤ 4
        split <;> omega
    · rw [if_neg qL]
      by_cases qD : isD (bs p) = true
      · rw [if_pos qD]
        have hl := skD_in (bs := bs) (Int.le_of_lt q)
        have hlt : p < skD len bs p := by
          rcases Int.lt_or_le p (skD len bs p) with c | c
          · exact c
          · have := skD_n (bs := bs) (Int.le_of_lt q) (by omega)
            rw [show skD len bs p = p by omega, qD] at this
            cases this
        refine ⟨⟨fun c => ?_, fun c => ?_, fun c => ?_, ?_⟩, hs.1, Int.le_of_lt hlt, hl.2, fun _ => hlt⟩
        · exfalso
          have c2 : (if skD len bs p - p ≤ 3 then (2 : Int) else 4) = 1 := c
          split at c2 <;> omega
        · show 0 ≤ nmD bs p (mn (skD len bs p - p) 3) ∧ nmD bs p (mn (skD len bs p - p) 3) ≤ 999
          have em : 0 ≤ mn (skD len bs p - p) 3 ∧ mn (skD len bs p - p) 3 ≤ 3 ∧ mn (skD len bs p - p) 3 ≤ skD len bs p - p := by unfold mn; split <;> omega
          exact nmD_b (len := len) em.1 em.2.1 (by omega)
        · exfalso
          have c2 : (if skD len bs p - p ≤ 3 then (2 : Int) else 4) = 3 := c
          split at c2 <;> omega
        · show 0 ≤ (if skD len bs p - p ≤ 3 then (2 : Int) else 4) ∧ (if skD len bs p - p ≤ 3 then (2 : Int) else 4) ≤ 4
          split <;> omega
      · rw [if_neg qD]
        refine ⟨⟨fun c => ?_, fun c => ?_, fun c => ?_, ?_⟩, hs.1, by show p ≤ p + 1; omega, by show p + 1 ≤ len; omega, fun _ => by show p < p + 1; omega⟩
        · exfalso
          have c2 : (if bs p = 59 ∨ bs p = 40 ∨ bs p = 41 then (3 : Int) else 4) = 1 := c
          split at c2 <;> omega
        · exfalso
          have c2 : (if bs p = 59 ∨ bs p = 40 ∨ bs p = 41 then (3 : Int) else 4) = 2 := c
          split at c2 <;> omega
        · have c2 : (if bs p = 59 ∨ bs p = 40 ∨ bs p = 41 then (3 : Int) else 4) = 3 := c
          show bs p = 59 ∨ bs p = 40 ∨ bs p = 41
          rcases Decidable.em (bs p = 59 ∨ bs p = 40 ∨ bs p = 41) with d | d
          · exact d
          · rw [if_neg d] at c2; exact absurd c2 (by decide)
        · show 0 ≤ (if bs p = 59 ∨ bs p = 40 ∨ bs p = 41 then (3 : Int) else 4) ∧ (if bs p = 59 ∨ bs p = 40 ∨ bs p = 41 then (3 : Int) else 4) ≤ 4
          split <;> omega
  · rw [if_neg q]
    exact ⟨⟨fun c => absurd (show (0 : Int) = 1 from c) (by decide), fun c => absurd (show (0 : Int) = 2 from c) (by decide), fun c => absurd (show (0 : Int) = 3 from c) (by decide), by show (0 : Int) ≤ 0 ∧ (0 : Int) ≤ 4; omega⟩, hs.1, Int.le_refl _, hs.2, fun c => absurd rfl c⟩
/-- an error of the class's reading: its code and place -/
def ErC (h : HD) (c p : Int) : Prop := gI h (4, 0, 0) 7 = iZ c ∧ gI h (4, 0, 0) 8 = iZ p
def sEr : Rf → Nat → Bool := fun r k => Nat.beq r.1 4 && (Nat.beq k 7 || Nat.beq k 8)
theorem TkC.er {h h2 : HD} {t : Tok} (hT : TkC h t) (hF : Fr sEr h h2) : TkC h2 t := ⟨(hF.1 _ _ rfl).trans hT.1, (hF.1 _ _ rfl).trans hT.2.1, (hF.1 _ _ rfl).trans hT.2.2.1, fun c => (hF.2.1 _ _ rfl).trans (hT.2.2.2.1 c), fun c => (hF.1 _ _ rfl).trans (hT.2.2.2.2.1 c), fun c => (hF.1 _ _ rfl).trans (hT.2.2.2.2.2 c)⟩
section
variable {h : HD} {t : Tok}
theorem x6_fail (hT : TkC h t) (c : Int) : ∃ g, jX6_fail (iZ c) h = some (false, g) ∧ Fr sEr h g ∧ ErC g c t.2.1 := by
  refine ⟨sI (sI h (4, 0, 0) 7 (iZ c)) (4, 0, 0) 8 (iZ t.2.1), ?_, (Fr.rf.sI rfl _).sI rfl _, ?_, gI_self _ _ _ _⟩
  · unfold jX6_fail
    rw [lt_eq, gI_nk _ _ _ (by decide), hT.2.1]
    rfl
  · rw [gI_nk _ _ _ (by decide), gI_self]
theorem x6_isWord_ (hT : TkC h t) (ht : TkOk t) {u : Nat × List Int32} {ks : List Nat} (hk : NmOk ks) (hu : u.2 = ks.map (fun (l : Nat) => iZ (96 + (l : Int)))) : jX6_isWord_ u h = some (decide (t.1 = 1 ∧ t.2.2.2.1 = ks)) := by
  have h4 := ht.2.2.2
  unfold jX6_isWord_
  rw [hT.1, i1]
  by_cases q : t.1 = 1
  · have hw := ht.1 q
    rw [if_pos (by rw [q]), x8_wordOf h hk.lt hk.2.1 hu, Option.bind_some, hT.2.2.2.1 q]
    have e1 := eC_le hw
    have e2 := eC_le hk
    by_cases r : t.2.2.2.1 = ks
    · rw [if_pos ((lg_eq0 _ _).mpr (by rw [r])), decide_eq_true ⟨q, r⟩]
    · have : ¬ lg_cmp (jZ (eC t.2.2.2.1)) (jZ (eC ks)) = 0 := fun c => by
        have := (lg_eq0 _ _).mp c
        rw [jZ_eq (by omega) (by omega) (by omega) (by omega)] at this
        exact r (eC_inj hw hk this)
      rw [if_neg this, decide_eq_false (fun c => r c.2)]
  · rw [if_neg (eq_n (b := 1) (by omega) (by omega) (by omega) (by omega) (by omega)), decide_eq_false (fun c => q c.1)]
end
