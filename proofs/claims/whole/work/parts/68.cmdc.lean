/-! a command of a script: the class -/
/-- ints, longs outside S and the kept row are as they were; the commands may have changed -/
def Fo (S : Rf → Nat → Bool) (h h2 : HD) : Prop := (∀ r k, S r k = false → gI h2 r k = gI h r k) ∧ (∀ r k, S r k = false → gJ h2 r k = gJ h r k) ∧ h2.2.2.1 = h.2.2.1
theorem Fo.of {S : Rf → Nat → Bool} {h h2 : HD} (a : Fr S h h2) : Fo S h h2 := ⟨a.1, a.2.1, congrArg Prod.fst a.2.2⟩
theorem Fo.tr {S : Rf → Nat → Bool} {h h2 h3 : HD} (a : Fo S h h2) (b : Fo S h2 h3) : Fo S h h3 := ⟨fun r k q => (b.1 r k q).trans (a.1 r k q), fun r k q => (b.2.1 r k q).trans (a.2.1 r k q), b.2.2.trans a.2.2⟩
theorem Fo.mono {S T : Rf → Nat → Bool} {h h2 : HD} (a : Fo S h h2) (hs : ∀ r k, T r k = false → S r k = false) : Fo T h h2 := ⟨fun r k q => a.1 r k (hs r k q), fun r k q => a.2.1 r k (hs r k q), a.2.2⟩
def sSc : Rf → Nat → Bool := fun r _ => Nat.beq r.1 4 || Nat.beq r.1 3
theorem sTE_Sc {h h2 : HD} (hF : Fr sTE h h2) : Fr sSc h h2 := hF.mono fun r k q => by
  unfold sSc at q
  exact (Bool.or_eq_false_iff.mp q).1
/-- behind a command's number: its mark, then it is added -/
def cMK (k : Nat) (mk : Int32) (nm : Int64) (v : Int32) (h : HD) : Option (Bool × HD) := (jX6_readMark mk h).bind fun q => (if q.1 = true then (jX5_add k nm v q.2).bind fun r => some (true, r) else some (false, q.2))
def cVL (k : Nat) (mk a b : Int32) (nm : Int64) (h : HD) : Option (Bool × HD) := (if (cmV k) = 0 then (if (cmV k) = 0 then cMK k mk nm (0 : Int32) h else cMK k mk nm (jX6_number h) h) else (jX6_readNumber a b h).bind fun q => (if q.1 = true then (if (cmV k) = 0 then cMK k mk nm (0 : Int32) q.2 else cMK k mk nm (jX6_number q.2) q.2) else some (false, q.2)))
def cNM (k : Nat) (mk a b : Int32) (h : HD) : Option (Bool × HD) := (if (cmN k) = 0 then (if (cmN k) = 0 then cVL k mk a b (0 : Int64) h else cVL k mk a b (jX6_word h) h) else (jX6_readName h).bind fun q => (if q.1 = true then (if (cmN k) = 0 then cVL k mk a b (0 : Int64) q.2 else cVL k mk a b (jX6_word q.2) q.2) else some (false, q.2)))
def cCM (k3 : Nat) (h : HD) : Option (Bool × HD) := if k3 < 9 then (if k3 = 8 then (if (gI h (3, 0, 0) 5) < (2 : Int32) then (if (gI h (3, 0, 0) 6) < (30 : Int32) then cNM k3 (40 : Int32) (1 : Int32) (20 : Int32) h else (jX6_fail (5 : Int32) h).bind fun q81 => some (q81.1, q81.2)) else (jX6_fail (3 : Int32) h).bind fun q82 => some (q82.1, q82.2)) else (if (gI h (3, 0, 0) 6) < (30 : Int32) then cNM k3 (59 : Int32) (0 : Int32) (999 : Int32) h else (jX6_fail (5 : Int32) h).bind fun q43 => some (q43.1, q43.2))) else none
theorem readCommand_eq (h : HD) : jX5_readCommand h = (if (jX6_isWord h) = true then (jX3_withWord (jX6_word h) h).bind fun q2 => oc (q2) ((jX6_fail (1 : Int32) h).bind fun q5 => some (q5.1, q5.2)) (fun k3 => cCM k3 h) else (jX6_fail (1 : Int32) h).bind fun q1 => some (q1.1, q1.2)) := rfl
section
variable {h : HD} {len : Int} {bs : Int → Int} {t : Tok}
theorem c_VL {op : Nat} {mk : Int32} {nm : Int64} (ho : op ≤ 8) (hC : CT h len bs t) : match vlP len bs op t with
    | .inl (c, p) => ∃ g, cVL (opC op) mk (iZ (if op = 8 then 1 else 0)) (iZ (if op = 8 then 20 else 999)) nm h = some (false, g) ∧ Fr sTE h g ∧ ErC g c p
    | .inr (v, t2) => ∃ g, cVL (opC op) mk (iZ (if op = 8 then 1 else 0)) (iZ (if op = 8 then 20 else 999)) nm h = cMK (opC op) mk nm (iZ v) g ∧ Fr sTE h g ∧ CT g len bs t2 ∧ gI g (4, 0, 0) 7 = gI h (4, 0, 0) 7 ∧ gI g (4, 0, 0) 8 = gI h (4, 0, 0) 8 := by
  obtain ⟨-, -, fv, -⟩ := opC_facts op (by omega)
  unfold cVL vlP
  obtain ⟨a, ha⟩ : ∃ a : Int, (if op = 8 then 1 else 0) = a := ⟨_, rfl⟩
  obtain ⟨b, hb⟩ : ∃ b : Int, (if op = 8 then 20 else 999) = b := ⟨_, rfl⟩
  have a1 : 0 ≤ a ∧ a ≤ 1000 := by rw [← ha]; split <;> decide
  have b1 : 0 ≤ b ∧ b ≤ 1000 := by rw [← hb]; split <;> decide
  rw [ha, hb]
  by_cases q : hasV op = true
  · have q2 : ¬ cmV (opC op) = 0 := fun c => fv.mp c q
    rw [if_pos q]
    have num := c_number hC (a := a) (b := b) a1.1 a1.2 b1.1 b1.2
    unfold numP
    by_cases q1 : (nx len bs t).1 = 2 ∧ a ≤ (nx len bs t).2.2.2.2 ∧ (nx len bs t).2.2.2.2 ≤ b
    · obtain ⟨g1, e1, f1, k1, v5, a7, a8⟩ := num.1 q1
      rw [if_pos q1]
      refine ⟨g1, ?_, f1, k1, a7, a8⟩
      rw [if_neg q2, e1, Option.bind_some, if_pos rfl, if_neg q2]
      unfold jX6_number
      rw [v5]
    · obtain ⟨g1, e1, f1, k1⟩ := num.2 q1
      rw [if_neg q1]
      exact ⟨g1, by rw [if_neg q2, e1, Option.bind_some, if_neg Bool.false_ne_true], f1, k1⟩
  · have q2 := fv.mpr q
    rw [if_neg q]
    refine ⟨h, ?_, Fr.rf, hC, rfl, rfl⟩
    rw [if_pos q2, if_pos q2]
    rfl
theorem c_NM {op : Nat} {mk : Int32} (ho : op ≤ 8) (hC : CT h len bs t) (hT : TG len t) : match arP len bs op t with
    | .inl (c, p) => ∃ g, cNM (opC op) mk (iZ (if op = 8 then 1 else 0)) (iZ (if op = 8 then 20 else 999)) h = some (false, g) ∧ Fr sTE h g ∧ ErC g c p
    | .inr (c, t2) => ∃ g, cNM (opC op) mk (iZ (if op = 8 then 1 else 0)) (iZ (if op = 8 then 20 else 999)) h = cMK (opC op) mk (jZ (eC c.2.1)) (iZ c.2.2) g ∧ Fr sTE h g ∧ CT g len bs t2 ∧ gI g (4, 0, 0) 7 = gI h (4, 0, 0) 7 ∧ gI g (4, 0, 0) 8 = gI h (4, 0, 0) 8 := by
  obtain ⟨-, fn, -, -⟩ := opC_facts op (by omega)
  have tail : ∀ (g : HD) (t1 : Tok) (k : List Nat), CT g len bs t1 → Fr sTE h g → gI g (4, 0, 0) 7 = gI h (4, 0, 0) 7 → gI g (4, 0, 0) 8 = gI h (4, 0, 0) 8 → (match (match vlP len bs op t1 with | .inl e => .inl e | .inr (v, t2) => .inr ((op, k, v), t2) : Rd (Cm × Tok)) with
    | .inl (c, p) => ∃ g2, cVL (opC op) mk (iZ (if op = 8 then 1 else 0)) (iZ (if op = 8 then 20 else 999)) (jZ (eC k)) g = some (false, g2) ∧ Fr sTE h g2 ∧ ErC g2 c p
    | .inr (c, t2) => ∃ g2, cVL (opC op) mk (iZ (if op = 8 then 1 else 0)) (iZ (if op = 8 then 20 else 999)) (jZ (eC k)) g = cMK (opC op) mk (jZ (eC c.2.1)) (iZ c.2.2) g2 ∧ Fr sTE h g2 ∧ CT g2 len bs t2 ∧ gI g2 (4, 0, 0) 7 = gI h (4, 0, 0) 7 ∧ gI g2 (4, 0, 0) 8 = gI h (4, 0, 0) 8) := by
    intro g t1 k k1 f1 a7 a8
    have vp := c_VL (mk := mk) (nm := jZ (eC k)) ho k1
    cases hv : vlP len bs op t1 with
    | inl er =>
      rw [hv] at vp
      obtain ⟨c, p⟩ := er
      obtain ⟨g2, e2, f2, r2⟩ := vp
      exact ⟨g2, e2, f1.tr f2, r2⟩
    | inr vt =>
      rw [hv] at vp
      obtain ⟨v, t2⟩ := vt
      obtain ⟨g2, e2, f2, k2, b7, b8⟩ := vp
      exact ⟨g2, e2, f1.tr f2, k2, b7.trans a7, b8.trans a8⟩
  unfold cNM arP nmP
  by_cases q : op ≤ 3
  · have q2 : ¬ cmN (opC op) = 0 := fun c => fn.mp c q
    rw [if_pos q, if_neg q2]
    have nm := c_name hC
    by_cases q1 : (nx len bs t).1 = 1
    · obtain ⟨g1, e1, f1, k1, a7, a8⟩ := nm.1 q1
      have ew : jX6_word g1 = jZ (eC (nx len bs t).2.2.2.1) := k1.2.2.1.2.2.2.1 q1
      rw [if_pos q1, e1, Option.bind_some, if_pos rfl, if_neg q2, ew]
      exact tail _ _ _ k1 f1 a7 a8
    · obtain ⟨g1, e1, f1, k1⟩ := nm.2 q1
      rw [if_neg q1, e1, Option.bind_some, if_neg Bool.false_ne_true]
      exact ⟨g1, rfl, f1, k1⟩
  · have q2 := fn.mpr q
    have e0 : jZ (eC []) = (0 : Int64) := by rw [eC_nil]; rfl
    rw [if_neg q, if_pos q2, if_pos q2]
    have := tail h t [] hC Fr.rf rfl rfl
    rw [e0] at this
    exact this
end
/-! the script as the class holds it -/
def CellC (h : HD) (i : Int) (c : Cm) (bh : Int) : Prop := gO h i.toNat = some (opC c.1) ∧ gJ h (3, 0, 2) i.toNat = jZ (eC c.2.1) ∧ gI h (3, 0, 3) i.toNat = iZ c.2.2 ∧ gI h (3, 0, 4) i.toNat = iZ bh ∧ CmOk c
def AlwT : Int → Prop := fun _ => True
def CZ (h : HD) (z : Zp) : Prop := gI h (3, 0, 0) 6 = iZ (szZ 1 z) ∧ gI h (3, 0, 0) 5 = iZ (dpZ z) ∧ szZ 1 z ≤ 30 ∧ AtZ (CellC h) AlwT 1 z ∧ (1 ≤ dpZ z → gI h (3, 0, 5) 0 = iZ (sz2 1 z.1)) ∧ (dpZ z = 2 → gI h (3, 0, 5) 1 = iZ (opZ 1 z))
theorem CellC.keep {h h2 : HD} {i : Int} {c : Cm} {bh : Int} (hc : CellC h i c bh) (eo : gO h2 i.toNat = gO h i.toNat) (e2 : gJ h2 (3, 0, 2) i.toNat = gJ h (3, 0, 2) i.toNat) (e3 : gI h2 (3, 0, 3) i.toNat = gI h (3, 0, 3) i.toNat) (e4 : gI h2 (3, 0, 4) i.toNat = gI h (3, 0, 4) i.toNat) : CellC h2 i c bh := ⟨eo.trans hc.1, e2.trans hc.2.1, e3.trans hc.2.2.1, e4.trans hc.2.2.2.1, hc.2.2.2.2⟩
/-- the heap when command i was added, ahead of the count -/
def ncH (h : HD) (i k : Nat) (nm : Int64) (v : Int32) : HD := sI (sI (sJ (sO h i (some k)) (3, 0, 2) i nm) (3, 0, 3) i v) (3, 0, 4) i (iZ ((i : Int) + 1))
section
variable {h : HD} {len : Int} {bs : Int → Int} {t : Tok} {z : Zp}
theorem nc_I {i k j : Nat} {nm : Int64} {v : Int32} {r : Rf} (h3 : r ≠ (3, 0, 3)) (h4 : r ≠ (3, 0, 4)) : gI (ncH h i k nm v) r j = gI h r j := by
  unfold ncH
  rw [gI_ne _ h4, gI_ne _ h3, gI_sJ, gI_sO]
theorem x5_add {i : Nat} (hi : i < 30) (h6 : gI h (3, 0, 0) 6 = iZ i) (k : Nat) (nm : Int64) (v : Int32) : jX5_add k nm v h = (if k = 8 then (jX5_openRepeat (iZ i) (ncH h i k nm v)).bind fun q10 => some (sI q10 (3, 0, 0) 6 (gI q10 (3, 0, 0) 6 + iZ 1)) else some (sI (ncH h i k nm v) (3, 0, 0) 6 (iZ ((i : Int) + 1)))) := by
  have e6 : gI (ncH h i k nm v) (3, 0, 0) 6 = iZ i := (nc_I (by decide) (by decide)).trans h6
  unfold jX5_add
  rw [h6, i0, if_neg (lt_n (by omega) (by omega) (by omega)), i30, if_pos (lt_y (by omega) (by omega) (by omega)), inB_t (by omega) (by omega) (by omega), if_pos rfl, iZ_nat (by omega) (by omega), Int.toNat_natCast, lt_eq, gI_sO, h6, inB_t (by omega) (by omega) (by omega), if_pos rfl, iZ_nat (by omega) (by omega), Int.toNat_natCast, lt_eq, gI_sJ, gI_sO, h6, inB_t (by omega) (by omega) (by omega), if_pos rfl, iZ_nat (by omega) (by omega), Int.toNat_natCast, lt_eq, gI_ne _ (by decide), gI_sJ, gI_sO, h6, inB_t (by omega) (by omega) (by omega), if_pos rfl, iZ_nat (by omega) (by omega), Int.toNat_natCast, i1, iZ_add, lt_eq]
  show (if k = 8 then (jX5_openRepeat (gI (ncH h i k nm v) (3, 0, 0) 6) (ncH h i k nm v)).bind (fun q10 => lt (sI q10 (3, 0, 0) 6 (gI q10 (3, 0, 0) 6 + iZ 1)) fun h11 => some h11) else lt (sI (ncH h i k nm v) (3, 0, 0) 6 (gI (ncH h i k nm v) (3, 0, 0) 6 + iZ 1)) fun h9 => some h9) = _
  rw [e6, lt_eq, iZ_add]
  rfl
theorem nc_Fo (i k : Nat) (nm : Int64) (v : Int32) : Fo sSc h (ncH h i k nm v) := by
  unfold ncH
  have f2 : Fo sSc h (sO h i (some k)) := ⟨fun _ _ _ => rfl, fun _ _ _ => rfl, rfl⟩
  exact f2.tr (Fo.of (((Fr.rf.sJ rfl _).sI rfl _).sI rfl _))
theorem nc_CT (hC : CT h len bs t) (i k : Nat) (nm : Int64) (v : Int32) : CT (ncH h i k nm v) len bs t := by
  have c2 : CT (sO h i (some k)) len bs t := hC
  unfold ncH
  exact c2.fr (S := fun r _ => Nat.beq r.1 3) (((Fr.rf.sJ rfl _).sI rfl _).sI rfl _) rfl (fun _ => rfl) (fun _ _ => rfl)
/-- a command's cells when it was added -/
theorem nc_cells {i : Nat} {c : Cm} (hZ : CZ h z) (hi : szZ 1 z = i) (hc : CmOk c) : CellC (ncH h i (opC c.1) (jZ (eC c.2.1)) (iZ c.2.2)) i c ((i : Int) + 1) ∧ (∀ j d bh, 0 ≤ j → j < szZ 1 z → CellC h j d bh → CellC (ncH h i (opC c.1) (jZ (eC c.2.1)) (iZ c.2.2)) j d bh) := by
  refine ⟨⟨?_, ?_, ?_, ?_, hc⟩, fun j d bh j0 j1 hd => ?_⟩
  · rw [Int.toNat_natCast]
    show (if i = i then some (opC c.1) else _) = _
    rw [if_pos rfl]
  · rw [Int.toNat_natCast]
    unfold ncH
    rw [gJ_sI, gJ_sI, gJ_sJ, if_pos ⟨rfl, rfl⟩]
  · rw [Int.toNat_natCast]
    unfold ncH
    rw [gI_ne _ (by decide), gI_self]
  · rw [Int.toNat_natCast]
    unfold ncH
    rw [gI_self]
  · have hj : j.toNat ≠ i := by omega
    refine hd.keep ?_ ?_ ?_ ?_
    · show (if j.toNat = i then some (opC c.1) else gO h j.toNat) = _
      rw [if_neg hj]
    · unfold ncH
      rw [gJ_sI, gJ_sI, gJ_sJ, if_neg (fun e => hj e.2)]
      rfl
    · unfold ncH
      rw [gI_ne _ (by decide), gI_nk _ _ _ hj]
      rfl
    · unfold ncH
      rw [gI_nk _ _ _ hj, gI_ne _ (by decide), gI_sJ, gI_sO]
theorem CZ.fr {g : HD} (hZ : CZ h z) (hF : Fr sTE h g) : CZ g z := by
  obtain ⟨z1, z2, z3, z4, z5, z6⟩ := hZ
  refine ⟨(hF.1 _ _ rfl).trans z1, (hF.1 _ _ rfl).trans z2, z3, AtZ_mono (by decide) (fun j c bh j0 j1 hc => hc.keep (hF.oO _) (hF.2.1 _ _ rfl) (hF.1 _ _ rfl) (hF.1 _ _ rfl)) (Or.inr (fun _ => trivial)) (fun _ _ _ _ => trivial) z4, fun c => (hF.1 _ _ rfl).trans (z5 c), fun c => (hF.1 _ _ rfl).trans (z6 c)⟩
theorem CZ_add {g : HD} {c : Cm} {i : Nat} (hZ : CZ h z) (hi : szZ 1 z = i) (h30 : i < 30) (h8 : c.1 < 8) (c1 : CellC g i c ((i : Int) + 1)) (c2 : ∀ j d bh, 0 ≤ j → j < szZ 1 z → CellC h j d bh → CellC g j d bh) (c3 : gI g (3, 0, 0) 6 = iZ ((i : Int) + 1)) (c4 : gI g (3, 0, 0) 5 = iZ (dpZ z)) (c5 : ∀ k, gI g (3, 0, 5) k = gI h (3, 0, 5) k) : CZ g (addZ c z) := by
  obtain ⟨z1, z2, z3, z4, z5, z6⟩ := hZ
  obtain ⟨s1', s2', s3'⟩ := addZ_sz (e := 1) (z := z) c
  refine ⟨by rw [s1', hi]; exact c3, by rw [s2']; exact c4, by omega, AtZ_add (AtZ_mono (by decide) c2 (Or.inr (fun _ => trivial)) (fun _ _ _ _ => trivial) z4) (by rw [hi]; exact c1) h8, fun d => ?_, fun d => ?_⟩
  · rw [s2'] at d
    rw [c5, z5 d]
    rcases Zp_cases z with ⟨a, rfl⟩ | ⟨a, n, b, rfl⟩ | ⟨a, n, b, m, e, rfl⟩
    · exact absurd (show (1 : Int) ≤ 0 from d) (by decide)
    · rfl
    · rfl
  · rw [s2'] at d
    rw [c5, z6 d, s3', if_neg (by omega)]
theorem CZ_opn {g : HD} {n : Int} {i : Nat} (hZ : CZ h z) (hi : szZ 1 z = i) (h30 : i < 30) (hd : dpZ z < 2) (n1 : 1 ≤ n) (n2 : n ≤ 20) (c1 : CellC g i (8, [], n) ((i : Int) + 1)) (c2 : ∀ j d bh, 0 ≤ j → j < szZ 1 z → CellC h j d bh → CellC g j d bh) (c3 : gI g (3, 0, 0) 6 = iZ i) (c4 : gI g (3, 0, 0) 5 = iZ (dpZ z)) (c5 : ∀ k, gI g (3, 0, 5) k = gI h (3, 0, 5) k) : ∃ g2, ((jX5_openRepeat (iZ i) g).bind fun q10 => some (sI q10 (3, 0, 0) 6 (gI q10 (3, 0, 0) 6 + iZ 1))) = some g2 ∧ Fr (fun r _ => Nat.beq r.1 3) g g2 ∧ CZ g2 (opnZ n z) := by
  obtain ⟨z1, z2, z3, z4, z5, z6⟩ := hZ
  obtain ⟨s1', s2', s3'⟩ := opnZ_sz (e := 1) (z := z) n hd
  have d0 := (szZ_nn (e := 1) (z := z) (by decide)).2.1
  have F : Fr (fun r _ => decide (r = (3, 0, 5) ∨ r = (3, 0, 0))) g (sI (sI (sI g (3, 0, 5) (dpZ z).toNat (iZ i)) (3, 0, 0) 5 (iZ (dpZ z + 1))) (3, 0, 0) 6 (iZ ((i : Int) + 1))) := ((Fr.rf.sI rfl _).sI rfl _).sI rfl _
  have cc : ∀ {j d bh}, CellC g j d bh → CellC (sI (sI (sI g (3, 0, 5) (dpZ z).toNat (iZ i)) (3, 0, 0) 5 (iZ (dpZ z + 1))) (3, 0, 0) 6 (iZ ((i : Int) + 1))) j d bh := fun hc => hc.keep (F.oO _) (F.2.1 _ _ rfl) (F.1 _ _ rfl) (F.1 _ _ rfl)
  refine ⟨sI (sI (sI g (3, 0, 5) (dpZ z).toNat (iZ i)) (3, 0, 0) 5 (iZ (dpZ z + 1))) (3, 0, 0) 6 (iZ ((i : Int) + 1)), ?_, ((Fr.rf.sI rfl _).sI rfl _).sI rfl _, ?_, ?_, by omega, AtZ_opn hd (AtZ_mono (by decide) (fun j d bh j0 j1 hc => cc (c2 j d bh j0 j1 hc)) (Or.inr (fun _ => trivial)) (fun _ _ _ _ => trivial) z4) ⟨⟨_, by rw [hi]; exact cc c1⟩, n1, n2⟩, fun d => ?_, fun d => ?_⟩
  · unfold jX5_openRepeat
    rw [c4, i0, i2, if_neg (lt_n (by omega) (by omega) (by omega)), if_neg (le_n (by omega) (by omega) (by omega)), inB_t (by omega) (by omega) (by omega), if_pos rfl, lt_eq, iZ_nat (by omega) (by omega), gI_ne _ (by decide), c4, i1, iZ_add, lt_eq, Option.bind_some, gI_nk _ _ _ (by decide), gI_ne _ (by decide), c3, iZ_add]
  · rw [gI_self, s1', hi]
  · rw [gI_nk _ _ _ (by decide), gI_self, s2']
  · rw [gI_ne _ (by decide), gI_ne _ (by decide), gI_sI]
    rcases Zp_cases z with ⟨a, rfl⟩ | ⟨a, m, b, rfl⟩ | ⟨a, m, b, m2, e, rfl⟩
    · have e0 : dpZ ((a, none) : Zp) = 0 := rfl
      rw [e0, if_pos ⟨rfl, rfl⟩]
      have : szZ 1 ((a, none) : Zp) = sz2 1 a := rfl
      rw [← hi, this]
      rfl
    · have e0 : dpZ ((a, some (m, b, none)) : Zp) = 1 := rfl
      rw [e0, if_neg (fun c => absurd c.2 (by decide)), c5, z5 (by rw [e0]; decide)]
      rfl
    · exact absurd (show (2 : Int) < 2 from hd) (by decide)
  · rw [gI_ne _ (by decide), gI_ne _ (by decide), gI_sI]
    have e1 : dpZ z = 1 := by omega
    rw [e1, if_pos ⟨rfl, rfl⟩, s3', hi]
/-- a command that the class reads; t stands at its word -/
theorem c_cmd (hC : CT h len bs t) (hT : TG len t) (hZ : CZ h z) : match cmP len bs z t with
    | .inl (c, p) => ∃ g, jX5_readCommand h = some (false, g) ∧ Fo sSc h g ∧ ErC g c p
    | .inr (z2, t2) => ∃ g t1, jX5_readCommand h = some (true, g) ∧ Fo sSc h g ∧ CT g len bs t1 ∧ TG len t1 ∧ nx len bs t1 = t2 ∧ t.2.1 + 1 ≤ t1.2.2.1 ∧ CZ g z2 ∧ gI g (4, 0, 0) 7 = gI h (4, 0, 0) 7 ∧ gI g (4, 0, 0) 8 = gI h (4, 0, 0) 8 := by
  have fail : ∀ c : Int, ∃ g, ((jX6_fail (iZ c) h).bind fun q => some (q.1, q.2)) = some (false, g) ∧ Fo sSc h g ∧ ErC g c t.2.1 := fun c => by
    obtain ⟨g, e, f, r⟩ := x6_fail hC.2.2.1 c
    exact ⟨g, by rw [e]; rfl, Fo.of (sTE_Sc (sEr_TE f)), r⟩
  have hk := hT.1
  have h4 := hk.2.2.2
  rw [readCommand_eq]
  unfold jX6_isWord cmP cmdOf
  rw [hC.2.2.1.1, i1]
  by_cases q : t.1 = 1
  · have hw := hk.1 q
    have ew : jX6_word h = jZ (eC t.2.2.2.1) := hC.2.2.1.2.2.2.1 q
    rw [if_pos (show iZ t.1 = iZ 1 by rw [q]), if_pos rfl, if_pos q, ew, x3_withWord h hw, Option.bind_some]
    cases ho : opW t.2.2.2.1 with
    | none => exact fail 1
    | some op =>
      have h8 := opW_in ho
      obtain ⟨f9, -, -, fe⟩ := opC_facts op (by omega)
      obtain ⟨nn, d0, d2, -⟩ := szZ_nn (e := 1) (z := z) (by decide)
      obtain ⟨z1, z2', z3, -⟩ := id hZ
      show match (if op = 8 ∧ dpZ z = 2 then .inl (3, t.2.1) else if 30 ≤ szZ 1 z then .inl (5, t.2.1) else match arP len bs op t with | .inl e => .inl e | .inr (c, t1) => match mkP (nx len bs t1) (if op = 8 then 40 else 59) with | .inl e => .inl e | .inr _ => .inr (if op = 8 then opnZ c.2.2 z else addZ c z, nx len bs (nx len bs t1)) : Rd (Zp × Tok)) with
        | .inl (c, p) => ∃ g, cCM (opC op) h = some (false, g) ∧ Fo sSc h g ∧ ErC g c p
        | .inr (z2, t2) => ∃ g t1, cCM (opC op) h = some (true, g) ∧ Fo sSc h g ∧ CT g len bs t1 ∧ TG len t1 ∧ nx len bs t1 = t2 ∧ t.2.1 + 1 ≤ t1.2.2.1 ∧ CZ g z2 ∧ gI g (4, 0, 0) 7 = gI h (4, 0, 0) 7 ∧ gI g (4, 0, 0) 8 = gI h (4, 0, 0) 8
      by_cases q3 : op = 8 ∧ dpZ z = 2
      · rw [if_pos q3]
        unfold cCM
        rw [if_pos f9, z2', z1, i2, i30, if_pos (fe.mpr q3.1), if_neg (lt_n (by omega) (by omega) (by omega))]
        exact fail 3
      · rw [if_neg q3]
        by_cases q5 : 30 ≤ szZ 1 z
        · rw [if_pos q5]
          unfold cCM
          rw [if_pos f9, z2', z1, i2, i30]
          by_cases q8 : op = 8
          · rw [if_pos (fe.mpr q8), if_pos (lt_y (by omega) (by omega) (by omega)), if_neg (lt_n (by omega) (by omega) (by omega))]
            exact fail 5
          · rw [if_neg (fun c => q8 (fe.mp c)), if_neg (lt_n (by omega) (by omega) (by omega))]
            exact fail 5
        · rw [if_neg q5]
          obtain ⟨i, hi⟩ : ∃ i : Nat, szZ 1 z = i := ⟨(szZ 1 z).toNat, by omega⟩
          have i30' : i < 30 := by omega
          have hcn : cCM (opC op) h = cNM (opC op) (iZ (if op = 8 then 40 else 59)) (iZ (if op = 8 then 1 else 0)) (iZ (if op = 8 then 20 else 999)) h := by
            unfold cCM
            rw [if_pos f9, z2', z1, i2, i30]
            by_cases q8 : op = 8
            · rw [if_pos (fe.mpr q8), if_pos (lt_y (by omega) (by omega) (by omega)), if_pos (lt_y (by omega) (by omega) (by omega)), if_pos q8, if_pos q8, if_pos q8]
              rfl
            · rw [if_neg (fun c => q8 (fe.mp c)), if_pos (lt_y (by omega) (by omega) (by omega)), if_neg q8, if_neg q8, if_neg q8]
              rfl
          rw [hcn]
          obtain ⟨M, hM⟩ : ∃ M : Int, (if op = 8 then 40 else 59) = M := ⟨_, rfl⟩
          have M1 : 0 ≤ M ∧ M ≤ 1000 := by rw [← hM]; split <;> decide
          rw [hM]
          have cp := c_NM (mk := iZ M) h8 hC hT
          cases ha : arP len bs op t with
          | inl er =>
            rw [ha] at cp
            obtain ⟨c, p⟩ := er
            obtain ⟨g, e, f, r⟩ := cp
            exact ⟨g, e, Fo.of (sTE_Sc f), r⟩
          | inr ct =>
            rw [ha] at cp
            obtain ⟨c, t1⟩ := ct
            obtain ⟨g, e, f, k, a7, a8⟩ := cp
            obtain ⟨okc, oc1, oc8, T1, le1⟩ := arP_ok h8 hT ha
            have T2 := T1.nx (bs := bs)
            have := hT.2.2.2.2 (by omega)
            have := T2.1.2.2.1
            show match (match mkP (nx len bs t1) M with | .inl e => .inl e | .inr _ => .inr (if op = 8 then opnZ c.2.2 z else addZ c z, nx len bs (nx len bs t1)) : Rd (Zp × Tok)) with | .inl (c, p) => _ | .inr (z2, t2) => _
            unfold mkP
            have mk := c_mark k (c := M) M1.1 M1.2
            by_cases q4 : isMk (nx len bs t1) M
            · obtain ⟨g2, e2, f2, k2, b7, b8⟩ := mk.1 q4
              rw [if_pos q4]
              have F2 : Fr sTE h g2 := f.tr f2
              have Z2 := hZ.fr F2
              have h6 : gI g2 (3, 0, 0) 6 = iZ i := by rw [Z2.1, hi]
              obtain ⟨w1, w2⟩ := nc_cells Z2 hi okc
              rw [oc1] at w1 w2
              have k3 := nc_CT k2 i (opC op) (jZ (eC c.2.1)) (iZ c.2.2)
              have F3 := (Fo.of (sTE_Sc F2)).tr (nc_Fo (h := g2) i (opC op) (jZ (eC c.2.1)) (iZ c.2.2))
              have w3 : gI (ncH g2 i (opC op) (jZ (eC c.2.1)) (iZ c.2.2)) (3, 0, 0) 6 = iZ i := (nc_I (by decide) (by decide)).trans h6
              have w4 : gI (ncH g2 i (opC op) (jZ (eC c.2.1)) (iZ c.2.2)) (3, 0, 0) 5 = iZ (dpZ z) := (nc_I (by decide) (by decide)).trans Z2.2.1
              have w5 : ∀ j, gI (ncH g2 i (opC op) (jZ (eC c.2.1)) (iZ c.2.2)) (3, 0, 5) j = gI g2 (3, 0, 5) j := fun j => nc_I (by decide) (by decide)
              have w47 : ∀ j, gI (ncH g2 i (opC op) (jZ (eC c.2.1)) (iZ c.2.2)) (4, 0, 0) j = gI g2 (4, 0, 0) j := fun j => nc_I (by decide) (by decide)
              by_cases q8 : op = 8
              · have hc8 : c = (8, [], c.2.2) := by
                  obtain ⟨c1, c2, c3⟩ := c
                  have x1 : c1 = 8 := oc1.trans q8
                  have x2 : c2 = [] := (oc8 q8).1
                  rw [x1, x2]
                have w1' : CellC (ncH g2 i (opC op) (jZ (eC c.2.1)) (iZ c.2.2)) i (8, [], c.2.2) ((i : Int) + 1) := hc8 ▸ w1
                obtain ⟨g3, e3, f3, Z3⟩ := CZ_opn Z2 hi i30' (by omega) (oc8 q8).2.1 (oc8 q8).2.2 w1' w2 w3 w4 w5
                rw [if_pos q8]
                refine ⟨g3, nx len bs t1, ?_, F3.tr (Fo.of (f3.mono fun r k q => by unfold sSc at q; exact (Bool.or_eq_false_iff.mp q).2)), k3.fr f3 rfl (fun _ => rfl) (fun _ _ => rfl), T2.1, rfl, by omega, Z3, ?_, ?_⟩
                · rw [e]
                  unfold cMK
                  rw [e2, Option.bind_some, if_pos rfl, x5_add i30' h6, if_pos (fe.mpr q8), e3, Option.bind_some]
                · rw [f3.1 _ _ rfl, w47, b7, a7]
                · rw [f3.1 _ _ rfl, w47, b8, a8]
              · have cl : ∀ {j d bh}, CellC (ncH g2 i (opC op) (jZ (eC c.2.1)) (iZ c.2.2)) j d bh → CellC (sI (ncH g2 i (opC op) (jZ (eC c.2.1)) (iZ c.2.2)) (3, 0, 0) 6 (iZ ((i : Int) + 1))) j d bh := fun hc => hc.keep (gO_sI _ _ _ _ _) (gJ_sI _ _ _ _ _ _) (gI_ne _ (by decide) _ _ _) (gI_ne _ (by decide) _ _ _)
                rw [if_neg q8]
                refine ⟨sI (ncH g2 i (opC op) (jZ (eC c.2.1)) (iZ c.2.2)) (3, 0, 0) 6 (iZ ((i : Int) + 1)), nx len bs t1, ?_, F3.tr (Fo.of (Fr.rf.sI rfl _)), k3.fr (S := fun r _ => Nat.beq r.1 3) (Fr.rf.sI rfl _) rfl (fun _ => rfl) (fun _ _ => rfl), T2.1, rfl, by omega, CZ_add Z2 hi i30' (by omega) (cl w1) (fun j d bh j0 j1 hc => cl (w2 j d bh j0 j1 hc)) (gI_self _ _ _ _) ((gI_nk _ _ _ (by decide) _).trans w4) (fun j => (gI_ne _ (by decide) _ _ _).trans (w5 j)), ?_, ?_⟩
                · rw [e]
                  unfold cMK
                  rw [e2, Option.bind_some, if_pos rfl, x5_add i30' h6, if_neg (fun d => q8 (fe.mp d)), Option.bind_some]
                · rw [gI_ne _ (by decide), w47, b7, a7]
                · rw [gI_ne _ (by decide), w47, b8, a8]
            · obtain ⟨g2, e2, f2, r2⟩ := mk.2 q4
              rw [if_neg q4]
              refine ⟨g2, ?_, Fo.of (sTE_Sc (f.tr f2)), r2⟩
              rw [e]
              unfold cMK
              rw [e2, Option.bind_some, if_neg Bool.false_ne_true]
  · rw [if_neg (show ¬ iZ t.1 = iZ 1 from eq_n (by omega) (by omega) (by omega) (by omega) (by omega)), if_neg Bool.false_ne_true, if_neg q]
    exact fail 1
end
