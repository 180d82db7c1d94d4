/-! THE BUFFER: bytes put behind, cut off; the name in it -/
def BfC (o : Nat) (h : HD) (len : Int) (bs : Int → Int) : Prop := 0 ≤ len ∧ gI h (0, o, 0) 1 = iZ len ∧ ∀ z : Int, 0 ≤ z → z < len → (0 ≤ bs z ∧ bs z < 256) ∧ gI h (0, o, 1) z.toNat = iZ (sby (bs z))
def BfM (r : Rf) (k : Nat) (h : HD) (len : Int) (bs : Int → Int) : Prop := 0 ≤ len ∧ gI h (7, 0, 0) k = iZ len ∧ ∀ z : Int, 0 ≤ z → z < len → gI h r z.toNat = iZ (bs z)
/-- a byte behind the others -/
def pu (bs : Int → Int) (len b : Int) : Int → Int := fun z => if z = len then b else bs z
def sBf (o : Nat) : Rf → Nat → Bool := fun r _ => Nat.beq r.1 0 && Nat.beq r.2.1 o
theorem sBf_t (o j k : Nat) : sBf o (0, o, j) k = true := by unfold sBf; simp
theorem x1_add {o : Nat} {h : HD} {len : Int} {bs : Int → Int} (y : Int32) (hB : BfC o h len bs) (hl : len < bN o) : ∃ h2, jX1_add o y h = some h2 ∧ Fr (sBf o) h h2 ∧ BfC o h2 (len + 1) (pu bs len (byt y)) := by
  obtain ⟨l0, b1, b2⟩ := hB
  have hb : bN o ≤ 400 := by unfold bN; cases Nat.beq o 0 <;> decide
  have nj : ∀ i j : Nat, i ≠ j → ((0, o, i) : Rf) ≠ (0, o, j) := fun i j hij e => hij (congrArg (fun x : Rf => x.2.2) e)
  refine ⟨sI (sI h (0, o, 1) len.toNat (iZ (sby (byt y)))) (0, o, 0) 1 (iZ (len + 1)), ?_, (Fr.rf.sI (sBf_t o 1 _) _).sI (sBf_t o 0 _) _, by omega, gI_self _ _ _ _, fun z z0 z1 => ?_⟩
  · unfold jX1_add
    rw [b1, iZ_ofNat, if_neg (le_n (by omega) (by omega) (by omega)), inB_t (by omega) (by omega) (by omega), if_pos rfl, iZ_nat (by omega) (by omega), lt_eq, lt_eq, gI_ne _ (nj 0 1 (by decide)), b1, i1, iZ_add, pk_vb, byt_s]
  · unfold pu
    rw [gI_ne _ (nj 1 0 (by decide)), gI_sI]
    by_cases e : z = len
    · rw [if_pos e, if_pos ⟨rfl, by rw [e]⟩]
      exact ⟨byt_in y, rfl⟩
    · rw [if_neg e, if_neg (fun q => e (by omega))]
      exact b2 z z0 (by omega)
/-- the four bytes of an int -/
def qb (y : Int32) (s : Int) : Int := byt (y >>> (iZ s &&& 31))
def pu4 (bs : Int → Int) (len : Int) (y : Int32) : Int → Int := pu (pu (pu (pu bs len (qb y 24)) (len + 1) (qb y 16)) (len + 1 + 1) (qb y 8)) (len + 1 + 1 + 1) (qb y 0)
theorem x1_four {h : HD} {len : Int} {bs : Int → Int} (y : Int32) (hB : BfC 0 h len bs) (hl : len + 4 ≤ 400) : ∃ h2, jX1_addFour 0 y h = some h2 ∧ Fr (sBf 0) h h2 ∧ BfC 0 h2 (len + 4) (pu4 bs len y) := by
  have e400 : ((bN 0 : Nat) : Int) = 400 := rfl
  obtain ⟨h1, e1, f1, c1⟩ := x1_add (y >>> (iZ 24 &&& 31)) hB (by omega)
  obtain ⟨h2, e2, f2, c2⟩ := x1_add (y >>> (iZ 16 &&& 31)) c1 (by omega)
  obtain ⟨h3, e3, f3, c3⟩ := x1_add (y >>> (iZ 8 &&& 31)) c2 (by omega)
  obtain ⟨h4, e4, f4, c4⟩ := x1_add (y >>> (iZ 0 &&& 31)) c3 (by omega)
  refine ⟨h4, ?_, ((f1.tr f2).tr f3).tr f4, by rw [show len + 4 = len + 1 + 1 + 1 + 1 by omega]; exact c4⟩
  have key : ∀ f : Nat, jX1_addFour_L3 0 y (f + 1 + 1 + 1 + 1 + 1) (iZ 24) h = some h4 := fun f => by
    rw [jX1_addFour_L3, i0, if_neg (lt_n (by omega) (by omega) (by omega)), e1, Option.bind_some, im8, iZ_add, show (24 : Int) + -8 = 16 from rfl, jX1_addFour_L3, i0, if_neg (lt_n (by omega) (by omega) (by omega)), e2, Option.bind_some, im8, iZ_add, show (16 : Int) + -8 = 8 from rfl, jX1_addFour_L3, i0, if_neg (lt_n (by omega) (by omega) (by omega)), e3, Option.bind_some, im8, iZ_add, show (8 : Int) + -8 = 0 from rfl, jX1_addFour_L3, i0, if_neg (lt_n (by omega) (by omega) (by omega)), e4, Option.bind_some, im8, iZ_add, show (0 : Int) + -8 = -8 from rfl, jX1_addFour_L3, i0, if_pos (lt_y (by omega) (by omega) (by omega))]
  unfold jX1_addFour
  rw [i24]
  exact key 999995
def sBm (r : Rf) (k : Nat) : Rf → Nat → Bool := fun q j => decide (q = r) || (decide (q = (7, 0, 0)) && Nat.beq j k)
theorem sBm_r (r : Rf) (k j : Nat) : sBm r k r j = true := by unfold sBm; simp
theorem sBm_k (r : Rf) (k : Nat) : sBm r k (7, 0, 0) k = true := by unfold sBm; simp
theorem BfM.put {r : Rf} {k : Nat} {h : HD} {len b : Int} {bs : Int → Int} (hr : r ≠ (7, 0, 0)) (hB : BfM r k h len bs) : Fr (sBm r k) h (sI (sI h r len.toNat (iZ b)) (7, 0, 0) k (iZ (len + 1))) ∧ BfM r k (sI (sI h r len.toNat (iZ b)) (7, 0, 0) k (iZ (len + 1))) (len + 1) (pu bs len b) := by
  obtain ⟨l0, b1, b2⟩ := hB
  refine ⟨(Fr.rf.sI (sBm_r r k _) _).sI (sBm_k r k) _, by omega, gI_self _ _ _ _, fun z z0 z1 => ?_⟩
  unfold pu
  rw [gI_ne _ hr, gI_sI]
  by_cases e : z = len
  · rw [if_pos ⟨rfl, by rw [e]⟩, if_pos e]
  · rw [if_neg (fun q => e (by omega)), if_neg e]
    exact b2 z z0 (by omega)
theorem x9_four {h : HD} {len : Int} {bs : Int → Int} (y : Int32) (hB : BfM (7, 0, 1) 2 h len bs) (hl : len + 4 ≤ 400) : ∃ h2, jX9_four y h = some h2 ∧ Fr (sBm (7, 0, 1) 2) h h2 ∧ BfM (7, 0, 1) 2 h2 (len + 4) (pu4 bs len y) := by
  have st : ∀ {g : HD} {l : Int} {c : Int → Int} (s : Int) (f : Nat), BfM (7, 0, 1) 2 g l c → l < 400 → 0 ≤ s → s ≤ 24 → ∃ g2, jX9_four_L3 y (f + 1) (iZ s) g = jX9_four_L3 y f (iZ (s + -8)) g2 ∧ Fr (sBm (7, 0, 1) 2) g g2 ∧ BfM (7, 0, 1) 2 g2 (l + 1) (pu c l (qb y s)) := fun {g l c} s f hG hl s0 s1 => by
    obtain ⟨a, b⟩ := hG.put (b := qb y s) (by decide)
    have l0 := hG.1
    refine ⟨_, ?_, a, b⟩
    rw [jX9_four_L3, i0, if_neg (lt_n (by omega) (by omega) (by omega)), hG.2.1, inB_t (by omega) (by omega) (by omega), if_pos rfl, iZ_nat (by omega) (by omega), lt_eq, lt_eq, gI_ne _ (by decide), hG.2.1, i1, iZ_add, byt_u, im8, iZ_add]
    rfl
  obtain ⟨h1, e1, f1, c1⟩ := st 24 999999 hB (by omega) (by decide) (by decide)
  obtain ⟨h2, e2, f2, c2⟩ := st (24 + -8) 999998 c1 (by omega) (by decide) (by decide)
  obtain ⟨h3, e3, f3, c3⟩ := st (24 + -8 + -8) 999997 c2 (by omega) (by decide) (by decide)
  obtain ⟨h4, e4, f4, c4⟩ := st (24 + -8 + -8 + -8) 999996 c3 (by omega) (by decide) (by decide)
  refine ⟨h4, ?_, ((f1.tr f2).tr f3).tr f4, by rw [show len + 4 = len + 1 + 1 + 1 + 1 by omega]; exact c4⟩
  unfold jX9_four
  rw [i24]
  refine (e1.trans (e2.trans (e3.trans e4))).trans ?_
  rw [show (999996 : Nat) = 999995 + 1 from rfl, jX9_four_L3, i0, show (24 : Int) + -8 + -8 + -8 + -8 = -8 from rfl, if_pos (lt_y (by omega) (by omega) (by omega))]
theorem RBuf.get {h : HD} (hR : RBuf h) : ∃ len bs, len ≤ 400 ∧ BfC 0 h len bs ∧ BfM (7, 0, 1) 2 h len bs := by
  obtain ⟨len, bs, l0, l1, e1, e2, hb⟩ := hR
  exact ⟨len, bs, l1, ⟨l0, e1, fun z z0 z1 => ⟨⟨(hb z z0 z1).1, (hb z z0 z1).2.1⟩, (hb z z0 z1).2.2.1⟩⟩, ⟨l0, e2, fun z z0 z1 => (hb z z0 z1).2.2.2⟩⟩
theorem RBuf.of {h : HD} {len : Int} {bs : Int → Int} (l1 : len ≤ 400) (hC : BfC 0 h len bs) (hM : BfM (7, 0, 1) 2 h len bs) : RBuf h := ⟨len, bs, hC.1, l1, hC.2.1, hM.2.1, fun z z0 z1 => ⟨(hC.2.2 z z0 z1).1.1, (hC.2.2 z z0 z1).1.2, (hC.2.2 z z0 z1).2, hM.2.2 z z0 z1⟩⟩
theorem BfC.fr {S : Rf → Nat → Bool} {o : Nat} {h h2 : HD} {len : Int} {bs : Int → Int} (hB : BfC o h len bs) (hF : Fr S h h2) (s1 : S (0, o, 0) 1 = false) (s2 : ∀ k, S (0, o, 1) k = false) : BfC o h2 len bs := ⟨hB.1, (hF.1 _ _ s1).trans hB.2.1, fun z z0 z1 => ⟨(hB.2.2 z z0 z1).1, (hF.1 _ _ (s2 _)).trans (hB.2.2 z z0 z1).2⟩⟩
theorem BfM.fr {S : Rf → Nat → Bool} {r : Rf} {k : Nat} {h h2 : HD} {len : Int} {bs : Int → Int} (hB : BfM r k h len bs) (hF : Fr S h h2) (s1 : S (7, 0, 0) k = false) (s2 : ∀ k, S r k = false) : BfM r k h2 len bs := ⟨hB.1, (hF.1 _ _ s1).trans hB.2.1, fun z z0 z1 => (hF.1 _ _ (s2 _)).trans (hB.2.2 z z0 z1)⟩
/-- what calls on the buffer touch -/
def sBB : Rf → Nat → Bool := fun r k => (Nat.beq r.1 0 && Nat.beq r.2.1 0) || (Nat.beq r.1 7 && (Nat.beq r.2.2 1 || (Nat.beq r.2.2 0 && (Nat.beq k 0 || Nat.beq k 2))))
theorem sBf_BB {h h2 : HD} (hF : Fr (sBf 0) h h2) : Fr sBB h h2 := hF.mono fun r k q => by
  unfold sBB at q
  unfold sBf
  revert q
  cases Nat.beq r.1 0 <;> cases Nat.beq r.2.1 0 <;> simp
theorem sBm_BB {h h2 : HD} (hF : Fr (sBm (7, 0, 1) 2) h h2) : Fr sBB h h2 := hF.mono fun r k q => by
  unfold sBm
  rw [Bool.or_eq_false_iff]
  refine ⟨decide_eq_false fun e => ?_, ?_⟩
  · rw [e] at q; cases q
  · cases e : Nat.beq k 2 with
    | false => rw [Bool.and_false]
    | true =>
      rw [decide_eq_false, Bool.false_and]
      intro e2
      rw [e2, Nat.eq_of_beq_eq_true e] at q
      cases q
theorem Rel.buf {h h2 : HD} (hR : Rel h) (hF : Fr sBB h h2) (hB : RBuf h2) : Rel h2 := by
  obtain ⟨⟨R, r1⟩, r2, r3, r4, r5, r6, r7⟩ := hR
  exact ⟨⟨R, r1.fr hF (fun _ _ => rfl) (fun _ => rfl) (fun _ => rfl)⟩, hB, r3.fr hF (fun _ => rfl) (fun _ => rfl) rfl rfl, r4.fr hF rfl rfl rfl rfl, r5.fr hF rfl rfl (fun _ _ _ _ => rfl) (fun _ => rfl) (fun _ => rfl), r6.fr hF rfl rfl (fun _ _ => rfl) (fun _ => rfl) (fun _ => rfl), r7.fr hF rfl rfl (fun _ => rfl) (fun _ => rfl) rfl⟩
theorem p_feed {h : HD} (hR : Rel h) (a b c d e : Int32) : PP [0] (jX8_feed a b c d e h) (jX9_feed a b c d e) := by
  obtain ⟨len, bs, l1, hC, hM⟩ := hR.2.1.get
  have l0 := hC.1
  by_cases q : len + 20 ≤ 400
  · obtain ⟨h1, e1, f1, c1⟩ := x1_four a hC (by omega)
    obtain ⟨h2, e2, f2, c2⟩ := x1_four b c1 (by omega)
    obtain ⟨h3, e3, f3, c3⟩ := x1_four c c2 (by omega)
    obtain ⟨h4, e4, f4, c4⟩ := x1_four d c3 (by omega)
    obtain ⟨h5, e5, f5, c5⟩ := x1_four e c4 (by omega)
    have F : Fr (sBf 0) h h5 := (((f1.tr f2).tr f3).tr f4).tr f5
    have hM1 : BfM (7, 0, 1) 2 (c0 h5 0) len bs := (hM.fr F rfl (fun _ => rfl)).fr (c0_fr h5 0) rfl (fun _ => rfl)
    obtain ⟨g1, E1, F1, m1⟩ := x9_four a hM1 (by omega)
    obtain ⟨g2, E2, F2, m2⟩ := x9_four b m1 (by omega)
    obtain ⟨g3, E3, F3, m3⟩ := x9_four c m2 (by omega)
    obtain ⟨g4, E4, F4, m4⟩ := x9_four d m3 (by omega)
    obtain ⟨g5, E5, F5, m5⟩ := x9_four e m4 (by omega)
    have G : Fr (sBm (7, 0, 1) 2) (c0 h5 0) g5 := (((F1.tr F2).tr F3).tr F4).tr F5
    have e0 : len + 4 + 4 + 4 + 4 + 4 = len + 20 := by omega
    rw [e0] at c5 m5
    refine PP.ok (v := iZ (len + 20)) (h1 := h5) (h2 := g5) ?_ ?_ (hR.buf (((sBf_BB F).tr (Fr.rf.sI rfl _ : Fr sBB h5 (c0 h5 0))).tr (sBm_BB G)) (RBuf.of q ((c5.fr (c0_fr h5 0) rfl (fun _ => rfl)).fr G rfl (fun _ => rfl)) m5)) ((G.1 _ _ rfl).trans (c0_0 _ _))
    · unfold jX8_feed jX1_length
      rw [hC.2.1, i20, iZ_add, i400, if_pos (le_y (by omega) (by omega) (by omega)), e1, Option.bind_some, e2, Option.bind_some, e3, Option.bind_some, e4, Option.bind_some, e5, Option.bind_some, c5.2.1]
    · unfold jX9_feed
      rw [F.1 _ _ rfl, hM.2.1, i20, iZ_add, i400, if_neg (lt_n (by omega) (by omega) (by omega)), x9_goes, Option.bind_some, if_pos rfl]
      show (jX9_four a (c0 h5 0)).bind _ = _
      rw [E1, Option.bind_some, E2, Option.bind_some, E3, Option.bind_some, E4, Option.bind_some, E5, Option.bind_some, m5.2.1]
  · refine PP.ex (h1 := h) (h2 := c0 h 1) (w := 0) 0 (e := 0) ?_ ?_ (hR.fr (c0_fr h 1)) rfl (c0_0 _ _)
    · unfold jX8_feed jX1_length
      rw [hC.2.1, i20, iZ_add, i400, if_neg (le_n (by omega) (by omega) (by omega))]
    · unfold jX9_feed
      rw [hM.2.1, i20, iZ_add, i400, if_pos (lt_y (by omega) (by omega) (by omega)), x9_goes]
      rfl
theorem p_truncate {h : HD} (hR : Rel h) (p : Int32) : PP [1] (jX8_truncate p h) (jX9_truncate p) := by
  obtain ⟨len, bs, l1, hC, hM⟩ := hR.2.1.get
  have l0 := hC.1
  obtain ⟨v, v1, v2, rfl⟩ := iZ_ex p
  have hin : ∀ g : HD, gI g (7, 0, 0) 2 = iZ len → jX9_isIn (iZ v).toInt64 0 ((gI g (7, 0, 0) 2).toInt64) g = decide (0 ≤ v ∧ v ≤ len) := fun g hg => by
    rw [hg, iZ_j (by omega) (by omega), iZ_j (by omega) (by omega), show (0 : Int64) = jZ 0 from rfl, jZ_is (by omega) (by omega) (by omega) (by omega) (by omega) (by omega)]
  by_cases q : 0 ≤ v ∧ v ≤ len
  · have key : ∃ h1, jX1_shorten 0 (iZ v) h = some h1 ∧ Fr (sBf 0) h h1 ∧ BfC 0 h1 v bs := by
      by_cases q2 : len ≤ v
      · refine ⟨h, ?_, Fr.rf, by rw [show v = len by omega]; exact hC⟩
        unfold jX1_shorten
        rw [i0, if_neg (lt_n (by omega) (by omega) (by omega)), hC.2.1, if_pos (le_y (by omega) (by omega) (by omega))]
      · refine ⟨sI h (0, 0, 0) 1 (iZ v), ?_, Fr.rf.sI rfl _, q.1, gI_self _ _ _ _, fun z z0 z1 => ?_⟩
        · unfold jX1_shorten
          rw [i0, if_neg (lt_n (by omega) (by omega) (by omega)), hC.2.1, if_neg (le_n (by omega) (by omega) (by omega))]
          rfl
        · rw [gI_ne _ (by decide)]
          exact hC.2.2 z z0 (by omega)
    obtain ⟨h1, e1, f1, c1⟩ := key
    have M1 := (hM.fr f1 rfl (fun _ => rfl)).fr (c0_fr h1 0) rfl (fun _ => rfl)
    have G : Fr (sBm (7, 0, 1) 2) (c0 h1 0) (sI (c0 h1 0) (7, 0, 0) 2 (iZ v)) := Fr.rf.sI rfl _
    refine PP.ok (v := iZ v) (h1 := h1) (h2 := sI (c0 h1 0) (7, 0, 0) 2 (iZ v)) ?_ ?_ (hR.buf (((sBf_BB f1).tr (Fr.rf.sI rfl _ : Fr sBB h1 (c0 h1 0))).tr (sBm_BB G)) (RBuf.of (by omega) ((c1.fr (c0_fr h1 0) rfl (fun _ => rfl)).fr G rfl (fun _ => rfl)) ⟨q.1, gI_self _ _ _ _, fun z z0 z1 => by rw [gI_ne _ (by decide)]; exact M1.2.2 z z0 (by omega)⟩)) (by rw [gI_nk _ _ _ (by decide)]; exact c0_0 _ _)
    · unfold jX8_truncate jX1_length
      rw [i0, if_neg (lt_n (by omega) (by omega) (by omega)), hC.2.1, if_pos (le_y (by omega) (by omega) (by omega)), e1]
      rfl
    · unfold jX9_truncate
      rw [hin h1 ((f1.1 _ _ rfl).trans hM.2.1), decide_eq_true q, x9_goes, Option.bind_some, if_pos rfl]
      rfl
  · refine PP.ex (h1 := h) (h2 := c0 h 1) (w := 0) 0 (e := 1) ?_ ?_ (hR.fr (c0_fr h 1)) rfl (c0_0 _ _)
    · unfold jX8_truncate jX1_length
      rw [i0]
      by_cases q1 : v < 0
      · rw [if_pos (lt_y (by omega) (by omega) (by omega))]
      · rw [if_neg (lt_n (by omega) (by omega) (by omega)), hC.2.1, if_neg (le_n (by omega) (by omega) (by omega))]
    · unfold jX9_truncate
      rw [hin h hM.2.1, decide_eq_false q, x9_goes]
      rfl
