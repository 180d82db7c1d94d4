/-! runScript: the pair -/
def co (h h2 : HD) : HD := (h2.1, h2.2.1, h2.2.2.1, h.2.2.2)
theorem Fo.fr {S : Rf → Nat → Bool} {h h2 : HD} (a : Fo S h h2) : Fr S h (co h h2) := ⟨a.1, a.2.1, Prod.ext a.2.2 rfl⟩
/-- ints and longs outside S are as they were -/
def Fw (S : Rf → Nat → Bool) (h h2 : HD) : Prop := (∀ r k, S r k = false → gI h2 r k = gI h r k) ∧ (∀ r k, S r k = false → gJ h2 r k = gJ h r k)
theorem Fw.fr {S : Rf → Nat → Bool} {h h2 : HD} (a : Fw S h h2) : Fr S h (ck h h2) := ⟨a.1, a.2, rfl⟩
theorem Fw.tr {S : Rf → Nat → Bool} {h h2 h3 : HD} (a : Fw S h h2) (b : Fw S h2 h3) : Fw S h h3 := ⟨fun r k q => (b.1 r k q).trans (a.1 r k q), fun r k q => (b.2 r k q).trans (a.2 r k q)⟩
def sCR : Rf → Nat → Bool := fun r k => sRS r k || s1 3 r k || sX8 r k || sKp r k
def sMR : Rf → Nat → Bool := fun r k => sSM2 r k || sRT r k || sX9 r k || sKm r k
theorem sCR_n {r : Rf} {k : Nat} (h : sCR r k = false) : sRS r k = false ∧ s1 3 r k = false ∧ sX8 r k = false ∧ sKp r k = false := by
  unfold sCR at h
  simp only [Bool.or_eq_false_iff] at h
  exact ⟨h.1.1.1, h.1.1.2, h.1.2, h.2⟩
theorem sMR_n {r : Rf} {k : Nat} (h : sMR r k = false) : sSM2 r k = false ∧ sRT r k = false ∧ sX9 r k = false ∧ sKm r k = false := by
  unfold sMR at h
  simp only [Bool.or_eq_false_iff] at h
  exact ⟨h.1.1.1, h.1.1.2, h.1.2, h.2⟩
theorem rel_run {h g g2 : HD} {R2 : Row} {a : Ac} {rf : Int32} {k2 : Int} {past : Int → Row} (hR : Rel h) (F : Fw sCR h g) (G : Fr sMR g g2) (b8 : gI g (0, 0, 0) 1 = iZ 0) (b9 : gI g2 (7, 0, 0) 2 = iZ 0) (e1 : gI g (6, 0, 0) 17 = gI g2 (7, 0, 0) 10) (e2 : gI g (6, 0, 0) 18 = gI g2 (7, 0, 0) 11) (hok : RwOk R2) (hC : SC g (R2, a, rf)) (hM : SM g2 (R2, a, rf)) (hk : 0 ≤ k2 ∧ k2 ≤ 6) (hU : UC g k2 past) (hV : UM g2 k2 past) (hp : ∀ z : Int, 0 ≤ z → z < k2 → RwOk (past z)) : Rel g2 := by
  obtain ⟨-, -, -, -, -, r6, r7⟩ := hR
  have a6 : RSav g := r6.fr (S := sCR) (h2 := ck h g) F.fr rfl rfl (fun _ _ => rfl) (fun _ => rfl) (fun _ => rfl)
  have a7 : RRep g := r7.fr (S := sCR) (h2 := ck h g) F.fr rfl rfl (fun _ => rfl) (fun _ => rfl) rfl
  have f1 : ∀ o j k, sMR (1, o, j) k = false := fun _ _ _ => rfl
  have u2 : UC g2 k2 past := hU.fr hk.2 G rfl (fun o j k _ => f1 o j k)
  refine ⟨⟨R2, hok, hC.1.fr G (f1 0), hM.1⟩, ⟨0, fun _ => 0, Int.le_refl _, by decide, (G.1 _ _ rfl).trans b8, b9, fun z z0 z1 => by omega⟩, ⟨fun i hi => ?_, ?_⟩, ⟨(G.1 _ _ rfl).trans e1, (G.1 _ _ rfl).trans e2⟩, ⟨k2, past, hk.1, hk.2, u2.1, hV.1, u2.2.1, u2.2.2.1, fun z z0 z1 => ⟨hp z z0 z1, u2.2.2.2 z z0 z1, hV.2 z z0 z1⟩⟩, a6.fr G rfl rfl (f1 2) (fun _ => rfl) (fun _ => rfl), a7.fr G rfl rfl (fun _ => rfl) (fun _ => rfl) rfl⟩
  · exact ((G.1 _ _ rfl).trans (hC.2.1 i hi)).trans (hM.2.1 i hi).symm
  · exact ((G.1 _ _ rfl).trans hC.2.2).trans hM.2.2.symm
theorem x8_note3 {h : HD} {R : Row} (hC : RwC h 0 R) (hn : R.1 ≤ 11) : ∃ q, jX8_note h = some q ∧ Fr (s1 3) h q ∧ RwC q 3 R ∧ RwC q 0 R := by
  obtain ⟨q, e, f, c⟩ := x2_copy (o := 3) (r := 0) (by decide) hC hn
  exact ⟨q, by unfold jX8_note; rw [e]; rfl, f, c, hC.fr f (s1_f (by decide))⟩
theorem p_runScript {h : HD} (hR : Rel h) : PP [1] (jX8_runScript h) jX9_runScript := by
  obtain ⟨R, a, rf, k, past, hok, hC, hM, hk, hU, hV, hp⟩ := hR.get
  obtain ⟨len, bs, l1, bC, bM⟩ := hR.2.1.get
  have hn : 0 ≤ R.1 ∧ R.1 ≤ 11 := ⟨hok.1.1, hok.1.2.1⟩
  have hb : ∀ z, 0 ≤ z → z < len → 0 ≤ bs z ∧ bs z < 256 := fun z z0 z1 => (bC.2.2 z z0 z1).1
  have cs := c_script bC l1
  -- what the class's reading keeps
  have keep : ∀ g, Fo sRS h g → SC g (R, a, rf) ∧ UC g k past ∧ SM g (R, a, rf) ∧ UM g k past ∧ BfM (7, 0, 1) 2 g len bs := fun g F => ⟨hC.fr (h2 := co h g) F.fr (fun _ _ => rfl) (fun _ => rfl) rfl, hU.fr (h2 := co h g) hk.2 F.fr rfl (fun _ _ _ _ => rfl), hM.fr (h2 := co h g) F.fr (fun _ => rfl) (fun _ => rfl) (fun _ => rfl) rfl, hV.fr (h2 := co h g) F.fr rfl (fun _ => rfl) (fun _ => rfl), bM.fr (h2 := co h g) F.fr rfl (fun _ => rfl)⟩
  cases hs : scP len bs 401 ([], none) (tok len bs 0) with
  | inl er =>
    rw [hs] at cs
    obtain ⟨c, p⟩ := er
    obtain ⟨q1, g, g2, e1, e2, e3, F, b8, x17, x18⟩ := cs
    obtain ⟨kC, kU, kM, kV, kB⟩ := keep g2 F
    have ms := m_script kB hb l1
    rw [hs] at ms
    obtain ⟨g3, e4, G3, k3, kc, b2⟩ := ms
    obtain ⟨g4, e5, G4, y10, y11, y0, y23, y2, oi, oj⟩ := m_endsBad k3 kc
    have G : Fr sMR g2 g4 := (G3.mono fun r j q => (sMR_n q).1).tr (G4.mono fun r j q => (sMR_n q).2.1)
    have M4 : SM g4 (R, a, rf) := ⟨(kM.1.fr G3 (fun _ => rfl) (fun _ => rfl)).eq (fun j => oi _ _ (by decide)) (fun j => oj _ _), fun i hi => (oi _ _ (by decide)).trans ((G3.1 _ _ rfl).trans (kM.2.1 i hi)), (G4.1 _ _ rfl).trans ((G3.1 _ _ rfl).trans kM.2.2)⟩
    have V4 : UM g4 k past := ⟨y23.trans ((G3.1 _ _ rfl).trans kV.1), fun z z0 z1 => ((kV.2 z z0 z1).fr G3 (fun _ => rfl) (fun _ => rfl)).eq (fun j => oi _ _ (by decide)) (fun j => oj _ _)⟩
    refine PP.ex (h1 := g2) (h2 := g4) (w := 0) 0 (e := 1) ?_ ?_ (rel_run hR ⟨fun r j q => F.1 r j (sCR_n q).1, fun r j q => F.2.1 r j (sCR_n q).1⟩ G b8 (y2.trans b2) (x17.trans y10.symm) (x18.trans y11.symm) hok kC M4 hk kU V4 hp) rfl y0
    · unfold jX8_runScript
      rw [e1, Option.bind_some, e2, Option.bind_some]
      show (jX8_endReading g).bind _ = _
      rw [e3, Option.bind_some]
      exact if_neg Bool.false_ne_true
    · rw [e4]
      unfold RE
      rw [e5, Option.bind_some]
      exact if_neg Bool.false_ne_true
  | inr P =>
    rw [hs] at cs
    obtain ⟨q1, g, g2, e1, e2, e3, F, b8, x17, x18, Z2⟩ := cs
    obtain ⟨kC, kU, -, -, -⟩ := keep g2 F
    obtain ⟨g4, e4, f4, c43, c40⟩ := x8_note3 kC.1 hn.2
    obtain ⟨g5, hg5⟩ : ∃ g5, g5 = sI g4 (6, 0, 0) 15 (iZ 0) := ⟨_, rfl⟩
    have F5 : Fr (fun r j => decide (r = (6, 0, 0)) && Nat.beq j 15) g4 g5 := by rw [hg5]; exact Fr.rf.sI rfl _
    have nx : ∀ (o j j2 : Nat), (fun (r : Rf) (j : Nat) => decide (r = (6, 0, 0)) && Nat.beq j 15) (1, o, j) j2 = false := fun o j j2 => by
      show (decide _ && _) = false
      rw [decide_eq_false (fun e => by cases e)]; rfl
    have f1n : ∀ (r : Rf) (j : Nat), Nat.beq r.1 1 = false → s1 3 r j = false := fun r j q => by
      unfold s1
      rw [q]; rfl
    have S4 : SC g4 (R, a, rf) := ⟨c40, fun i hi => (f4.1 _ _ rfl).trans (kC.2.1 i hi), (f4.1 _ _ rfl).trans kC.2.2⟩
    have S5 : SC g5 (R, a, rf) := S4.fr F5 (nx 0) (fun _ => rfl) rfl
    have Z5 : CZ g5 (P, none) := by
      obtain ⟨y1, y2, y3, y4, -, -⟩ := Z2
      exact ⟨(F5.1 _ _ rfl).trans ((f4.1 _ _ rfl).trans y1), (F5.1 _ _ rfl).trans ((f4.1 _ _ rfl).trans y2), y3, AtZ_mono (by decide) (fun j c bh j0 j1 hc => hc.keep ((F5.oO _).trans (f4.oO _)) ((F5.2.1 _ _ rfl).trans (f4.2.1 _ _ rfl)) ((F5.1 _ _ rfl).trans (f4.1 _ _ rfl)) ((F5.1 _ _ rfl).trans (f4.1 _ _ rfl))) (Or.inr (fun _ => trivial)) (fun _ _ _ _ => trivial) y4, fun c => absurd (show (1 : Int) ≤ 0 from c) (by decide), fun c => absurd (show (0 : Int) = 2 from c) (by decide)⟩
    have P5 : PoC g5 g5 ((R, a, rf), 0) := ⟨Fr.rf, S5, hok, by rw [hg5, gI_self], Int.le_refl 0, (by decide : (0 : Int) ≤ 40)⟩
    obtain ⟨g6, e6, p6⟩ := c_all Z5 P5
    obtain ⟨st, hst⟩ : ∃ st, (ex2 P ((R, a, rf), 0)).2 = st := ⟨_, rfl⟩
    rw [hst] at p6
    obtain ⟨⟨R2, a2, rf2⟩, d⟩ := st
    obtain ⟨F6, S6, ok2, d15, d0, d40⟩ := p6
    replace S6 : SC g6 (R2, a2, rf2) := S6
    replace ok2 : RwOk R2 := ok2
    replace d15 : gI g6 (6, 0, 0) 15 = iZ d := d15
    have x81 : ∀ (o j j2 : Nat), 2 ≤ o → sX8 (1, o, j) j2 = false := fun o j j2 ho => by
      unfold sX8 sA8
      have t0 : Nat.beq o 0 = false := by
        cases e : Nat.beq o 0 with
        | true => exact absurd (Nat.eq_of_beq_eq_true e) (by omega)
        | false => rfl
      have t1 : Nat.beq o 1 = false := by
        cases e : Nat.beq o 1 with
        | true => exact absurd (Nat.eq_of_beq_eq_true e) (by omega)
        | false => rfl
      show ((((Nat.beq 1 1 && (Nat.beq o 0 || Nat.beq o 1)) || _) || _) || _) = false
      rw [t0, t1]
      rfl
    have c63 : RwC g6 3 R := (c43.fr F5 (nx 3)).fr F6 (fun j j2 => x81 3 j j2 (by decide))
    have U6 : UC g6 k past := ((kU.fr hk.2 f4 rfl (fun o j j2 ho => s1_f (by omega) j j2)).fr hk.2 F5 rfl (fun o j j2 _ => nx o j j2)).fr hk.2 F6 rfl (fun o j j2 ho => x81 o j j2 (by omega))
    obtain ⟨g7, e7, F7, U7⟩ := x8_keep U6 hk c63 hn.2
    have S7 : SC g7 (R2, a2, rf2) := ⟨S6.1.fr (S := sKp) (h2 := ck g6 g7) F7.fr (fun _ _ => rfl), fun i hi => (F7.1 _ _ rfl).trans (S6.2.1 i hi), (F7.1 _ _ rfl).trans S6.2.2⟩
    have FW : Fw sCR h g7 := by
      have w1 : Fw sCR h g2 := ⟨fun r j q => F.1 r j (sCR_n q).1, fun r j q => F.2.1 r j (sCR_n q).1⟩
      have w2 : Fw sCR g2 g4 := ⟨fun r j q => f4.1 r j (sCR_n q).2.1, fun r j q => f4.2.1 r j (sCR_n q).2.1⟩
      have m5 : Fr sX8 g4 g5 := by rw [hg5]; exact Fr.rf.sI rfl _
      have w3 : Fw sCR g4 g5 := ⟨fun r j q => m5.1 r j (sCR_n q).2.2.1, fun r j q => m5.2.1 r j (sCR_n q).2.2.1⟩
      have w4 : Fw sCR g5 g6 := ⟨fun r j q => F6.1 r j (sCR_n q).2.2.1, fun r j q => F6.2.1 r j (sCR_n q).2.2.1⟩
      have w5 : Fw sCR g6 g7 := ⟨fun r j q => F7.1 r j (sCR_n q).2.2.2, fun r j q => F7.2.1 r j (sCR_n q).2.2.2⟩
      exact (((w1.tr w2).tr w3).tr w4).tr w5
    -- the reference
    have kM : SM g7 (R, a, rf) := hM.fr (S := sCR) (h2 := ck h g7) FW.fr (fun _ => rfl) (fun _ => rfl) (fun _ => rfl) rfl
    have kV : UM g7 k past := hV.fr (S := sCR) (h2 := ck h g7) FW.fr rfl (fun _ => rfl) (fun _ => rfl)
    have kB : BfM (7, 0, 1) 2 g7 len bs := bM.fr (S := sCR) (h2 := ck h g7) FW.fr rfl (fun _ => rfl)
    have ms := m_script kB hb l1
    rw [hs] at ms
    obtain ⟨m1, n1, G1, Z1, z8, z9, z2⟩ := ms
    obtain ⟨m2, n2, G2, y10, y11, y0, y23, y2, oi, oj, oz⟩ := m_endsGood z8 z9
    have M2 : SM m2 (R, a, rf) := ⟨(kM.1.fr G1 (fun _ => rfl) (fun _ => rfl)).eq (fun j => oi _ _ (by decide)) (fun j => oj _ _), fun i hi => (oi _ _ (by decide)).trans ((G1.1 _ _ rfl).trans (kM.2.1 i hi)), (oz _ (by decide) (by decide) (by decide)).trans ((G1.1 _ _ rfl).trans kM.2.2)⟩
    have V2 : UM m2 k past := ⟨y23.trans ((G1.1 _ _ rfl).trans kV.1), fun z z0 z1 => ((kV.2 z z0 z1).fr G1 (fun _ => rfl) (fun _ => rfl)).eq (fun j => oi _ _ (by decide)) (fun j => oj _ _)⟩
    obtain ⟨m3, n3, G3, A3, N3⟩ := x9_aside M2.1 hn.2
    have M3 : SM m3 (R, a, rf) := M2.fr G3 (fun _ => rfl) (fun _ => rfl) (fun _ => rfl) rfl
    have V3 : UM m3 k past := V2.fr G3 rfl (fun _ => rfl) (fun _ => rfl)
    have Z3 : MZ m3 (P, none) := by
      obtain ⟨w1, w2, w3, w4, w5⟩ := Z1
      exact ⟨(G3.1 _ _ rfl).trans ((oz _ (by decide) (by decide) (by decide)).trans w1), (G3.1 _ _ rfl).trans ((oz _ (by decide) (by decide) (by decide)).trans w2), (G3.1 _ _ rfl).trans ((oz _ (by decide) (by decide) (by decide)).trans w3), w4, AtZ_mono (by decide) (fun j c bh j0 j1 hc => hc.keep ((G3.1 _ _ rfl).trans (oi _ _ (by decide))) ((G3.2.1 _ _ rfl).trans (oj _ _)) ((G3.1 _ _ rfl).trans (oi _ _ (by decide)))) (Or.inl (by decide)) (fun j j0 j1 hl => ((G3.1 _ _ rfl).trans (oi _ _ (by decide))).trans hl) w5⟩
    have Q3 : PoM m3 m3 ((R, a, rf), 0) 0 := ⟨Fr.rf, M3, hok, Int.le_refl 0, (by decide : (0 : Int) ≤ 40), fun _ _ => ⟨rfl, rfl⟩⟩
    obtain ⟨m4, n4, p4⟩ := m_all Z3 rfl Q3
    rw [hst] at n4 p4
    obtain ⟨G4, M4, -, -, -, -⟩ := p4
    replace M4 : SM m4 (R2, a2, rf2) := M4
    replace n4 : jX9_doesAll m3 = some (iZ d, m4) := n4
    have V4 : UM m4 k past := V3.fr G4 rfl (fun _ => rfl) (fun _ => rfl)
    have A4 : RwM m4 (7, 0, 4) (7, 0, 9) 0 0 R := A3.fr G4 (fun _ => rfl) (fun _ => rfl)
    obtain ⟨m5, n5, G5, V5⟩ := x9_keeps V4 hk (fun z z0 z1 => (hp z z0 z1).1.2.1) A4 hn.2
    have M5 : SM m5 (R2, a2, rf2) := M4.fr G5 (fun _ => rfl) (fun _ => rfl) (fun _ => rfl) rfl
    have G : Fr sMR g7 m5 := ((((G1.mono fun r j q => (sMR_n q).1).tr (G2.mono fun r j q => (sMR_n q).2.1)).tr ((s2_RT (Or.inr rfl) (Or.inr rfl) G3).mono fun r j q => (sMR_n q).2.1)).tr (G4.mono fun r j q => (sMR_n q).2.2.1)).tr (G5.mono fun r j q => (sMR_n q).2.2.2)
    have lst : ∀ j, j ≠ 23 → gI m5 (7, 0, 0) j = gI m4 (7, 0, 0) j := fun j hj => G5.1 _ _ (by
      unfold sKm
      have t : Nat.beq j 23 = false := by
        cases e : Nat.beq j 23 with
        | true => exact absurd (Nat.eq_of_beq_eq_true e) hj
        | false => rfl
      rw [t]; rfl)
    have x7 : ∀ j, j = 17 ∨ j = 18 → gI g7 (6, 0, 0) j = gI g2 (6, 0, 0) j := fun j hj => by
      rcases hj with e | e <;> · subst e; rw [F7.1 _ _ rfl, F6.1 _ _ rfl, F5.1 _ _ rfl, f4.1 _ _ rfl]
    refine PP.ok (v := iZ d) (h1 := g7) (h2 := m5) ?_ ?_ (rel_run hR FW G ?_ ?_ ?_ ?_ ok2 S7 M5 (psK_in hk) U7 V5 (psF_ok hk hp hok)) ?_
    · unfold jX8_runScript
      rw [e1, Option.bind_some, e2, Option.bind_some]
      show (jX8_endReading g).bind _ = _
      rw [e3, Option.bind_some]
      show (if true = true then (jX8_note g2).bind _ else _) = _
      rw [if_pos rfl, e4, Option.bind_some, i0, lt_eq, ← hg5]
      show (jX8_doCommands_l3 (0 : Int32) (jX5_count g5) (0 : Int32) g5).bind _ = _
      rw [e6, Option.bind_some]
      show (jX8_keepNoted g6).bind _ = _
      rw [e7, Option.bind_some, F7.1 _ _ rfl, d15]
    · rw [n1]
      unfold RE
      rw [n2, Option.bind_some]
      show (if true = true then (jX9_laysAside m2).bind _ else _) = _
      rw [if_pos rfl, n3, Option.bind_some, n4, Option.bind_some]
      show (jX9_keeps m4).bind _ = _
      rw [n5]
      rfl
    · rw [F7.1 _ _ rfl, F6.1 _ _ rfl, F5.1 _ _ rfl, f4.1 _ _ rfl]; exact b8
    · rw [lst 2 (by decide), G4.1 _ _ rfl, G3.1 _ _ rfl, y2]; exact z2
    · rw [x7 17 (Or.inl rfl), x17, lst 10 (by decide), G4.1 _ _ rfl, G3.1 _ _ rfl, y10]
    · rw [x7 18 (Or.inr rfl), x18, lst 11 (by decide), G4.1 _ _ rfl, G3.1 _ _ rfl, y11]
    · rw [lst 0 (by decide), G4.1 _ _ rfl, G3.1 _ _ rfl, y0]
