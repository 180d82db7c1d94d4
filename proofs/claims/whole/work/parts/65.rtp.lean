/-! readText: the pair -/
theorem sRE_1 {o : Nat} (ho : 2 ≤ o) (j k : Nat) : sRE (1, o, j) k = false := by
  unfold sRE
  have e1 : Nat.beq o 1 = false := by
    cases h : Nat.beq o 1 with
    | true => exact absurd (Nat.eq_of_beq_eq_true h) (by omega)
    | false => rfl
  have e0 : Nat.beq o 0 = false := by
    cases h : Nat.beq o 0 with
    | true => exact absurd (Nat.eq_of_beq_eq_true h) (by omega)
    | false => rfl
  show ((_ || (_ && (Nat.beq o 1 || Nat.beq o 0))) || _ || _) = false
  rw [e1, e0]
  rfl
theorem rel_read {h g g2 : HD} {R2 : Row} {k2 : Int} {past : Int → Row} (hR : Rel h) (F : Fr sRE h g) (G : Fr sRT g g2) (b8 : gI g (0, 0, 0) 1 = iZ 0) (b9 : gI g2 (7, 0, 0) 2 = iZ 0) (e1 : gI g (6, 0, 0) 17 = gI g2 (7, 0, 0) 10) (e2 : gI g (6, 0, 0) 18 = gI g2 (7, 0, 0) 11) (hok : RwOk R2) (hC : RwC g 0 R2) (hM : RwM g2 (7, 0, 2) (7, 0, 7) 0 0 R2) (hk : 0 ≤ k2 ∧ k2 ≤ 6) (u8 : gI g (6, 0, 0) 13 = iZ k2) (u9 : gI g2 (7, 0, 0) 23 = iZ k2) (hp : ∀ z : Int, 0 ≤ z → z < k2 → RwOk (past z) ∧ RwC h (gK h z.toNat) (past z) ∧ RwM h (7, 0, 6) (7, 0, 11) (13 * z) (11 * z) (past z)) : Rel g2 := by
  obtain ⟨-, -, r3, -, r5, r6, r7⟩ := hR
  obtain ⟨k, past0, -, -, -, -, q1, q2, -⟩ := r5
  have a3 : RAcc g := r3.fr F (fun _ => rfl) (fun _ => rfl) rfl rfl
  have a6 : RSav g := r6.fr F rfl rfl (sRE_1 (by decide)) (fun _ => rfl) (fun _ => rfl)
  have a7 : RRep g := r7.fr F rfl rfl (fun _ => rfl) (fun _ => rfl) rfl
  have kk : ∀ i, gK g2 i = gK h i := fun i => (G.kK i).trans (F.kK i)
  refine ⟨⟨R2, hok, hC.fr G (fun _ _ => rfl), hM⟩, ⟨0, fun _ => 0, Int.le_refl _, by decide, (G.1 _ _ rfl).trans b8, b9, fun z z0 z1 => by omega⟩, a3.fr G (fun _ => rfl) (fun _ => rfl) rfl rfl, ⟨(G.1 _ _ rfl).trans e1, (G.1 _ _ rfl).trans e2⟩, ⟨k2, past, hk.1, hk.2, (G.1 _ _ rfl).trans u8, u9, fun i hi => by rw [kk]; exact q1 i hi, fun i j hi hj => by rw [kk, kk]; exact q2 i j hi hj, fun z z0 z1 => ?_⟩, a6.fr G rfl rfl (fun _ _ => rfl) (fun _ => rfl) (fun _ => rfl), a7.fr G rfl rfl (fun _ => rfl) (fun _ => rfl) rfl⟩
  obtain ⟨p1, p2, p3⟩ := hp z z0 z1
  rw [kk]
  have h4 := (q1 z.toNat (by omega)).1
  exact ⟨p1, (p2.fr F (sRE_1 (by omega))).fr G (fun _ _ => rfl), (p3.fr F (fun _ => rfl) (fun _ => rfl)).fr G (fun _ => rfl) (fun _ => rfl)⟩
theorem p_readText {h : HD} (hR : Rel h) : PP [1] (jX8_readText h) jX9_readText := by
  obtain ⟨⟨R, hok, hC, hM⟩, r2, r3, r4, r5, r6, r7⟩ := id hR
  obtain ⟨len, bs, l1, bC, bM⟩ := r2.get
  obtain ⟨k, past, k0, k1, u8, u9, -, -, hp⟩ := r5
  have cr := c_readText bC l1
  have hn : R.1 ≤ 11 := hok.1.2.1
  cases hs : sysP len bs with
  | inl er =>
    rw [hs] at cr
    obtain ⟨c, p⟩ := er
    obtain ⟨g, e, F, b8, x17, x18, oi, oj, x13⟩ := cr
    have mr := m_readText (h := g) (hM.fr F (fun _ => rfl) (fun _ => rfl)) hn (bM.fr F rfl (fun _ => rfl)) (fun z z0 z1 => (bC.2.2 z z0 z1).1) l1
    rw [hs] at mr
    obtain ⟨g2, e2, G, b9, y10, y11, y0, y23, m⟩ := mr
    have cC : RwC g 0 R := ⟨⟨(oi _ _).trans hC.1.1, (oi _ _).trans hC.1.2.1, fun z z0 z1 => (oi _ _).trans (hC.1.2.2 z z0 z1)⟩, fun z z0 z1 => (oj _ _).trans (hC.2 z z0 z1)⟩
    exact PP.ex 0 e e2 (rel_read hR F G b8 b9 (x17.trans y10.symm) (x18.trans y11.symm) hok cC m ⟨k0, k1⟩ (x13.trans u8) (y23.trans ((F.1 _ _ rfl).trans u9)) hp) rfl y0
  | inr R2 =>
    rw [hs] at cr
    obtain ⟨g, e, F, b8, x17, x18, cC, ok2, x13⟩ := cr
    have mr := m_readText (h := g) (hM.fr F (fun _ => rfl) (fun _ => rfl)) hn (bM.fr F rfl (fun _ => rfl)) (fun z z0 z1 => (bC.2.2 z z0 z1).1) l1
    rw [hs] at mr
    obtain ⟨g2, e2, G, b9, y10, y11, y0, y23, m⟩ := mr
    exact PP.ok e e2 (rel_read (past := past) hR F G b8 b9 (x17.trans y10.symm) (x18.trans y11.symm) ok2 cC m ⟨by decide, by decide⟩ x13 y23 (fun z z0 z1 => by omega)) y0
