/-! THE CLASS'S TREE -/
def sTr : Rf → Nat → Bool := fun r _ => Nat.beq r.1 5
theorem sTr_scr {h h2 : HD} (hF : Fr sTr h h2) : Fr scr h h2 := hF.mono fun r k q => by
  unfold scr at q
  unfold sTr
  revert q
  cases Nat.beq r.1 5 <;> simp
theorem sTr_1 (o : Nat) : ∀ j k, sTr (1, o, j) k = false := fun _ _ => rfl
def wC (n m : Int) (cd : Int → Int) (x v : Int) : Int := if oT n m cd x v = true then 0 else 1 + ocT m cd x v
theorem wC_in {n m : Int} {cd : Int → Int} (hm : 0 ≤ m) (x v : Int) : 0 ≤ wC n m cd x v ∧ wC n m cd x v ≤ m + 1 := by
  have := oc_in (cd := cd) hm x v
  unfold wC
  split <;> omega
theorem wC_1 {n m : Int} {cd : Int → Int} (hm : 0 ≤ m) (x v : Int) : decide (wC n m cd x v = 1) = (!oT n m cd x v && decide (ocT m cd x v = 0)) := by
  have := oc_in (cd := cd) hm x v
  unfold wC
  cases oT n m cd x v
  · rw [if_neg Bool.false_ne_true]
    by_cases q : ocT m cd x v = 0
    · rw [decide_eq_true q, decide_eq_true (by omega)]; rfl
    · rw [decide_eq_false q, decide_eq_false (by omega)]; rfl
  · rw [if_pos rfl]; rfl
section
variable {h : HD} {n : Int}
theorem x7_isNode (h6 : gI h (5, 0, 0) 6 = iZ (n + 1)) (hn : 0 ≤ n ∧ n ≤ 11) {v : Int} (v0 : -2147483648 ≤ v) (v1 : v < 2147483648) : jX7_isNode (iZ v) h = decide (0 ≤ v ∧ v ≤ n) := by
  unfold jX7_isNode
  rw [h6, i0, i12]
  by_cases q : v < 0
  · rw [if_pos (lt_y (by omega) (by omega) (by omega)), decide_eq_false (by omega)]
  · rw [if_neg (lt_n (by omega) (by omega) (by omega))]
    by_cases q2 : n + 1 ≤ v
    · rw [if_pos (le_y (by omega) (by omega) (by omega)), decide_eq_false (by omega)]
    · rw [if_neg (le_n (by omega) (by omega) (by omega)), if_neg (le_n (by omega) (by omega) (by omega)), decide_eq_true (by omega)]
theorem x7_numAt {m : Int} {cd : Int → Int} (h7 : gI h (5, 0, 0) 7 = iZ m) (hm : 0 ≤ m ∧ m ≤ 11) (hA : IsA h (5, 0, 1) m cd) {z : Int} (z1 : -2147483648 ≤ z) (z2 : z < 2147483648) : jX7_numberAt (iZ z) h = some (iZ (if 0 ≤ z ∧ z < m then cd z else -1)) := by
  unfold jX7_numberAt
  rw [i0, h7, i11]
  by_cases q1 : z < 0
  · rw [if_pos (lt_y (by omega) (by omega) (by omega)), if_neg (by omega)]; rfl
  · rw [if_neg (lt_n (by omega) (by omega) (by omega))]
    by_cases q2 : m ≤ z
    · rw [if_pos (le_y (by omega) (by omega) (by omega)), if_neg (by omega)]; rfl
    · rw [if_neg (le_n (by omega) (by omega) (by omega)), if_neg (le_n (by omega) (by omega) (by omega)), inB_t (by omega) (by omega) (by omega), if_pos rfl, iZ_nat (by omega) (by omega), hA z (by omega) (by omega), if_pos (by omega)]
theorem x7_isEdge (h8 : gI h (5, 0, 0) 8 = iZ n) (hn : 0 ≤ n ∧ n ≤ 11) {z : Int} (z1 : -2147483648 ≤ z) (z2 : z < 2147483648) : jX7_isEdge (iZ z) h = decide (0 ≤ z ∧ z < n) := by
  unfold jX7_isEdge
  rw [i0, h8, i11]
  by_cases q1 : z < 0
  · rw [if_pos (lt_y (by omega) (by omega) (by omega)), decide_eq_false (by omega)]
  · rw [if_neg (lt_n (by omega) (by omega) (by omega))]
    by_cases q2 : n ≤ z
    · rw [if_pos (le_y (by omega) (by omega) (by omega)), decide_eq_false (by omega)]
    · rw [if_neg (le_n (by omega) (by omega) (by omega)), if_neg (le_n (by omega) (by omega) (by omega)), decide_eq_true (by omega)]
theorem x7_lighten (h6 : gI h (5, 0, 0) 6 = iZ (n + 1)) (hn : 0 ≤ n ∧ n ≤ 11) {v w : Int} (v0 : 0 ≤ v) (v1 : v ≤ n) (hw : gI h (5, 0, 5) v.toNat = iZ w) : jX7_lighten (iZ v) h = some (sI h (5, 0, 5) v.toNat (iZ (w - 1))) := by
  unfold jX7_lighten
  rw [x7_isNode h6 hn (by omega) (by omega), decide_eq_true ⟨v0, v1⟩, if_pos rfl, inB_t (by omega) (by omega) (by omega), if_pos rfl, if_pos rfl, iZ_nat (by omega) (by omega), hw, i1, iZ_sub, lt_eq]
theorem x7_least (h6 : gI h (5, 0, 0) 6 = iZ (n + 1)) (hn : 0 ≤ n ∧ n ≤ 11) {W : Int → Int} (hW : IsA h (5, 0, 5) (n + 1) W) (hb : ∀ v, 0 ≤ v → v ≤ n → 0 ≤ W v ∧ W v ≤ 100) {q : Int} (q0 : -1 ≤ q) (q1 : q ≤ 100) : jX7_leastOfWeightOne (iZ q) h = some (iZ (if fnd (fun u => decide (W u = 1) && !decide (u = q)) (n + 1).toNat 0 < n + 1 then fnd (fun u => decide (W u = 1) && !decide (u = q)) (n + 1).toNat 0 else -1)) := by
  obtain ⟨g, hg⟩ : ∃ g, fnd (fun u => decide (W u = 1) && !decide (u = q)) (n + 1).toNat 0 = g := ⟨_, rfl⟩
  have g1 := fnd_ge (fun u => decide (W u = 1) && !decide (u = q)) (n + 1).toNat 0
  rw [hg] at g1 ⊢
  unfold jX7_leastOfWeightOne
  rw [i0]
  refine loopN (fun f (x : Int32) => jX7_leastOfWeightOne_L2 (iZ q) h f x) iZ (a := 0) (b := g) (by omega) (fun f z z0 z1 => ?_) (fun f => ?_) FU (FU_gt (by omega))
  · show jX7_leastOfWeightOne_L2 (iZ q) h (f + 1) (iZ z) = _
    have hz := fnd_not (fun u => decide (W u = 1) && !decide (u = q)) (n + 1).toNat 0 z z0 (by omega)
    have hwz := hb z z0 (by omega)
    rw [jX7_leastOfWeightOne_L2, h6, if_neg (le_n (by omega) (by omega) (by omega)), i12, if_neg (le_n (by omega) (by omega) (by omega)), inB_t (by omega) (by omega) (by omega), if_pos rfl, iZ_nat (by omega) (by omega), hW z z0 (by omega), i1]
    by_cases e : W z = 1
    · have e2 : z = q := by
        rw [decide_eq_true e] at hz
        simpa using hz
      rw [if_pos (by rw [e]), if_pos (by rw [e2]), iZ_add]
    · rw [if_neg (eq_n (by omega) (by omega) (by omega) (by omega) (by omega)), iZ_add]
  · show jX7_leastOfWeightOne_L2 (iZ q) h (f + 1) (iZ g) = _
    rw [jX7_leastOfWeightOne_L2, h6]
    by_cases e : g < n + 1
    · have hz := fnd_is (fun u => decide (W u = 1) && !decide (u = q)) (n + 1).toNat 0 (by omega)
      rw [hg, Bool.and_eq_true] at hz
      have e1 : W g = 1 := of_decide_eq_true hz.1
      have e2 : ¬ g = q := by simpa using hz.2
      rw [if_neg (le_n (by omega) (by omega) (by omega)), i12, if_neg (le_n (by omega) (by omega) (by omega)), inB_t (by omega) (by omega) (by omega), if_pos rfl, iZ_nat (by omega) (by omega), hW g (by omega) e, i1, if_pos (by rw [e1]), if_neg (eq_n (by omega) (by omega) (by omega) (by omega) (by omega)), if_pos e]
    · rw [if_pos (le_y (by omega) (by omega) (by omega)), if_neg e]; rfl
theorem x7_join (h6 : gI h (5, 0, 0) 6 = iZ (n + 1)) (hn : 0 ≤ n ∧ n ≤ 11) {a b e : Int} (h8 : gI h (5, 0, 0) 8 = iZ e) (e0 : 0 ≤ e) (e1 : e ≤ 10) (a0 : 0 ≤ a) (a1 : a ≤ n) (b0 : 0 ≤ b) (b1 : b ≤ n) {W : Int → Int} (hW : IsA h (5, 0, 5) (n + 1) W) (hab : a ≠ b) : jX7_join (iZ a) (iZ b) h = some (sI (sI (sI (sI (sI h (5, 0, 2) e.toNat (iZ a)) (5, 0, 3) e.toNat (iZ b)) (5, 0, 0) 8 (iZ (e + 1))) (5, 0, 5) a.toNat (iZ 0)) (5, 0, 5) b.toNat (iZ (W b - 1))) := by
  unfold jX7_join
  rw [x7_isNode h6 hn (by omega) (by omega), decide_eq_true ⟨a0, a1⟩, if_pos rfl, x7_isNode h6 hn (by omega) (by omega), decide_eq_true ⟨b0, b1⟩, if_pos rfl, h8, i11, if_neg (le_n (by omega) (by omega) (by omega)), inB_t (by omega) (by omega) (by omega), if_pos rfl, iZ_nat (by omega) (by omega), lt_eq, gI_ne _ (by decide), h8, inB_t (by omega) (by omega) (by omega), if_pos rfl, iZ_nat (by omega) (by omega), lt_eq, lt_eq, gI_ne _ (by decide), gI_ne _ (by decide), h8, i1, iZ_add, inB_t (by omega) (by omega) (by omega), if_pos rfl, iZ_nat (by omega) (by omega), lt_eq, inB_t (by omega) (by omega) (by omega), if_pos rfl, if_pos rfl, iZ_nat (by omega) (by omega), lt_eq, gI_nk _ _ _ (show b.toNat ≠ a.toNat by omega), gI_ne _ (by decide), gI_ne _ (by decide), gI_ne _ (by decide), hW b b0 (by omega), iZ_sub]
  rfl
end
/-- the class's tree after x edges -/
def GC (h : HD) (n m : Int) (cd : Int → Int) (x : Int) : Prop := gI h (5, 0, 0) 6 = iZ (n + 1) ∧ gI h (5, 0, 0) 7 = iZ m ∧ gI h (5, 0, 0) 8 = iZ x ∧ IsA h (5, 0, 1) m cd ∧ IsA h (5, 0, 2) x (lF n m cd) ∧ IsA h (5, 0, 3) x (eS n m cd)
theorem x7_isAtEdge {h : HD} {n m z v : Int} {cd : Int → Int} (hn : 0 ≤ n ∧ n ≤ 11) (hG : GC h n m cd n) (z0 : 0 ≤ z) (z1 : z < n) (hl : 0 ≤ lF n m cd z ∧ lF n m cd z ≤ n) (hs : 0 ≤ eS n m cd z ∧ eS n m cd z ≤ n) (v0 : -1 ≤ v) (v1 : v ≤ n) : jX7_isAtEdge (iZ v) (iZ z) h = some (decide (lF n m cd z = v ∨ eS n m cd z = v)) := by
  unfold jX7_isAtEdge
  rw [x7_isEdge hG.2.2.1 hn (by omega) (by omega), decide_eq_true ⟨z0, z1⟩, if_pos rfl, inB_t (by omega) (by omega) (by omega), if_pos rfl, if_pos rfl, iZ_nat (by omega) (by omega), hG.2.2.2.2.1 z z0 z1, hG.2.2.2.2.2 z z0 z1]
  by_cases q1 : lF n m cd z = v
  · rw [if_pos (by rw [q1]), decide_eq_true (Or.inl q1)]
  · rw [if_neg (eq_n (by omega) (by omega) (by omega) (by omega) (by omega))]
    by_cases q2 : eS n m cd z = v
    · rw [if_pos (by rw [q2]), decide_eq_true (Or.inr q2)]
    · rw [if_neg (eq_n (by omega) (by omega) (by omega) (by omega) (by omega)), decide_eq_false (fun c => c.elim q1 q2)]
theorem GC.jo {h : HD} {n m x w : Int} {cd : Int → Int} (hG : GC h n m cd x) (x0 : 0 ≤ x) (hx : x < 12) (w2 : Int32) (b : Nat) : GC (sI (sI (sI (sI (sI h (5, 0, 2) x.toNat (iZ (lF n m cd x))) (5, 0, 3) x.toNat (iZ (eS n m cd x))) (5, 0, 0) 8 (iZ (x + 1))) (5, 0, 5) w.toNat (iZ 0)) (5, 0, 5) b w2) n m cd (x + 1) := by
  obtain ⟨g1, g2, g3, g4, g5, g6⟩ := hG
  refine ⟨?_, ?_, ?_, ?_, ?_, ?_⟩
  · rw [gI_ne _ (by decide), gI_ne _ (by decide), gI_nk _ _ _ (by decide), gI_ne _ (by decide), gI_ne _ (by decide)]; exact g1
  · rw [gI_ne _ (by decide), gI_ne _ (by decide), gI_nk _ _ _ (by decide), gI_ne _ (by decide), gI_ne _ (by decide)]; exact g2
  · rw [gI_ne _ (by decide), gI_ne _ (by decide), gI_self]
  · exact ((((g4.ne (by decide) _ _).ne (by decide) _ _).ne (by decide) _ _).ne (by decide) _ _).ne (by decide) _ _
  · exact ((((g5.snoc x0 rfl).ne (by decide) _ _).ne (by decide) _ _).ne (by decide) _ _).ne (by decide) _ _
  · exact ((((g6.ne (by decide) _ _).snoc x0 rfl).ne (by decide) _ _).ne (by decide) _ _).ne (by decide) _ _
section
variable {h : HD} {n : Int} {pf : Int → Int}
theorem jo_fr (a b c d e : Nat) (v w x y z : Int32) : Fr sTr h (sI (sI (sI (sI (sI h (5, 0, 2) a v) (5, 0, 3) b w) (5, 0, 0) c x) (5, 0, 5) d y) (5, 0, 5) e z) := ((((Fr.rf.sI rfl _).sI rfl _).sI rfl _).sI rfl _).sI rfl _
/-- the weights before any edge -/
def up0 (cd : Int → Int) (x v : Int) : Int := 1 + sm_ (fun i => b1 (decide (cd i = v))) x
theorem up0_in {cd : Int → Int} {x : Int} (x0 : 0 ≤ x) (v : Int) : 1 ≤ up0 cd x v ∧ up0 cd x v ≤ 1 + x := by
  have := sm_bound (f := fun i => b1 (decide (cd i = v))) (m := 1) x0 (fun c _ _ => b1_in _)
  unfold up0
  omega
theorem up0_m {m : Int} {cd : Int → Int} (v : Int) : up0 cd m v = wC n m cd 0 v := by
  unfold up0 wC ocT
  rw [if_neg (show ¬ oT n m cd 0 v = true from Bool.false_ne_true)]
  congr 1
  refine sm_congr (fun c c0 c1 => ?_)
  by_cases q : cd c = v
  · rw [decide_eq_true q, decide_eq_true ⟨c0, q⟩]
  · rw [decide_eq_false q, decide_eq_false (fun e => q e.2)]
theorem x7_L45 {b m : Int} (hP : PrC h 0 n b pf) (ho : PrOk n b pf) (hm : m = mR n) (h6 : gI h (5, 0, 0) 6 = iZ (n + 1)) (h7 : gI h (5, 0, 0) 7 = iZ m) (h8 : gI h (5, 0, 0) 8 = iZ 0) (hW : IsA h (5, 0, 5) 12 (fun _ => 1)) (K : HD → Option HD) : ∃ h2, jX7_grow_L45 0 K FU (iZ 0) h = K h2 ∧ Fr sTr h h2 ∧ GC h2 n m (cdR n pf) 0 ∧ IsA h2 (5, 0, 5) (n + 1) (wC n m (cdR n pf) 0) := by
  have hn : 0 ≤ n ∧ n ≤ 11 := ⟨ho.1, ho.2.1⟩
  have hmi := mR_in hn.1
  rw [← hm] at hmi
  have hmk := mR_ok hn.1
  rw [← hm] at hmk
  refine loopI (fun f (x : Int32 × HD) => jX7_grow_L45 0 K f x.1 x.2) (fun y x => x.1 = iZ y ∧ Fr sTr h x.2 ∧ gI x.2 (5, 0, 0) 6 = iZ (n + 1) ∧ gI x.2 (5, 0, 0) 7 = iZ m ∧ gI x.2 (5, 0, 0) 8 = iZ 0 ∧ IsA x.2 (5, 0, 1) y (cdR n pf) ∧ IsA x.2 (5, 0, 5) (n + 1) (up0 (cdR n pf) y)) (a := 0) (b := m) (fun r => ∃ h2, r = K h2 ∧ Fr sTr h h2 ∧ GC h2 n m (cdR n pf) 0 ∧ IsA h2 (5, 0, 5) (n + 1) (wC n m (cdR n pf) 0)) (by omega) ?_ ?_ FU (iZ 0, h) (FU_gt (by omega)) ⟨rfl, Fr.rf, h6, h7, h8, fun z z0 z1 => by omega, fun z z0 z1 => by rw [hW z z0 (by show z < 12; omega)]; rfl⟩
  · intro f y x y0 y1 hI
    obtain ⟨x1, g⟩ := x
    obtain ⟨e, hF, g6, g7, g8, gA, gW⟩ := hI
    replace e : x1 = iZ y := e
    subst e
    replace hF : Fr sTr h g := hF
    replace g6 : gI g (5, 0, 0) 6 = iZ (n + 1) := g6
    replace g7 : gI g (5, 0, 0) 7 = iZ m := g7
    have hPg := hP.fr hF (sTr_1 0)
    have hc := cdR_in hn.1 pf y
    have hp1 := ho.2.2.2.2 (y + 1) (by omega) (by omega)
    have hp2 := ho.2.2.2.2 y (by omega) (by omega)
    obtain ⟨c, hcd⟩ : ∃ c, cdR n pf y = c := ⟨_, rfl⟩
    rw [hcd] at hc
    have gA2 : IsA (sI g (5, 0, 1) y.toNat (iZ c)) (5, 0, 1) (y + 1) (cdR n pf) := gA.snoc y0 (by rw [hcd])
    have gW2 : IsA (sI g (5, 0, 1) y.toNat (iZ c)) (5, 0, 5) (n + 1) (up0 (cdR n pf) y) := gW.ne (by decide) _ _
    have hu := up0_in (cd := cdR n pf) y0 c
    refine ⟨(iZ (y + 1), sI (sI g (5, 0, 1) y.toNat (iZ c)) (5, 0, 5) c.toNat (iZ (up0 (cdR n pf) y c + 1))), ?_, rfl, (hF.sI rfl _).sI rfl _, ?_, ?_, ?_, gA2.ne (by decide) _ _, ?_⟩
    · show jX7_grow_L45 0 K (f + 1) (iZ y) g = _
      rw [jX7_grow_L45, g7, if_neg (le_n (by omega) (by omega) (by omega)), i11, if_neg (le_n (by omega) (by omega) (by omega)), i1, iZ_add, x2_pref hPg hn (by omega) (by omega), Option.bind_some, x2_pref hPg hn (by omega) (by omega), Option.bind_some, iZ_sub, g6, w_wrapped g (by omega) (by omega) (by omega) (by omega), Option.bind_some]
      have hcd2 : (pf (y + 1) - pf y) % (n + 1) = c := hcd
      rw [hcd2, inB_t (by omega) (by omega) (by omega), if_pos rfl, iZ_nat (by omega) (by omega), lt_eq, x7_isNode (n := n) ((gI_ne _ (by decide) _ _ _).trans g6) hn (by omega) (by omega), decide_eq_true hc, if_pos rfl, inB_t (by omega) (by omega) (by omega), if_pos rfl, if_pos rfl, iZ_nat (by omega) (by omega), lt_eq, gW2 c hc.1 (by omega), iZ_add]
    · show gI (sI (sI g (5, 0, 1) _ _) (5, 0, 5) _ _) _ _ = _
      rw [gI_ne _ (by decide), gI_ne _ (by decide)]; exact g6
    · show gI (sI (sI g (5, 0, 1) _ _) (5, 0, 5) _ _) _ _ = _
      rw [gI_ne _ (by decide), gI_ne _ (by decide)]; exact g7
    · show gI (sI (sI g (5, 0, 1) _ _) (5, 0, 5) _ _) _ _ = _
      rw [gI_ne _ (by decide), gI_ne _ (by decide)]; exact g8
    · refine (gW2.put hc.1 _).eq (fun v v0 v1 => ?_)
      show (if v = c then up0 (cdR n pf) y c + 1 else up0 (cdR n pf) y v) = up0 (cdR n pf) (y + 1) v
      unfold up0
      rw [sm_s _ y0, hcd]
      by_cases q : v = c
      · rw [if_pos q, q, decide_eq_true rfl]
        show _ = 1 + (_ + 1)
        omega
      · rw [if_neg q, decide_eq_false (fun e => q e.symm)]
        show _ = 1 + (_ + 0)
        omega
  · intro f x hI
    obtain ⟨x1, g⟩ := x
    obtain ⟨e, hF, g6, g7, g8, gA, gW⟩ := hI
    replace e : x1 = iZ m := e
    subst e
    replace g7 : gI g (5, 0, 0) 7 = iZ m := g7
    refine ⟨g, ?_, hF, ⟨g6, g7, g8, gA, fun z z0 z1 => by omega, fun z z0 z1 => by omega⟩, gW.eq (fun v _ _ => up0_m v)⟩
    show jX7_grow_L45 0 K (f + 1) (iZ m) g = _
    rw [jX7_grow_L45, g7, if_pos (le_y (by omega) (by omega) (by omega))]
/-- the leaf that the class finds -/
theorem x7_leaf {m x : Int} {cd : Int → Int} (hn : 0 ≤ n ∧ n ≤ 11) (hm : 0 ≤ m) (hmn : m ≤ n) (hcd : ∀ i, 0 ≤ i → i < m → 0 ≤ cd i ∧ cd i ≤ n) (h6 : gI h (5, 0, 0) 6 = iZ (n + 1)) (hW : IsA h (5, 0, 5) (n + 1) (wC n m cd x)) (x0 : 0 ≤ x) (x1 : x ≤ m) : jX7_leastOfWeightOne (-1 : Int32) h = some (iZ (lF n m cd x)) := by
  have hL := tr_L hn.1 hm hmn hcd x0 x1
  have := x7_least h6 hn hW (fun v _ _ => by have := wC_in (n := n) (cd := cd) hm x v; omega) (q := -1) (by omega) (by omega)
  have e : fnd (fun u => decide (wC n m cd x u = 1) && !decide (u = -1)) (n + 1).toNat 0 = lF n m cd x := by
    unfold lF
    refine fnd_congr (fun z z0 z1 => ?_)
    rw [wC_1 hm, decide_eq_false (show ¬ z = -1 by omega), Bool.not_false, Bool.and_true]
  rw [e, if_pos (by have := hL.1.2; omega)] at this
  exact this
theorem wC_s {m x : Int} {cd : Int → Int} (h1 : 1 ≤ n) (hm : m = n - 1) (hcd : ∀ i, 0 ≤ i → i < m → 0 ≤ cd i ∧ cd i ≤ n) (x0 : 0 ≤ x) (x1 : x < m) {g : HD} (hW : IsA g (5, 0, 5) (n + 1) (wC n m cd x)) : IsA (sI (sI g (5, 0, 5) (lF n m cd x).toNat (iZ 0)) (5, 0, 5) (cd x).toNat (iZ (wC n m cd x (cd x) - 1))) (5, 0, 5) (n + 1) (wC n m cd (x + 1)) := by
  have hL := tr_L (cd := cd) (show 0 ≤ n by omega) (show 0 ≤ m by omega) (by omega) hcd x0 (by omega)
  have hE := tr_e h1 hm hcd x0 (show x ≤ m by omega)
  have hc := hcd x x0 x1
  refine ((hW.put hL.1.1 0).put hc.1 (wC n m cd x (cd x) - 1)).eq (fun v v0 v1 => ?_)
  show (if v = cd x then wC n m cd x (cd x) - 1 else if v = lF n m cd x then 0 else wC n m cd x v) = wC n m cd (x + 1) v
  have es : eS n m cd x = cd x := by unfold eS; rw [if_pos x1]
  rw [es] at hE
  unfold wC
  rw [oT_s n m cd x0]
  have ho := oc_s (cd := cd) (k := x) (show 0 ≤ m by omega) x0 x1 v
  by_cases q : v = cd x
  · rw [if_pos q, ← q]
    have hv : oT n m cd x v = false := by
      have h5 := hE.2.1
      rw [oT_s n m cd x0, ← q, Bool.or_eq_false_iff] at h5
      exact h5.1
    have hvl : ¬ v = lF n m cd x := fun e => hE.2.2 (by rw [← e, q])
    rw [hv, decide_eq_false hvl, if_neg Bool.false_ne_true, Bool.or_false, if_neg Bool.false_ne_true, ho, decide_eq_true q.symm]
    show 1 + (_ + 1) - 1 = _
    omega
  · rw [if_neg q]
    by_cases r : v = lF n m cd x
    · rw [if_pos r, decide_eq_true r, Bool.or_true, if_pos rfl]
    · rw [if_neg r, decide_eq_false r, Bool.or_false, ho, decide_eq_false (fun e => q e.symm), b1_f, Int.add_zero]
theorem x7_L113 {m : Int} {cd : Int → Int} (hn : 0 ≤ n ∧ n ≤ 11) (hmk : n = 0 ∨ (1 ≤ n ∧ m = n - 1)) (hm0 : 0 ≤ m) (hmn : m ≤ n) (hcd : ∀ i, 0 ≤ i → i < m → 0 ≤ cd i ∧ cd i ≤ n) (hG : GC h n m cd 0) (hW : IsA h (5, 0, 5) (n + 1) (wC n m cd 0)) (K : HD → Option HD) : ∃ h2, jX7_grow_L113 0 K FU (iZ 0) h = K h2 ∧ Fr sTr h h2 ∧ GC h2 n m cd m ∧ IsA h2 (5, 0, 5) (n + 1) (wC n m cd m) := by
  refine loopI (fun f (x : Int32 × HD) => jX7_grow_L113 0 K f x.1 x.2) (fun y x => x.1 = iZ y ∧ Fr sTr h x.2 ∧ GC x.2 n m cd y ∧ IsA x.2 (5, 0, 5) (n + 1) (wC n m cd y)) (a := 0) (b := m) (fun r => ∃ h2, r = K h2 ∧ Fr sTr h h2 ∧ GC h2 n m cd m ∧ IsA h2 (5, 0, 5) (n + 1) (wC n m cd m)) hm0 ?_ ?_ FU (iZ 0, h) (FU_gt (by omega)) ⟨rfl, Fr.rf, hG, hW⟩
  · intro f y x y0 y1 hI
    obtain ⟨x1, g⟩ := x
    obtain ⟨e, hF, gG, gW⟩ := hI
    replace e : x1 = iZ y := e
    subst e
    replace hF : Fr sTr h g := hF
    replace gG : GC g n m cd y := gG
    replace gW : IsA g (5, 0, 5) (n + 1) (wC n m cd y) := gW
    have h1 : 1 ≤ n := by omega
    have hm1 := (hmk.resolve_left (by omega)).2
    have hL := tr_L hn.1 hm0 hmn hcd y0 (show y ≤ m by omega)
    have hE := tr_e h1 hm1 hcd y0 (show y ≤ m by omega)
    have hc := hcd y y0 y1
    have es : eS n m cd y = cd y := by unfold eS; rw [if_pos y1]
    have hj := x7_join gG.1 hn (a := lF n m cd y) (b := cd y) gG.2.2.1 y0 (by omega) hL.1.1 hL.1.2 hc.1 hc.2 gW (by rw [← es]; exact hE.2.2)
    refine ⟨(iZ (y + 1), sI (sI (sI (sI (sI g (5, 0, 2) y.toNat (iZ (lF n m cd y))) (5, 0, 3) y.toNat (iZ (eS n m cd y))) (5, 0, 0) 8 (iZ (y + 1))) (5, 0, 5) (lF n m cd y).toNat (iZ 0)) (5, 0, 5) (cd y).toNat (iZ (wC n m cd y (cd y) - 1))), ?_, rfl, hF.tr (jo_fr _ _ _ _ _ _ _ _ _ _), gG.jo y0 (by omega) _ _, ?_⟩
    · show jX7_grow_L113 0 K (f + 1) (iZ y) g = _
      rw [jX7_grow_L113, gG.2.1, if_neg (le_n (by omega) (by omega) (by omega)), x7_leaf hn hm0 hmn hcd gG.1 gW y0 (by omega), Option.bind_some, x7_numAt gG.2.1 ⟨hm0, by omega⟩ gG.2.2.2.1 (by omega) (by omega), if_pos ⟨y0, y1⟩, Option.bind_some, hj, Option.bind_some, i1, iZ_add, es]
    · exact wC_s h1 hm1 hcd y0 y1 (((gW.ne (by decide) _ _).ne (by decide) _ _).ne (by decide) _ _)
  · intro f x hI
    obtain ⟨x1, g⟩ := x
    obtain ⟨e, hF, gG, gW⟩ := hI
    replace e : x1 = iZ m := e
    subst e
    replace gG : GC g n m cd m := gG
    refine ⟨g, ?_, hF, gG, gW⟩
    show jX7_grow_L113 0 K (f + 1) (iZ m) g = _
    rw [jX7_grow_L113, gG.2.1, if_pos (le_y (by omega) (by omega) (by omega))]
/-- the last edge -/
theorem x7_last {m : Int} {cd : Int → Int} (hn : 0 ≤ n ∧ n ≤ 11) (hmk : n = 0 ∨ (1 ≤ n ∧ m = n - 1)) (hm0 : 0 ≤ m) (hmn : m ≤ n) (hcd : ∀ i, 0 ≤ i → i < m → 0 ≤ cd i ∧ cd i ≤ n) (hz : n = 0 → m = 0) (hG : GC h n m cd m) (hW : IsA h (5, 0, 5) (n + 1) (wC n m cd m)) : ∃ h2, ((jX7_leastOfWeightOne (-1 : Int32) h).bind fun q18 => (jX7_leastOfWeightOne q18 h).bind fun q19 => (jX7_join q18 q19 h).bind fun q20 => some q20) = some h2 ∧ Fr sTr h h2 ∧ GC h2 n m cd n := by
  have hL := tr_L hn.1 hm0 hmn hcd hm0 (Int.le_refl m)
  rw [x7_leaf hn hm0 hmn hcd hG.1 hW hm0 (Int.le_refl m), Option.bind_some]
  have h2 := x7_least hG.1 hn hW (fun v _ _ => by have := wC_in (n := n) (cd := cd) hm0 m v; omega) (q := lF n m cd m) (by have := hL.1.1; omega) (by have := hL.1.2; omega)
  have e : fnd (fun u => decide (wC n m cd m u = 1) && !decide (u = lF n m cd m)) (n + 1).toNat 0 = bF n m cd := by
    unfold bF
    refine fnd_congr (fun z z0 z1 => ?_)
    rw [wC_1 hm0, oc_m z hm0, oT_s n m cd hm0, decide_eq_true rfl, Bool.and_true, Bool.not_or]
  rw [e] at h2
  rcases hmk with h0 | ⟨h1, hm1⟩
  · have m0 := hz h0
    have l0 : lF n m cd m = 0 := by have := hL.1; omega
    have b1 : ¬ bF n m cd < n + 1 := fun q => by
      have g := fnd_ge (fun u => !oT n m cd (m + 1) u) (n + 1).toNat 0
      have hb := fnd_is (fun u => !oT n m cd (m + 1) u) (n + 1).toNat 0 (by unfold bF at q; omega)
      have e0 : fnd (fun u => !oT n m cd (m + 1) u) (n + 1).toNat 0 = 0 := by unfold bF at q; omega
      rw [e0, oT_s n m cd hm0, l0, decide_eq_true rfl, Bool.or_true] at hb
      cases hb
    rw [if_neg b1] at h2
    have kx : ∀ x, x = m → GC h n m cd x := fun x hx => by rw [hx]; exact hG
    refine ⟨h, ?_, Fr.rf, kx n (by omega)⟩
    rw [h2, Option.bind_some]
    unfold jX7_join
    rw [x7_isNode hG.1 hn (by omega) (by omega), x7_isNode hG.1 hn (by omega) (by omega), decide_eq_false (show ¬ (0 ≤ (-1 : Int) ∧ (-1 : Int) ≤ n) by omega), if_neg Bool.false_ne_true]
    split <;> rfl
  · have hb := tr_b h1 hm1 hcd
    have hE := tr_e h1 hm1 hcd hm0 (Int.le_refl m)
    have es : eS n m cd m = bF n m cd := by unfold eS; rw [if_neg (Int.lt_irrefl _)]
    rw [if_pos (by omega)] at h2
    have hj := x7_join hG.1 hn (a := lF n m cd m) (b := bF n m cd) hG.2.2.1 hm0 (by omega) hL.1.1 hL.1.2 hb.1.1 hb.1.2 hW (by rw [← es]; exact hE.2.2)
    refine ⟨sI (sI (sI (sI (sI h (5, 0, 2) m.toNat (iZ (lF n m cd m))) (5, 0, 3) m.toNat (iZ (eS n m cd m))) (5, 0, 0) 8 (iZ (m + 1))) (5, 0, 5) (lF n m cd m).toNat (iZ 0)) (5, 0, 5) (bF n m cd).toNat (iZ (wC n m cd m (bF n m cd) - 1)), ?_, jo_fr _ _ _ _ _ _ _ _ _ _, ?_⟩
    · rw [h2, Option.bind_some, hj, es]
      rfl
    · have := hG.jo hm0 (by omega) (w := lF n m cd m) (iZ (wC n m cd m (bF n m cd) - 1)) (bF n m cd).toNat
      refine (?_ : ∀ x, x = m + 1 → GC _ n m cd x) n (by omega)
      intro x hx
      rw [hx]
      exact this
theorem x7_grow {b : Int} (hP : PrC h 0 n b pf) (ho : PrOk n b pf) : ∃ h2, jX7_grow 0 h = some h2 ∧ Fr sTr h h2 ∧ GC h2 n (mR n) (cdR n pf) n := by
  have hn : 0 ≤ n ∧ n ≤ 11 := ⟨ho.1, ho.2.1⟩
  have hmi := mR_in hn.1
  have hmk := mR_ok hn.1
  have hcd : ∀ i, 0 ≤ i → i < mR n → 0 ≤ cdR n pf i ∧ cdR n pf i ≤ n := fun i _ _ => cdR_in hn.1 pf i
  have key : ∀ v : Int32, v = iZ (mR n) → ∃ h2, (lt (sI (sI h (5, 0, 0) 6 (iZ (n + 1))) (5, 0, 0) 7 v) fun h2 => lt (sI h2 (5, 0, 0) 8 (0 : Int32)) fun h3 => (jJ7_fill_53178 (5, 0, 5) (1 : Int32) h3).bind fun q4 => jX7_grow_L45 0 (fun h13 => jX7_grow_L113 0 (fun h17 => (jX7_leastOfWeightOne (-1 : Int32) h17).bind fun q18 => (jX7_leastOfWeightOne q18 h17).bind fun q19 => (jX7_join q18 q19 h17).bind fun q20 => some q20) FU (0 : Int32) h13) FU (0 : Int32) q4) = some h2 ∧ Fr sTr h h2 ∧ GC h2 n (mR n) (cdR n pf) n := by
    intro v hv
    subst hv
    obtain ⟨g0, hg0⟩ : ∃ g0, g0 = sI (sI (sI h (5, 0, 0) 6 (iZ (n + 1))) (5, 0, 0) 7 (iZ (mR n))) (5, 0, 0) 8 (iZ 0) := ⟨_, rfl⟩
    have f0 : Fr sTr h g0 := by rw [hg0]; exact ((Fr.rf.sI rfl _).sI rfl _).sI rfl _
    obtain ⟨g1, e1, f1, w1⟩ := j_fill (5, 0, 5) 1 (n := 12) rfl (by decide) g0
    have F1 : Fr sTr g0 g1 := f1.mono fun r k q => decide_eq_false fun e => by rw [e] at q; cases q
    have P1 := hP.fr (f0.tr F1) (sTr_1 0)
    have c6 : gI g1 (5, 0, 0) 6 = iZ (n + 1) := by rw [f1.1 _ _ rfl, hg0, gI_nk _ _ _ (by decide), gI_nk _ _ _ (by decide), gI_self]
    have c7 : gI g1 (5, 0, 0) 7 = iZ (mR n) := by rw [f1.1 _ _ rfl, hg0, gI_nk _ _ _ (by decide), gI_self]
    have c8 : gI g1 (5, 0, 0) 8 = iZ 0 := by rw [f1.1 _ _ rfl, hg0, gI_self]
    have k45 := fun K => x7_L45 (K := K) P1 ho rfl c6 c7 c8 w1
    obtain ⟨g2, e2, F2, G2, W2⟩ := k45 (fun h13 => jX7_grow_L113 0 (fun h17 => (jX7_leastOfWeightOne (-1 : Int32) h17).bind fun q18 => (jX7_leastOfWeightOne q18 h17).bind fun q19 => (jX7_join q18 q19 h17).bind fun q20 => some q20) FU (iZ 0) h13)
    have k107 := fun K => x7_L113 (K := K) hn hmk hmi.1 hmi.2 hcd G2 W2
    obtain ⟨g3, e3, F3, G3, W3⟩ := k107 (fun h17 => (jX7_leastOfWeightOne (-1 : Int32) h17).bind fun q18 => (jX7_leastOfWeightOne q18 h17).bind fun q19 => (jX7_join q18 q19 h17).bind fun q20 => some q20)
    obtain ⟨g4, e4, F4, G4⟩ := x7_last hn hmk hmi.1 hmi.2 hcd (fun e => by rw [e]; rfl) G3 W3
    refine ⟨g4, ?_, (((f0.tr F1).tr F2).tr F3).tr F4, G4⟩
    have e1' : jJ7_fill_53178 (5, 0, 5) (1 : Int32) g0 = some g1 := e1
    rw [lt_eq, lt_eq, i0, ← hg0, e1', Option.bind_some, e2, e3, e4]
  have hs : jX2_spots 0 h = iZ (n + 1) := by unfold jX2_spots; rw [hP.1, i1, iZ_add]
  have hc : ∀ v, jX2_count 0 (sI h (5, 0, 0) 6 v) = iZ n := fun v => by unfold jX2_count; rw [gI_ne _ (by decide)]; exact hP.1
  unfold jX7_grow
  rw [hs, lt_eq, hc]
  by_cases q : n ≤ 1
  · rw [i1, if_pos (le_y (by omega) (by omega) (by omega)), ← i1]
    exact key 0 (by unfold mR; rw [if_pos q]; rfl)
  · rw [i1, if_neg (le_n (by omega) (by omega) (by omega)), iZ_sub, ← i1]
    exact key (iZ (n - 1)) (by unfold mR; rw [if_neg q])
end
