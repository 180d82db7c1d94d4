/-! THE REFERENCE'S TREE -/
def sTm : Rf → Nat → Bool := fun r k => Nat.beq r.1 7 && ((Nat.ble 18 r.2.2 && Nat.ble r.2.2 24) || (Nat.beq r.2.2 0 && Nat.beq k 38))
theorem sTm_scr {h h2 : HD} (hF : Fr sTm h h2) : Fr scr h h2 := hF.mono fun r k q => by
  unfold sTm
  cases e7 : Nat.beq r.1 7
  · rfl
  · have e := Nat.eq_of_beq_eq_true e7
    obtain ⟨a, b, c⟩ := r
    replace e : a = 7 := e
    subst e
    cases ha : (Nat.ble 18 c && Nat.ble c 24)
    · cases hb : (Nat.beq c 0 && Nat.beq k 38)
      · rfl
      · rw [Bool.and_eq_true] at hb
        rw [Nat.eq_of_beq_eq_true hb.1, Nat.eq_of_beq_eq_true hb.2] at q
        cases q
    · rw [Bool.and_eq_true] at ha
      have h1 := Nat.le_of_ble_eq_true ha.1
      have h2 := Nat.le_of_ble_eq_true ha.2
      have : c = 18 ∨ c = 19 ∨ c = 20 ∨ c = 21 ∨ c = 22 ∨ c = 23 ∨ c = 24 := by omega
      rcases this with e | e | e | e | e | e | e <;> · rw [e] at q; cases q
theorem vb0 : vp_nar .boolean (0 : Int32) = iZ 0 := by decide
theorem vb1 : vp_nar .boolean (1 : Int32) = iZ 1 := by decide
def TM (h : HD) (n m : Int) (cd : Int → Int) (x : Int) : Prop := gI h (7, 0, 0) 38 = iZ x ∧ IsA h (7, 0, 19) x (lo n m cd) ∧ IsA h (7, 0, 20) x (hi n m cd)
/-- who is out, and the weights of those who are not -/
def WM (h : HD) (n : Int) (o : Int → Bool) (w : Int → Int) : Prop := IsA h (7, 0, 23) (n + 1) (fun v => b1 (o v)) ∧ ∀ v, 0 ≤ v → v < n + 1 → o v = false → gI h (7, 0, 18) v.toNat = iZ (w v)
section
variable {h : HD} {n b : Int} {pf : Int → Int}
theorem x9_codes (hR : PrM h n b pf) (hn : 0 ≤ n ∧ n ≤ 11) : jX9_codes h = some (iZ (mR n)) := by
  unfold jX9_codes mR
  rw [hR.1, i1]
  by_cases q : n ≤ 1
  · rw [if_pos (le_y (by omega) (by omega) (by omega)), if_pos q]; rfl
  · rw [if_neg (le_n (by omega) (by omega) (by omega)), if_neg q, iZ_sub]
theorem x9_codeAt (hR : PrM h n b pf) (ho : PrOk n b pf) {x : Int} (x0 : 0 ≤ x) (x1 : x < mR n) : jX9_codeAt (iZ x) h = some (iZ (cdR n pf x)) := by
  have hn : 0 ≤ n ∧ n ≤ 11 := ⟨ho.1, ho.2.1⟩
  have hx : x + 1 < n := by unfold mR at x1; split at x1 <;> omega
  have hp1 := ho.2.2.2.2 (x + 1) (by omega) hx
  have hp2 := ho.2.2.2.2 x x0 (by omega)
  unfold jX9_codeAt
  rw [i1, iZ_add, x9_wish hR hn (by omega) hx, Option.bind_some, x9_wish hR hn x0 (by omega), Option.bind_some, iZ_sub, x9_round hR hn (by omega) (by omega)]
  rfl
theorem x9_lesser (h : HD) {a b : Int} (a0 : 0 ≤ a) (a1 : a ≤ 100) (b0 : 0 ≤ b) (b1 : b ≤ 100) : jX9_lesser (iZ a) (iZ b) h = iZ (if a < b then a else b) := by
  unfold jX9_lesser
  by_cases q : a < b
  · rw [if_neg (le_n (by omega) (by omega) (by omega)), if_pos q]
  · rw [if_pos (le_y (by omega) (by omega) (by omega)), if_neg q]
theorem x9_joins {e l s : Int} (h8 : gI h (7, 0, 0) 38 = iZ e) (e0 : 0 ≤ e) (e1 : e ≤ 10) (l0 : 0 ≤ l) (l1 : l ≤ 11) (s0 : 0 ≤ s) (s1 : s ≤ 11) : jX9_joins (iZ l) (iZ s) h = some (sI (sI (sI h (7, 0, 19) e.toNat (iZ (if l < s then l else s))) (7, 0, 20) e.toNat (iZ (if l < s then s else l))) (7, 0, 0) 38 (iZ (e + 1))) := by
  unfold jX9_joins
  rw [h8, inB_t (by omega) (by omega) (by omega), if_pos rfl, iZ_nat (by omega) (by omega), x9_lesser h l0 (by omega) s0 (by omega), lt_eq, gI_ne _ (by decide), h8, inB_t (by omega) (by omega) (by omega), if_pos rfl, iZ_nat (by omega) (by omega), x9_lesser _ l0 (by omega) s0 (by omega), iZ_add, iZ_sub, lt_eq, lt_eq, gI_ne _ (by decide), gI_ne _ (by decide), h8, i1, iZ_add]
  by_cases q : l < s
  · rw [if_pos q, if_pos q, show l + s - l = s by omega]
  · rw [if_neg q, if_neg q, show l + s - s = l by omega]
theorem TM.jo {m x : Int} {cd : Int → Int} (hT : TM h n m cd x) (x0 : 0 ≤ x) : TM (sI (sI (sI h (7, 0, 19) x.toNat (iZ (if lF n m cd x < eS n m cd x then lF n m cd x else eS n m cd x))) (7, 0, 20) x.toNat (iZ (if lF n m cd x < eS n m cd x then eS n m cd x else lF n m cd x))) (7, 0, 0) 38 (iZ (x + 1))) n m cd (x + 1) := by
  obtain ⟨t1, t2, t3⟩ := hT
  exact ⟨gI_self _ _ _ _, ((t2.snoc x0 rfl).ne (by decide) _ _).ne (by decide) _ _, ((t3.ne (by decide) _ _).snoc x0 rfl).ne (by decide) _ _⟩
theorem x9_leaf {o : Int → Bool} {w : Int → Int} (hR : PrM h n b pf) (hn : 0 ≤ n ∧ n ≤ 11) (hW : WM h n o w) (hb : ∀ v, 0 ≤ v → v ≤ n → 0 ≤ w v ∧ w v ≤ 100) : jX9_leastLeaf h = some (iZ (if fnd (fun u => !o u && decide (w u = 1)) (n + 1).toNat 0 < n + 1 then fnd (fun u => !o u && decide (w u = 1)) (n + 1).toNat 0 else -1)) := by
  obtain ⟨g, hg⟩ : ∃ g, fnd (fun u => !o u && decide (w u = 1)) (n + 1).toNat 0 = g := ⟨_, rfl⟩
  have g1 := fnd_ge (fun u => !o u && decide (w u = 1)) (n + 1).toNat 0
  rw [hg] at g1 ⊢
  unfold jX9_leastLeaf
  rw [i0]
  have c23 : ∀ z, 0 ≤ z → z < n + 1 → gI h (7, 0, 23) z.toNat = iZ (b1 (o z)) := hW.1
  refine loopN (fun f (x : Int32) => jX9_leastLeaf_L2 h f x) iZ (a := 0) (b := g) (by omega) (fun f z z0 z1 => ?_) (fun f => ?_) FU (FU_gt (by omega))
  · show jX9_leastLeaf_L2 h (f + 1) (iZ z) = _
    have hz := fnd_not (fun u => !o u && decide (w u = 1)) (n + 1).toNat 0 z z0 (by omega)
    have hwz := hb z z0 (by omega)
    rw [jX9_leastLeaf_L2, x9_spots hR, Option.bind_some, if_neg (le_n (by omega) (by omega) (by omega)), inB_t (by omega) (by omega) (by omega), if_pos rfl, iZ_nat (by omega) (by omega), c23 z z0 (by omega)]
    cases e : o z
    · rw [if_pos (show iZ (b1 false) = 0 from rfl), if_pos rfl, hW.2 z z0 (by omega) e, i1]
      rw [e] at hz
      have e1 : ¬ w z = 1 := by simpa using hz
      rw [if_neg (eq_n (by omega) (by omega) (by omega) (by omega) (by omega)), iZ_add]
    · rw [if_neg (show ¬ iZ (b1 true) = 0 by decide), i1, iZ_add]
  · show jX9_leastLeaf_L2 h (f + 1) (iZ g) = _
    rw [jX9_leastLeaf_L2, x9_spots hR, Option.bind_some]
    by_cases e : g < n + 1
    · have hz := fnd_is (fun u => !o u && decide (w u = 1)) (n + 1).toNat 0 (by omega)
      rw [hg, Bool.and_eq_true] at hz
      have e1 : w g = 1 := of_decide_eq_true hz.2
      have e2 : o g = false := by simpa using hz.1
      rw [if_neg (le_n (by omega) (by omega) (by omega)), inB_t (by omega) (by omega) (by omega), if_pos rfl, iZ_nat (by omega) (by omega), c23 g (by omega) e, e2, if_pos (show iZ (b1 false) = 0 from rfl), if_pos rfl, hW.2 g (by omega) e e2, i1, if_pos (by rw [e1]), if_pos e]
    · rw [if_pos (le_y (by omega) (by omega) (by omega)), if_neg e]; rfl
theorem x9_L7 (hR : PrM h n b pf) (hn : 0 ≤ n ∧ n ≤ 11) (K : HD → Option HD) : ∃ h2, jX9_grows_L7 K FU (iZ 0) h = K h2 ∧ Fr sTm h h2 ∧ gI h2 (7, 0, 0) 38 = gI h (7, 0, 0) 38 ∧ IsA h2 (7, 0, 18) (n + 1) (fun _ => 1) ∧ IsA h2 (7, 0, 23) (n + 1) (fun _ => 0) := by
  refine loopI (fun f (x : Int32 × HD) => jX9_grows_L7 K f x.1 x.2) (fun y x => x.1 = iZ y ∧ Fr sTm h x.2 ∧ gI x.2 (7, 0, 0) 38 = gI h (7, 0, 0) 38 ∧ IsA x.2 (7, 0, 18) y (fun _ => 1) ∧ IsA x.2 (7, 0, 23) y (fun _ => 0)) (a := 0) (b := n + 1) (fun r => ∃ h2, r = K h2 ∧ Fr sTm h h2 ∧ gI h2 (7, 0, 0) 38 = gI h (7, 0, 0) 38 ∧ IsA h2 (7, 0, 18) (n + 1) (fun _ => 1) ∧ IsA h2 (7, 0, 23) (n + 1) (fun _ => 0)) (by omega) ?_ ?_ FU (iZ 0, h) (FU_gt (by omega)) ⟨rfl, Fr.rf, rfl, fun z z0 z1 => by omega, fun z z0 z1 => by omega⟩
  · intro f y x y0 y1 hI
    obtain ⟨x1, g⟩ := x
    obtain ⟨e, hF, g38, gA, gB⟩ := hI
    replace e : x1 = iZ y := e
    subst e
    replace hF : Fr sTm h g := hF
    refine ⟨(iZ (y + 1), sI (sI g (7, 0, 18) y.toNat (iZ 1)) (7, 0, 23) y.toNat (iZ 0)), ?_, rfl, (hF.sI rfl _).sI rfl _, ?_, (gA.snoc y0 rfl).ne (by decide) _ _, (gB.ne (by decide) _ _).snoc y0 rfl⟩
    · show jX9_grows_L7 K (f + 1) (iZ y) g = _
      rw [jX9_grows_L7, x9_spots (hR.fr hF (fun _ => rfl)), Option.bind_some, if_neg (le_n (by omega) (by omega) (by omega)), inB_t (by omega) (by omega) (by omega), if_pos rfl, iZ_nat (by omega) (by omega), lt_eq, if_pos rfl, lt_eq, vb0, i1, iZ_add]
    · show gI (sI (sI g (7, 0, 18) _ _) (7, 0, 23) _ _) _ _ = _
      rw [gI_ne _ (by decide), gI_ne _ (by decide)]
      exact g38
  · intro f x hI
    obtain ⟨x1, g⟩ := x
    obtain ⟨e, hF, g38, gA, gB⟩ := hI
    replace e : x1 = iZ (n + 1) := e
    subst e
    replace hF : Fr sTm h g := hF
    refine ⟨g, ?_, hF, g38, gA, gB⟩
    show jX9_grows_L7 K (f + 1) (iZ (n + 1)) g = _
    rw [jX9_grows_L7, x9_spots (hR.fr hF (fun _ => rfl)), Option.bind_some, if_pos (le_y (by omega) (by omega) (by omega))]
theorem x9_L37 (hR : PrM h n b pf) (ho : PrOk n b pf) (hA : IsA h (7, 0, 18) (n + 1) (fun _ => 1)) (K : HD → Option HD) : ∃ h2, jX9_grows_L37 K FU (iZ 0) h = K h2 ∧ Fr (fun r _ => decide (r = (7, 0, 18))) h h2 ∧ IsA h2 (7, 0, 18) (n + 1) (wC n (mR n) (cdR n pf) 0) := by
  have hn : 0 ≤ n ∧ n ≤ 11 := ⟨ho.1, ho.2.1⟩
  have hmi := mR_in hn.1
  refine loopI (fun f (x : Int32 × HD) => jX9_grows_L37 K f x.1 x.2) (fun y x => x.1 = iZ y ∧ Fr (fun r _ => decide (r = (7, 0, 18))) h x.2 ∧ IsA x.2 (7, 0, 18) (n + 1) (up0 (cdR n pf) y)) (a := 0) (b := mR n) (fun r => ∃ h2, r = K h2 ∧ Fr (fun r _ => decide (r = (7, 0, 18))) h h2 ∧ IsA h2 (7, 0, 18) (n + 1) (wC n (mR n) (cdR n pf) 0)) (by omega) ?_ ?_ FU (iZ 0, h) (FU_gt (by omega)) ⟨rfl, Fr.rf, fun z z0 z1 => by rw [hA z z0 z1]; rfl⟩
  · intro f y x y0 y1 hI
    obtain ⟨x1, g⟩ := x
    obtain ⟨e, hF, gA⟩ := hI
    replace e : x1 = iZ y := e
    subst e
    replace hF : Fr (fun r _ => decide (r = (7, 0, 18))) h g := hF
    replace gA : IsA g (7, 0, 18) (n + 1) (up0 (cdR n pf) y) := gA
    have hRg := hR.fr hF (fun _ => rfl)
    have hc := cdR_in hn.1 pf y
    obtain ⟨c, hcd⟩ : ∃ c, cdR n pf y = c := ⟨_, rfl⟩
    rw [hcd] at hc
    have hu := up0_in (cd := cdR n pf) y0 c
    refine ⟨(iZ (y + 1), sI g (7, 0, 18) c.toNat (iZ (up0 (cdR n pf) y c + 1))), ?_, rfl, hF.sI rfl _, ?_⟩
    · show jX9_grows_L37 K (f + 1) (iZ y) g = _
      rw [jX9_grows_L37, x9_codes hRg hn, Option.bind_some, if_neg (le_n (by omega) (by omega) (by omega)), x9_codeAt hRg ho y0 y1, Option.bind_some, hcd, inB_t (by omega) (by omega) (by omega), if_pos rfl, if_pos rfl, iZ_nat (by omega) (by omega), gA c hc.1 (by omega), i1, iZ_add, lt_eq, iZ_add]
    · refine (gA.put hc.1 _).eq (fun v v0 v1 => ?_)
      show (if v = c then up0 (cdR n pf) y c + 1 else up0 (cdR n pf) y v) = up0 (cdR n pf) (y + 1) v
      unfold up0
      rw [sm_s _ y0, hcd]
      by_cases q : v = c
      · rw [if_pos q, q, decide_eq_true rfl]
        show _ = 1 + (_ + 1)
        omega
      · rw [if_neg q, decide_eq_false (fun e => q e.symm)]
        show _ = 1 + (_ + 0)
        omega
  · intro f x hI
    obtain ⟨x1, g⟩ := x
    obtain ⟨e, hF, gA⟩ := hI
    replace e : x1 = iZ (mR n) := e
    subst e
    replace hF : Fr (fun r _ => decide (r = (7, 0, 18))) h g := hF
    refine ⟨g, ?_, hF, gA.eq (fun v _ _ => up0_m v)⟩
    show jX9_grows_L37 K (f + 1) (iZ (mR n)) g = _
    rw [jX9_grows_L37, x9_codes (hR.fr hF (fun _ => rfl)) hn, Option.bind_some, if_pos (le_y (by omega) (by omega) (by omega))]
/-- the leaf that the reference finds -/
theorem x9_lf {m x : Int} {cd : Int → Int} (hR : PrM h n b pf) (hn : 0 ≤ n ∧ n ≤ 11) (hm : 0 ≤ m) (hmn : m ≤ n) (hcd : ∀ i, 0 ≤ i → i < m → 0 ≤ cd i ∧ cd i ≤ n) (hW : WM h n (oT n m cd x) (fun v => 1 + ocT m cd x v)) (x0 : 0 ≤ x) (x1 : x ≤ m) : jX9_leastLeaf h = some (iZ (lF n m cd x)) := by
  have hL := tr_L hn.1 hm hmn hcd x0 x1
  have := x9_leaf hR hn hW (fun v _ _ => by have := oc_in (cd := cd) hm x v; omega)
  have e : fnd (fun u => !oT n m cd x u && decide (1 + ocT m cd x u = 1)) (n + 1).toNat 0 = lF n m cd x := by
    unfold lF
    refine fnd_congr (fun z z0 z1 => ?_)
    have ho := oc_in (cd := cd) hm x z
    congr 1
    by_cases q : ocT m cd x z = 0
    · rw [decide_eq_true q, decide_eq_true (by omega)]
    · rw [decide_eq_false q, decide_eq_false (by omega)]
  rw [e, if_pos (by have := hL.1.2; omega)] at this
  exact this
/-- the leaf is out -/
theorem WM.out {m x : Int} {cd : Int → Int} {w : Int → Int} (hW : WM h n (oT n m cd x) w) (x0 : 0 ≤ x) (l0 : 0 ≤ lF n m cd x) : WM (sI h (7, 0, 23) (lF n m cd x).toNat (iZ 1)) n (oT n m cd (x + 1)) w := by
  refine ⟨(hW.1.put l0 1).eq (fun v v0 v1 => ?_), fun v v0 v1 hv => ?_⟩
  · show (if v = lF n m cd x then 1 else b1 (oT n m cd x v)) = b1 (oT n m cd (x + 1) v)
    rw [oT_s n m cd x0]
    by_cases q : v = lF n m cd x
    · rw [if_pos q, decide_eq_true q, Bool.or_true]; rfl
    · rw [if_neg q, decide_eq_false q, Bool.or_false]
  · rw [gI_ne _ (by decide)]
    rw [oT_s n m cd x0, Bool.or_eq_false_iff] at hv
    exact hW.2 v v0 v1 hv.1
theorem x9_L67 (hR : PrM h n b pf) (ho : PrOk n b pf) (hT : TM h n (mR n) (cdR n pf) 0) (hW : WM h n (oT n (mR n) (cdR n pf) 0) (fun v => 1 + ocT (mR n) (cdR n pf) 0 v)) (K : HD → Option HD) : ∃ h2, jX9_grows_L67 K FU (iZ 0) h = K h2 ∧ Fr sTm h h2 ∧ TM h2 n (mR n) (cdR n pf) (mR n) ∧ WM h2 n (oT n (mR n) (cdR n pf) (mR n)) (fun v => 1 + ocT (mR n) (cdR n pf) (mR n) v) := by
  have hn : 0 ≤ n ∧ n ≤ 11 := ⟨ho.1, ho.2.1⟩
  have hmi := mR_in hn.1
  have hmk := mR_ok hn.1
  obtain ⟨m, hm⟩ : ∃ m, mR n = m := ⟨_, rfl⟩
  obtain ⟨cd, hc⟩ : ∃ cd, cdR n pf = cd := ⟨_, rfl⟩
  have hcd : ∀ i, 0 ≤ i → i < m → 0 ≤ cd i ∧ cd i ≤ n := fun i _ _ => hc ▸ cdR_in hn.1 pf i
  rw [hm] at hmi hmk
  rw [hm, hc] at hT hW ⊢
  refine loopI (fun f (x : Int32 × HD) => jX9_grows_L67 K f x.1 x.2) (fun y x => x.1 = iZ y ∧ Fr sTm h x.2 ∧ TM x.2 n m cd y ∧ WM x.2 n (oT n m cd y) (fun v => 1 + ocT m cd y v)) (a := 0) (b := m) (fun r => ∃ h2, r = K h2 ∧ Fr sTm h h2 ∧ TM h2 n m cd m ∧ WM h2 n (oT n m cd m) (fun v => 1 + ocT m cd m v)) hmi.1 ?_ ?_ FU (iZ 0, h) (FU_gt (by omega)) ⟨rfl, Fr.rf, hT, hW⟩
  · intro f y x y0 y1 hI
    obtain ⟨x1, g⟩ := x
    obtain ⟨e, hF, gT, gW⟩ := hI
    replace e : x1 = iZ y := e
    subst e
    replace hF : Fr sTm h g := hF
    replace gT : TM g n m cd y := gT
    replace gW : WM g n (oT n m cd y) (fun v => 1 + ocT m cd y v) := gW
    have hRg := hR.fr hF (fun _ => rfl)
    have h1 : 1 ≤ n := by omega
    have hm1 := (hmk.resolve_left (by omega)).2
    have hL := tr_L hn.1 hmi.1 hmi.2 hcd y0 (show y ≤ m by omega)
    have hE := tr_e h1 hm1 hcd y0 (show y ≤ m by omega)
    have hcy := hcd y y0 y1
    have hl0 : 0 ≤ lF n m cd y := hL.1.1
    have hl1 : lF n m cd y ≤ n := hL.1.2
    have es : eS n m cd y = cd y := by unfold eS; rw [if_pos y1]
    have hj := x9_joins gT.1 y0 (by omega) hL.1.1 (show lF n m cd y ≤ 11 by have := hL.1.2; omega) hcy.1 (show cd y ≤ 11 by omega)
    have gT2 := gT.jo y0
    rw [es] at gT2 hE
    obtain ⟨g2, hg2⟩ : ∃ g2, g2 = sI (sI (sI g (7, 0, 19) y.toNat (iZ (if lF n m cd y < cd y then lF n m cd y else cd y))) (7, 0, 20) y.toNat (iZ (if lF n m cd y < cd y then cd y else lF n m cd y))) (7, 0, 0) 38 (iZ (y + 1)) := ⟨_, rfl⟩
    rw [← hg2] at hj gT2
    have fg2 : Fr sTm g g2 := by rw [hg2]; exact ((Fr.rf.sI rfl _).sI rfl _).sI rfl _
    have gW2 : WM g2 n (oT n m cd y) (fun v => 1 + ocT m cd y v) := by
      rw [hg2]
      exact ⟨((gW.1.ne (by decide) _ _).ne (by decide) _ _).ne (by decide) _ _, fun v v0 v1 hv => by rw [gI_ne _ (by decide), gI_ne _ (by decide), gI_ne _ (by decide)]; exact gW.2 v v0 v1 hv⟩
    have gW3 := gW2.out y0 hL.1.1
    obtain ⟨g3, hg3⟩ : ∃ g3, g3 = sI g2 (7, 0, 23) (lF n m cd y).toNat (iZ 1) := ⟨_, rfl⟩
    rw [← hg3] at gW3
    have fg3 : Fr sTm g2 g3 := by rw [hg3]; exact Fr.rf.sI rfl _
    have hR3 := hR.fr ((hF.tr fg2).tr fg3) (fun _ => rfl)
    have out3 := hE.2.1
    have c3 : gI g3 (7, 0, 18) (cd y).toNat = iZ (1 + ocT m cd y (cd y)) := gW3.2 _ hcy.1 (by omega) out3
    have hoc := oc_in (cd := cd) hmi.1 y (cd y)
    refine ⟨(iZ (y + 1), sI g3 (7, 0, 18) (cd y).toNat (iZ (1 + ocT m cd y (cd y) - 1))), ?_, rfl, ((hF.tr fg2).tr fg3).sI rfl _, ?_, ?_⟩
    · show jX9_grows_L67 K (f + 1) (iZ y) g = _
      have k1 : jX9_codeAt (iZ y) g = some (iZ (cd y)) := by rw [← hc]; exact x9_codeAt hRg ho y0 (by omega)
      have k2 : jX9_codeAt (iZ y) g3 = some (iZ (cd y)) := by rw [← hc]; exact x9_codeAt hR3 ho y0 (by omega)
      have k3 : jX9_codes g = some (iZ m) := by rw [← hm]; exact x9_codes hRg hn
      rw [jX9_grows_L67, k3, Option.bind_some, if_neg (le_n (by omega) (by omega) (by omega)), x9_lf hRg hn hmi.1 hmi.2 hcd gW y0 (by omega), Option.bind_some, k1, Option.bind_some, hj, Option.bind_some, inB_t (by omega) (by omega) (by omega), if_pos rfl, iZ_nat (by omega) (by omega), vb1, ← hg3, lt_eq, k2, Option.bind_some, inB_t (by omega) (by omega) (by omega), if_pos rfl, if_pos rfl, iZ_nat (by omega) (by omega), c3, i1, iZ_sub, lt_eq, iZ_add]
    · obtain ⟨t1, t2, t3⟩ := gT2
      refine ⟨?_, ?_, ?_⟩
      · show gI (sI g3 _ _ _) _ _ = _
        rw [gI_ne _ (by decide), hg3, gI_ne _ (by decide)]; exact t1
      · show IsA (sI g3 _ _ _) _ _ _
        rw [hg3]; exact (t2.ne (by decide) _ _).ne (by decide) _ _
      · show IsA (sI g3 _ _ _) _ _ _
        rw [hg3]; exact (t3.ne (by decide) _ _).ne (by decide) _ _
    · refine ⟨gW3.1.ne (by decide) _ _, fun v v0 v1 hv => ?_⟩
      show gI (sI g3 (7, 0, 18) _ _) (7, 0, 18) v.toNat = iZ (1 + ocT m cd (y + 1) v)
      have hos := oc_s (cd := cd) (k := y) hmi.1 y0 y1 v
      rw [gI_sI]
      by_cases q : v = cd y
      · rw [if_pos ⟨rfl, by rw [q]⟩, ← q]
        rw [← q, decide_eq_true rfl, b1_t] at hos
        rw [hos, show 1 + (ocT m cd (y + 1) v + 1) - 1 = 1 + ocT m cd (y + 1) v by omega]
      · rw [if_neg (fun c => q (by omega)), gW3.2 v v0 v1 hv]
        rw [decide_eq_false (fun e => q e.symm), b1_f] at hos
        show iZ (1 + ocT m cd y v) = _
        rw [hos, Int.add_zero]
  · intro f x hI
    obtain ⟨x1, g⟩ := x
    obtain ⟨e, hF, gT, gW⟩ := hI
    replace e : x1 = iZ m := e
    subst e
    replace hF : Fr sTm h g := hF
    refine ⟨g, ?_, hF, gT, gW⟩
    have k3 : jX9_codes g = some (iZ m) := by rw [← hm]; exact x9_codes (hR.fr hF (fun _ => rfl)) hn
    show jX9_grows_L67 K (f + 1) (iZ m) g = _
    rw [jX9_grows_L67, k3, Option.bind_some, if_pos (le_y (by omega) (by omega) (by omega))]
theorem x9_grows (hR : PrM h n b pf) (ho : PrOk n b pf) : ∃ h2, jX9_grows h = some h2 ∧ Fr sTm h h2 ∧ TM h2 n (mR n) (cdR n pf) n := by
  have hn : 0 ≤ n ∧ n ≤ 11 := ⟨ho.1, ho.2.1⟩
  have hmi := mR_in hn.1
  have hmk := mR_ok hn.1
  have hcd : ∀ i, 0 ≤ i → i < mR n → 0 ≤ cdR n pf i ∧ cdR n pf i ≤ n := fun i _ _ => cdR_in hn.1 pf i
  obtain ⟨K3, hK3⟩ : ∃ K3 : HD → Option HD, K3 = fun h24 => (if (gI h24 (7, 0, 2) 0) = 0 then some h24 else (jX9_leastLeaf h24).bind fun q25 => if inB q25 12 = true then lt (sI h24 (7, 0, 23) q25.toNatClampNeg (vp_nar .boolean (1 : Int32))) fun h26 => (jX9_leastLeaf h26).bind fun q28 => (jX9_joins q25 q28 h26).bind fun q29 => some q29 else none) := ⟨_, rfl⟩
  obtain ⟨g0, hg0⟩ : ∃ g0, g0 = sI h (7, 0, 0) 38 (iZ 0) := ⟨_, rfl⟩
  have f0 : Fr sTm h g0 := by rw [hg0]; exact Fr.rf.sI rfl _
  have k7 := fun K => x9_L7 (K := K) (hR.fr f0 (fun _ => rfl)) hn
  obtain ⟨g1, e1, f1, c1, a1, z1⟩ := k7 (fun h7 => jX9_grows_L37 (fun h13 => jX9_grows_L67 K3 FU (iZ 0) h13) FU (iZ 0) h7)
  have R1 := hR.fr (f0.tr f1) (fun _ => rfl)
  have k37 := fun K => x9_L37 (K := K) R1 ho a1
  obtain ⟨g2, e2, f2, a2⟩ := k37 (fun h13 => jX9_grows_L67 K3 FU (iZ 0) h13)
  have f2' : Fr sTm g1 g2 := f2.mono fun r k q => decide_eq_false fun e => by rw [e] at q; cases q
  have R2 := R1.fr f2' (fun _ => rfl)
  have T2 : TM g2 n (mR n) (cdR n pf) 0 := ⟨by rw [f2.1 _ _ rfl, c1, hg0, gI_self], fun z z0 z1 => by omega, fun z z0 z1 => by omega⟩
  have W2 : WM g2 n (oT n (mR n) (cdR n pf) 0) (fun v => 1 + ocT (mR n) (cdR n pf) 0 v) := ⟨z1.fr f2 (fun _ => rfl), fun v v0 v1 hv => by
    rw [a2 v v0 v1]
    unfold wC
    rw [hv, if_neg Bool.false_ne_true]⟩
  have k67 := fun K => x9_L67 (K := K) R2 ho T2 W2
  obtain ⟨g3, e3, f3, T3, W3⟩ := k67 K3
  have R3 := R2.fr f3 (fun _ => rfl)
  have F3 : Fr sTm h g3 := ((f0.tr f1).tr f2').tr f3
  have key : ∃ h2, K3 g3 = some h2 ∧ Fr sTm g3 h2 ∧ TM h2 n (mR n) (cdR n pf) n := by
    rw [hK3]
    rcases hmk with h0 | ⟨h1, hm1⟩
    · have kx : ∀ x, x = mR n → TM g3 n (mR n) (cdR n pf) x := fun x hx => by rw [hx]; exact T3
      refine ⟨g3, ?_, Fr.rf, kx n (by omega)⟩
      show (if gI g3 (7, 0, 2) 0 = 0 then _ else _) = _
      rw [R3.1, h0]
      rfl
    · have hL := tr_L hn.1 hmi.1 hmi.2 hcd hmi.1 (Int.le_refl _)
      have hE := tr_e h1 hm1 hcd hmi.1 (Int.le_refl _)
      have hb := tr_b h1 hm1 hcd
      have es : eS n (mR n) (cdR n pf) (mR n) = bF n (mR n) (cdR n pf) := by unfold eS; rw [if_neg (Int.lt_irrefl _)]
      have W4 := W3.out hmi.1 hL.1.1
      obtain ⟨g4, hg4⟩ : ∃ g4, g4 = sI g3 (7, 0, 23) (lF n (mR n) (cdR n pf) (mR n)).toNat (iZ 1) := ⟨_, rfl⟩
      rw [← hg4] at W4
      have f4 : Fr sTm g3 g4 := by rw [hg4]; exact Fr.rf.sI rfl _
      have l4 := x9_leaf (R3.fr f4 (fun _ => rfl)) hn W4 (fun v _ _ => by have := oc_in (cd := cdR n pf) hmi.1 (mR n) v; omega)
      have eb : fnd (fun u => !oT n (mR n) (cdR n pf) (mR n + 1) u && decide (1 + ocT (mR n) (cdR n pf) (mR n) u = 1)) (n + 1).toNat 0 = bF n (mR n) (cdR n pf) := by
        unfold bF
        refine fnd_congr (fun z z0 z1 => ?_)
        rw [oc_m z hmi.1, Int.add_zero, decide_eq_true rfl, Bool.and_true]
      rw [eb, if_pos (by omega)] at l4
      have T4 : TM g4 n (mR n) (cdR n pf) (mR n) := by
        rw [hg4]
        exact ⟨(gI_ne _ (by decide) _ _ _).trans T3.1, T3.2.1.ne (by decide) _ _, T3.2.2.ne (by decide) _ _⟩
      have hj := x9_joins T4.1 hmi.1 (by omega) hL.1.1 (show lF n (mR n) (cdR n pf) (mR n) ≤ 11 by have := hL.1.2; omega) hb.1.1 (show bF n (mR n) (cdR n pf) ≤ 11 by omega)
      have T5 := T4.jo hmi.1
      rw [es] at T5
      obtain ⟨g5, hg5⟩ : ∃ g5, g5 = sI (sI (sI g4 (7, 0, 19) (mR n).toNat (iZ (if lF n (mR n) (cdR n pf) (mR n) < bF n (mR n) (cdR n pf) then lF n (mR n) (cdR n pf) (mR n) else bF n (mR n) (cdR n pf)))) (7, 0, 20) (mR n).toNat (iZ (if lF n (mR n) (cdR n pf) (mR n) < bF n (mR n) (cdR n pf) then bF n (mR n) (cdR n pf) else lF n (mR n) (cdR n pf) (mR n)))) (7, 0, 0) 38 (iZ (mR n + 1)) := ⟨_, rfl⟩
      have f5 : Fr sTm g4 g5 := by rw [hg5]; exact ((Fr.rf.sI rfl _).sI rfl _).sI rfl _
      rw [← hg5] at T5 hj
      refine ⟨g5, ?_, f4.tr f5, (?_ : ∀ x, x = mR n + 1 → TM g5 n (mR n) (cdR n pf) x) n (by omega)⟩
      rotate_left
      · intro x hx
        rw [hx]
        exact T5
      · show (if gI g3 (7, 0, 2) 0 = 0 then _ else _) = _
        rw [R3.1, if_neg (show ¬ iZ n = 0 from eq_n (b := 0) (by omega) (by omega) (by omega) (by omega) (by omega)), x9_lf R3 hn hmi.1 hmi.2 hcd W3 hmi.1 (Int.le_refl _), Option.bind_some, inB_t (by have := hL.1; omega) (by have := hL.1; omega) (by have := hL.1; omega), if_pos rfl, iZ_nat (by have := hL.1; omega) (by have := hL.1; omega), vb1, ← hg4, lt_eq, l4, Option.bind_some, hj]
        rfl
  obtain ⟨g4, e4, f4, T4⟩ := key
  refine ⟨g4, ?_, F3.tr f4, T4⟩
  unfold jX9_grows
  rw [← hK3, i0, lt_eq, ← hg0, e1, e2, e3, e4]
end
