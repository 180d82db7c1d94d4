/-! codeGap: the edges fall in the order in which they came, so both find the code again -/
def ct (k i : Int) : Int := if i < k then 1 else 0
section
variable {h : HD} {n b : Int} {pf : Int → Int}
/-- the tree without its weights and cuts -/
theorem GC.w {m x : Int} {cd : Int → Int} (hG : GC h n m cd x) {j : Nat} (hj : j = 4 ∨ j = 5) (k : Nat) (v : Int32) : GC (sI h (5, 0, j) k v) n m cd x := by
  have e : ∀ i : Nat, i ≠ j → ((5, 0, i) : Rf) ≠ (5, 0, j) := fun i hi e => hi (congrArg (fun x : Rf => x.2.2) e)
  obtain ⟨g1, g2, g3, g4, g5, g6⟩ := hG
  exact ⟨(gI_ne _ (e 0 (by omega)) _ _ _).trans g1, (gI_ne _ (e 0 (by omega)) _ _ _).trans g2, (gI_ne _ (e 0 (by omega)) _ _ _).trans g3, g4.ne (e 1 (by omega)) _ _, g5.ne (e 2 (by omega)) _ _, g6.ne (e 3 (by omega)) _ _⟩
theorem x7_c2 {m : Int} {cd : Int → Int} (hn : 0 ≤ n ∧ n ≤ 11) (hG : GC h n m cd n) (K : HD → Option (Int32 × HD)) : ∃ h2, jX7_differencesOfCodes_L2 K FU (iZ 0) h = K h2 ∧ Fr sTr h h2 ∧ GC h2 n m cd n ∧ IsA h2 (5, 0, 4) n (fun _ => 0) := by
  refine loopI (fun f (x : Int32 × HD) => jX7_differencesOfCodes_L2 K f x.1 x.2) (fun y x => x.1 = iZ y ∧ Fr sTr h x.2 ∧ GC x.2 n m cd n ∧ IsA x.2 (5, 0, 4) y (fun _ => 0)) (a := 0) (b := n) (fun r => ∃ h2, r = K h2 ∧ Fr sTr h h2 ∧ GC h2 n m cd n ∧ IsA h2 (5, 0, 4) n (fun _ => 0)) hn.1 ?_ ?_ FU (iZ 0, h) (FU_gt (by omega)) ⟨rfl, Fr.rf, hG, fun z z0 z1 => by omega⟩
  · intro f y x y0 y1 hI
    obtain ⟨x1, g⟩ := x
    obtain ⟨e, hF, gG, gA⟩ := hI
    replace e : x1 = iZ y := e
    subst e
    replace hF : Fr sTr h g := hF
    replace gG : GC g n m cd n := gG
    refine ⟨(iZ (y + 1), sI g (5, 0, 4) y.toNat (iZ 0)), ?_, rfl, hF.sI rfl _, gG.w (Or.inl rfl) _ _, gA.snoc y0 rfl⟩
    show jX7_differencesOfCodes_L2 K (f + 1) (iZ y) g = _
    rw [jX7_differencesOfCodes_L2, gG.2.2.1, if_neg (le_n (by omega) (by omega) (by omega)), i11, if_neg (le_n (by omega) (by omega) (by omega)), inB_t (by omega) (by omega) (by omega), if_pos rfl, iZ_nat (by omega) (by omega), vb0, lt_eq, i1, iZ_add]
  · intro f x hI
    obtain ⟨x1, g⟩ := x
    obtain ⟨e, hF, gG, gA⟩ := hI
    replace e : x1 = iZ n := e
    subst e
    replace gG : GC g n m cd n := gG
    refine ⟨g, ?_, hF, gG, gA⟩
    show jX7_differencesOfCodes_L2 K (f + 1) (iZ n) g = _
    rw [jX7_differencesOfCodes_L2, gG.2.2.1, if_pos (le_y (by omega) (by omega) (by omega))]
theorem x7_c25 (hn : 0 ≤ n ∧ n ≤ 11) (hG : GC h n (mR n) (cdR n pf) n) (hA : IsA h (5, 0, 4) n (fun _ => 0)) (K : HD → Option (Int32 × HD)) : ∃ h2, jX7_differencesOfCodes_L31 K FU (iZ 0) h = K h2 ∧ Fr sTr h h2 ∧ GC h2 n (mR n) (cdR n pf) n ∧ IsA h2 (5, 0, 4) n (fun _ => 0) ∧ IsA h2 (5, 0, 5) (n + 1) (fun v => eg n pf v n) := by
  refine loopI (fun f (x : Int32 × HD) => jX7_differencesOfCodes_L31 K f x.1 x.2) (fun y x => x.1 = iZ y ∧ Fr sTr h x.2 ∧ GC x.2 n (mR n) (cdR n pf) n ∧ IsA x.2 (5, 0, 4) n (fun _ => 0) ∧ IsA x.2 (5, 0, 5) y (fun v => eg n pf v n)) (a := 0) (b := n + 1) (fun r => ∃ h2, r = K h2 ∧ Fr sTr h h2 ∧ GC h2 n (mR n) (cdR n pf) n ∧ IsA h2 (5, 0, 4) n (fun _ => 0) ∧ IsA h2 (5, 0, 5) (n + 1) (fun v => eg n pf v n)) (by omega) ?_ ?_ FU (iZ 0, h) (FU_gt (by omega)) ⟨rfl, Fr.rf, hG, hA, fun z z0 z1 => by omega⟩
  · intro f y x y0 y1 hI
    obtain ⟨x1, g⟩ := x
    obtain ⟨e, hF, gG, gA, gW⟩ := hI
    replace e : x1 = iZ y := e
    subst e
    replace hF : Fr sTr h g := hF
    replace gG : GC g n (mR n) (cdR n pf) n := gG
    refine ⟨(iZ (y + 1), sI g (5, 0, 5) y.toNat (iZ (eg n pf y n))), ?_, rfl, hF.sI rfl _, gG.w (Or.inr rfl) _ _, gA.ne (by decide) _ _, gW.snoc y0 rfl⟩
    show jX7_differencesOfCodes_L31 K (f + 1) (iZ y) g = _
    rw [jX7_differencesOfCodes_L31, gG.1, if_neg (le_n (by omega) (by omega) (by omega)), i12, if_neg (le_n (by omega) (by omega) (by omega)), x7_edgesAt hn gG y0 (by omega), Option.bind_some, inB_t (by omega) (by omega) (by omega), if_pos rfl, iZ_nat (by omega) (by omega), lt_eq, i1, iZ_add]
  · intro f x hI
    obtain ⟨x1, g⟩ := x
    obtain ⟨e, hF, gG, gA, gW⟩ := hI
    replace e : x1 = iZ (n + 1) := e
    subst e
    replace gG : GC g n (mR n) (cdR n pf) n := gG
    refine ⟨g, ?_, hF, gG, gA, gW⟩
    show jX7_differencesOfCodes_L31 K (f + 1) (iZ (n + 1)) g = _
    rw [jX7_differencesOfCodes_L31, gG.1, if_pos (le_y (by omega) (by omega) (by omega))]
theorem x7_cut {m k : Int} {cd : Int → Int} (h1 : 1 ≤ n) (hn : n ≤ 11) (hm : m = n - 1) (hcd : ∀ i, 0 ≤ i → i < m → 0 ≤ cd i ∧ cd i ≤ n) (hG : GC h n m cd n) (hA : IsA h (5, 0, 4) n (ct k)) (hW : IsA h (5, 0, 5) (n + 1) (wC n m cd k)) (k0 : 0 ≤ k) (k1 : k < m) : ∃ h2, jX7_cutOff (iZ (lF n m cd k)) h = some (iZ (cd k), h2) ∧ Fr sTr h h2 ∧ GC h2 n m cd n ∧ IsA h2 (5, 0, 4) n (ct (k + 1)) ∧ IsA h2 (5, 0, 5) (n + 1) (wC n m cd (k + 1)) := by
  have hL := tr_L (cd := cd) (k := k) (show 0 ≤ n by omega) (show 0 ≤ m by omega) (by omega) hcd k0 (by omega)
  have hE := tr_e (k := k) h1 hm hcd k0 (by omega)
  have hc := hcd k k0 k1
  have es : eS n m cd k = cd k := by unfold eS; rw [if_pos k1]
  rw [es] at hE
  have hl0 : 0 ≤ lF n m cd k := hL.1.1
  have hl1 : lF n m cd k ≤ n := hL.1.2
  have c2 : gI h (5, 0, 2) k.toNat = iZ (lF n m cd k) := hG.2.2.2.2.1 k k0 (by omega)
  have c3 : gI h (5, 0, 3) k.toNat = iZ (cd k) := by rw [← es]; exact hG.2.2.2.2.2 k k0 (by omega)
  have wl := wC_in (n := n) (cd := cd) (show 0 ≤ m by omega) k (lF n m cd k)
  have wc := wC_in (n := n) (cd := cd) (show 0 ≤ m by omega) k (cd k)
  have w1 : wC n m cd k (lF n m cd k) = 1 := by unfold wC; rw [hL.2.1, if_neg Bool.false_ne_true, hL.2.2]; omega
  obtain ⟨l, hl⟩ : ∃ l, lF n m cd k = l := ⟨_, rfl⟩
  obtain ⟨c, hcc⟩ : ∃ c, cd k = c := ⟨_, rfl⟩
  have hW0 := wC_s h1 hm hcd k0 k1 hW
  unfold TrL at hL
  rw [hl] at hL hE hl0 hl1 c2 wl w1 hW0 ⊢
  rw [hcc] at hc c3 wc hE hW0 ⊢
  obtain ⟨g1, hg1⟩ : ∃ g1, g1 = sI h (5, 0, 4) k.toNat (iZ 1) := ⟨_, rfl⟩
  obtain ⟨g2, hg2⟩ : ∃ g2, g2 = sI g1 (5, 0, 5) l.toNat (iZ 0) := ⟨_, rfl⟩
  obtain ⟨g3, hg3⟩ : ∃ g3, g3 = sI g2 (5, 0, 5) c.toNat (iZ (wC n m cd k c - 1)) := ⟨_, rfl⟩
  have lc : l ≠ c := hE.2.2
  have a2 : gI g1 (5, 0, 2) k.toNat = iZ l := by rw [hg1, gI_ne _ (by decide)]; exact c2
  have a5 : gI g1 (5, 0, 5) l.toNat = iZ 1 := by rw [hg1, gI_ne _ (by decide), hW l hl0 (by omega), w1]
  have a3 : gI g2 (5, 0, 3) k.toNat = iZ c := by rw [hg2, gI_ne _ (by decide), hg1, gI_ne _ (by decide)]; exact c3
  have a6 : gI g2 (5, 0, 5) c.toNat = iZ (wC n m cd k c) := by rw [hg2, gI_nk _ _ _ (by omega), hg1, gI_ne _ (by decide), hW c hc.1 (by omega)]
  refine ⟨g3, ?_, ?_, ?_, ?_, ?_⟩
  · unfold jX7_cutOff
    rw [i0]
    refine loopN (fun f (x : Int32) => jX7_cutOff_L2 (iZ l) h _ f x) iZ (a := 0) (b := k) k0 (fun f z z0 z1 => ?_) (fun f => ?_) FU (FU_gt (by omega))
    · show jX7_cutOff_L2 (iZ l) h _ (f + 1) (iZ z) = jX7_cutOff_L2 (iZ l) h _ f (iZ (z + 1))
      have cz : gI h (5, 0, 4) z.toNat = iZ 1 := by rw [hA z z0 (by omega)]; unfold ct; rw [if_pos z1]
      have hLz := tr_L (cd := cd) (k := z) (show 0 ≤ n by omega) (show 0 ≤ m by omega) (by omega) hcd z0 (by omega)
      have hEz := tr_e (k := z) h1 hm hcd z0 (by omega)
      rw [jX7_cutOff_L2, hG.2.2.1, if_neg (le_n (by omega) (by omega) (by omega)), x7_isAtEdge ⟨by omega, hn⟩ hG z0 (by omega) hLz.1 hEz.1 (by omega) hl1, Option.bind_some, inB_t (by omega) (by omega) (by omega), if_pos rfl, iZ_nat (by omega) (by omega), cz, if_neg (show ¬ iZ 1 = 0 by decide), i1, iZ_add]
      split <;> rfl
    · show jX7_cutOff_L2 (iZ l) h _ (f + 1) (iZ k) = _
      have cz : gI h (5, 0, 4) k.toNat = iZ 0 := by rw [hA k k0 (by omega)]; unfold ct; rw [if_neg (Int.lt_irrefl _)]
      have hat : jX7_isAtEdge (iZ l) (iZ k) h = some true := by
        rw [x7_isAtEdge ⟨by omega, hn⟩ hG k0 (by omega) (by rw [hl]; omega) (by rw [es, hcc]; exact hc) (by omega) hl1, decide_eq_true (Or.inl hl)]
      have l1 : jX7_lighten (iZ l) g1 = some g2 := by
        rw [x7_lighten (n := n) (w := 1) (by rw [hg1, gI_ne _ (by decide)]; exact hG.1) ⟨by omega, hn⟩ hl0 hl1 a5, hg2]
        rfl
      have l2 : jX7_lighten (iZ c) g2 = some g3 := by
        rw [x7_lighten (n := n) (w := wC n m cd k c) (by rw [hg2, gI_ne _ (by decide), hg1, gI_ne _ (by decide)]; exact hG.1) ⟨by omega, hn⟩ hc.1 hc.2 a6, hg3]
      have b2' : gI g3 (5, 0, 2) k.toNat = iZ l := by rw [hg3, gI_ne _ (by decide), hg2, gI_ne _ (by decide)]; exact a2
      have b3' : gI g3 (5, 0, 3) k.toNat = iZ c := by rw [hg3, gI_ne _ (by decide)]; exact a3
      rw [jX7_cutOff_L2, hG.2.2.1, if_neg (le_n (by omega) (by omega) (by omega)), hat, Option.bind_some, if_pos rfl, inB_t (by omega) (by omega) (by omega), if_pos rfl, iZ_nat (by omega) (by omega), cz, if_pos (show iZ 0 = 0 from rfl), if_pos rfl, vb1, ← hg1, lt_eq, if_pos rfl, a2, l1, Option.bind_some, if_pos rfl, a3, l2, Option.bind_some, if_pos rfl, b2', if_pos rfl, if_pos rfl, b3']
  · rw [hg3, hg2, hg1]; exact ((Fr.rf.sI rfl _).sI rfl _).sI rfl _
  · rw [hg3, hg2, hg1]; exact ((hG.w (Or.inl rfl) _ _).w (Or.inr rfl) _ _).w (Or.inr rfl) _ _
  · rw [hg3, hg2, hg1]
    refine (((hA.put k0 1).ne (by decide) _ _).ne (by decide) _ _).eq (fun v v0 v1 => ?_)
    show (if v = k then 1 else ct k v) = ct (k + 1) v
    unfold ct
    by_cases q : v = k
    · rw [if_pos q, if_pos (by omega)]
    · rw [if_neg q]
      by_cases q2 : v < k
      · rw [if_pos q2, if_pos (by omega)]
      · rw [if_neg q2, if_neg (by omega)]
  · have := wC_s (g := g1) h1 hm hcd k0 k1 (by rw [hg1]; exact hW.ne (by decide) _ _)
    rw [hl, hcc, ← hg2, ← hg3] at this
    exact this
theorem eg_w (h1 : 1 ≤ n) {v : Int} (v0 : 0 ≤ v) (v1 : v ≤ n) : eg n pf v n = wC n (mR n) (cdR n pf) 0 v := by
  have hm := (mR_ok (n := n) (by omega)).resolve_left (by omega)
  have hcd : ∀ i, 0 ≤ i → i < mR n → 0 ≤ cdR n pf i ∧ cdR n pf i ≤ n := fun i _ _ => cdR_in (by omega) pf i
  have := tr_dg h1 hm.2 hcd (Int.le_refl 0) (show 0 ≤ mR n by omega) v0 v1
  unfold wC
  rw [← this]
  unfold dg eg
  rw [show mR n + 1 = n by omega]
  refine sm_congr (fun c c0 c1 => ?_)
  by_cases q : lF n (mR n) (cdR n pf) c = v ∨ eS n (mR n) (cdR n pf) c = v
  · rw [decide_eq_true q, decide_eq_true ⟨c0, q⟩]
  · rw [decide_eq_false q, decide_eq_false (fun e => q e.2)]
theorem x7_gap (hn : 0 ≤ n ∧ n ≤ 11) (hG : GC h n (mR n) (cdR n pf) n) : ∃ h2, jX7_differencesOfCodes h = some (iZ 0, h2) ∧ Fr sTr h h2 := by
  have hmk := mR_ok hn.1
  have hmi := mR_in hn.1
  have hcd : ∀ i, 0 ≤ i → i < mR n → 0 ≤ cdR n pf i ∧ cdR n pf i ≤ n := fun i _ _ => cdR_in hn.1 pf i
  have k2 := fun K => x7_c2 (K := K) hn hG
  obtain ⟨g1, e1, f1, G1, A1⟩ := k2 (fun h3 => jX7_differencesOfCodes_L31 (fun h7 => jX7_differencesOfCodes_L66 FU (iZ 0) (iZ 0) h7) FU (iZ 0) h3)
  have k25 := fun K => x7_c25 (K := K) hn G1 A1
  obtain ⟨g2, e2, f2, G2, A2, W2⟩ := k25 (fun h7 => jX7_differencesOfCodes_L66 FU (iZ 0) (iZ 0) h7)
  have key : ∃ h2, jX7_differencesOfCodes_L66 FU (iZ 0) (iZ 0) g2 = some (iZ 0, h2) ∧ Fr sTr g2 h2 := by
    refine loopI (fun f (x : Int32 × Int32 × HD) => jX7_differencesOfCodes_L66 f x.1 x.2.1 x.2.2) (fun y x => x.1 = iZ 0 ∧ x.2.1 = iZ y ∧ Fr sTr g2 x.2.2 ∧ GC x.2.2 n (mR n) (cdR n pf) n ∧ IsA x.2.2 (5, 0, 4) n (ct y) ∧ (1 ≤ n → IsA x.2.2 (5, 0, 5) (n + 1) (wC n (mR n) (cdR n pf) y))) (a := 0) (b := mR n) (fun r => ∃ h2, r = some (iZ 0, h2) ∧ Fr sTr g2 h2) hmi.1 ?_ ?_ FU (iZ 0, iZ 0, g2) (FU_gt (by omega)) ⟨rfl, rfl, Fr.rf, G2, A2.eq (fun v v0 v1 => by unfold ct; rw [if_neg (by omega)]), fun h1 => W2.eq (fun v v0 v1 => eg_w h1 v0 (by omega))⟩
    · intro f y x y0 y1 hI
      obtain ⟨x1, x2, g⟩ := x
      obtain ⟨e, e2, hF, gG, gA, gW⟩ := hI
      replace e : x1 = iZ 0 := e
      replace e2 : x2 = iZ y := e2
      subst e e2
      replace hF : Fr sTr g2 g := hF
      replace gG : GC g n (mR n) (cdR n pf) n := gG
      have h1 : 1 ≤ n := by omega
      have hm1 := (hmk.resolve_left (by omega)).2
      have gW1 := gW h1
      obtain ⟨g3, e3, f3, G3, A3, W3⟩ := x7_cut h1 hn.2 hm1 hcd gG gA gW1 y0 y1
      refine ⟨(iZ 0, iZ (y + 1), g3), ?_, rfl, rfl, hF.tr f3, G3, A3, fun _ => W3⟩
      show jX7_differencesOfCodes_L66 (f + 1) (iZ 0) (iZ y) g = _
      rw [jX7_differencesOfCodes_L66, gG.2.1, if_neg (le_n (by omega) (by omega) (by omega)), x7_leaf hn hmi.1 hmi.2 hcd gG.1 gW1 y0 (by omega), Option.bind_some, e3, Option.bind_some, x7_numAt G3.2.1 ⟨hmi.1, by omega⟩ G3.2.2.2.1 (by omega) (by omega), if_pos ⟨y0, y1⟩, Option.bind_some, if_pos rfl, i1, iZ_add]
    · intro f x hI
      obtain ⟨x1, x2, g⟩ := x
      obtain ⟨e, e2, hF, gG, gA, gW⟩ := hI
      replace e : x1 = iZ 0 := e
      replace e2 : x2 = iZ (mR n) := e2
      subst e e2
      replace gG : GC g n (mR n) (cdR n pf) n := gG
      refine ⟨g, ?_, hF⟩
      show jX7_differencesOfCodes_L66 (f + 1) (iZ 0) (iZ (mR n)) g = _
      rw [jX7_differencesOfCodes_L66, gG.2.1, if_pos (le_y (by omega) (by omega) (by omega))]
  obtain ⟨g3, e3, f3⟩ := key
  refine ⟨g3, ?_, (f1.tr f2).tr f3⟩
  unfold jX7_differencesOfCodes
  rw [i0, e1, e2, e3]
/-! the reference -/
theorem TM.w {m x : Int} {cd : Int → Int} (hT : TM h n m cd x) {j : Nat} (hj : j = 22 ∨ j = 24) (k : Nat) (v : Int32) : TM (sI h (7, 0, j) k v) n m cd x := by
  have e : ∀ i : Nat, i ≠ j → ((7, 0, i) : Rf) ≠ (7, 0, j) := fun i hi e => hi (congrArg (fun x : Rf => x.2.2) e)
  obtain ⟨g1, g2, g3⟩ := hT
  exact ⟨(gI_ne _ (e 0 (by omega)) _ _ _).trans g1, g2.ne (e 19 (by omega)) _ _, g3.ne (e 20 (by omega)) _ _⟩
theorem x9_c11 {m : Int} {cd : Int → Int} (hn : 0 ≤ n ∧ n ≤ 11) (hT : TM h n m cd n) (K : HD → Option (Int32 × HD)) : ∃ h2, jX9_codeGap_L11 K FU (iZ 0) h = K h2 ∧ Fr sTm h h2 ∧ TM h2 n m cd n ∧ IsA h2 (7, 0, 24) n (ct 0) := by
  refine loopI (fun f (x : Int32 × HD) => jX9_codeGap_L11 K f x.1 x.2) (fun y x => x.1 = iZ y ∧ Fr sTm h x.2 ∧ TM x.2 n m cd n ∧ IsA x.2 (7, 0, 24) y (ct 0)) (a := 0) (b := n) (fun r => ∃ h2, r = K h2 ∧ Fr sTm h h2 ∧ TM h2 n m cd n ∧ IsA h2 (7, 0, 24) n (ct 0)) hn.1 ?_ ?_ FU (iZ 0, h) (FU_gt (by omega)) ⟨rfl, Fr.rf, hT, fun z z0 z1 => by omega⟩
  · intro f y x y0 y1 hI
    obtain ⟨x1, g⟩ := x
    obtain ⟨e, hF, gT, gA⟩ := hI
    replace e : x1 = iZ y := e
    subst e
    replace hF : Fr sTm h g := hF
    replace gT : TM g n m cd n := gT
    refine ⟨(iZ (y + 1), sI g (7, 0, 24) y.toNat (iZ 0)), ?_, rfl, hF.sI rfl _, gT.w (Or.inr rfl) _ _, gA.snoc y0 (by unfold ct; rw [if_neg (by omega)])⟩
    show jX9_codeGap_L11 K (f + 1) (iZ y) g = _
    rw [jX9_codeGap_L11, gT.1, if_neg (le_n (by omega) (by omega) (by omega)), inB_t (by omega) (by omega) (by omega), if_pos rfl, iZ_nat (by omega) (by omega), vb0, lt_eq, i1, iZ_add]
  · intro f x hI
    obtain ⟨x1, g⟩ := x
    obtain ⟨e, hF, gT, gA⟩ := hI
    replace e : x1 = iZ n := e
    subst e
    replace gT : TM g n m cd n := gT
    refine ⟨g, ?_, hF, gT, gA⟩
    show jX9_codeGap_L11 K (f + 1) (iZ n) g = _
    rw [jX9_codeGap_L11, gT.1, if_pos (le_y (by omega) (by omega) (by omega))]
/-- live edges up to the z-th -/
def lg (n m : Int) (cd : Int → Int) (k v z : Int) : Int := sm_ (fun i => b1 (decide (k ≤ i ∧ (lF n m cd i = v ∨ eS n m cd i = v)))) z
theorem x9_live {k v : Int} (hn : 0 ≤ n ∧ n ≤ 11) (hT : TM h n (mR n) (cdR n pf) n) (hA : IsA h (7, 0, 24) n (ct k)) (v0 : 0 ≤ v) (v1 : v ≤ n) : jX9_liveDegree (iZ v) h = some (iZ (lg n (mR n) (cdR n pf) k v n)) := by
  unfold jX9_liveDegree
  rw [i0]
  refine loopN (fun f (x : Int32 × Int32) => jX9_liveDegree_L4 (iZ v) h f x.1 x.2) (fun z => (iZ (lg n (mR n) (cdR n pf) k v z), iZ z)) (a := 0) (b := n) hn.1 (fun f z z0 z1 => ?_) (fun f => ?_) FU (FU_gt (by omega))
  · show jX9_liveDegree_L4 (iZ v) h (f + 1) (iZ (lg n (mR n) (cdR n pf) k v z)) (iZ z) = jX9_liveDegree_L4 (iZ v) h f (iZ (lg n (mR n) (cdR n pf) k v (z + 1))) (iZ (z + 1))
    have ht := te (pf := pf) hn.1 z0 z1
    have es : lg n (mR n) (cdR n pf) k v (z + 1) = lg n (mR n) (cdR n pf) k v z + b1 (decide (k ≤ z ∧ (lF n (mR n) (cdR n pf) z = v ∨ eS n (mR n) (cdR n pf) z = v))) := sm_s _ z0
    rw [jX9_liveDegree_L4, hT.1, if_neg (le_n (by omega) (by omega) (by omega)), inB_t (by omega) (by omega) (by omega), if_pos rfl, iZ_nat (by omega) (by omega), hA z z0 z1, es]
    unfold ct
    by_cases q : z < k
    · rw [if_pos q, if_neg (show ¬ iZ 1 = 0 by decide), x9_truth, iZ_add, i1, iZ_add, decide_eq_false (show ¬ (k ≤ z ∧ _) from fun e => by omega)]
    · rw [if_neg q, if_pos (show iZ 0 = 0 from rfl), x9_isAt hT hn z0 z1 ht.1 ht.2.1 (by omega) v1, Option.bind_some]
      by_cases r : lF n (mR n) (cdR n pf) z = v ∨ eS n (mR n) (cdR n pf) z = v
      · rw [decide_eq_true r, if_pos rfl, x9_truth, iZ_add, i1, iZ_add, decide_eq_true ⟨by omega, r⟩]
      · rw [decide_eq_false r, if_neg Bool.false_ne_true, x9_truth, iZ_add, i1, iZ_add, decide_eq_false (fun e => r e.2)]
  · show jX9_liveDegree_L4 (iZ v) h (f + 1) (iZ (lg n (mR n) (cdR n pf) k v n)) (iZ n) = _
    rw [jX9_liveDegree_L4, hT.1, if_pos (le_y (by omega) (by omega) (by omega))]
theorem lg_w (h1 : 1 ≤ n) {k v : Int} (k0 : 0 ≤ k) (k1 : k ≤ mR n) (v0 : 0 ≤ v) (v1 : v ≤ n) : lg n (mR n) (cdR n pf) k v n = wC n (mR n) (cdR n pf) k v := by
  have hm := (mR_ok (n := n) (by omega)).resolve_left (by omega)
  have hcd : ∀ i, 0 ≤ i → i < mR n → 0 ≤ cdR n pf i ∧ cdR n pf i ≤ n := fun i _ _ => cdR_in (by omega) pf i
  have := tr_dg h1 hm.2 hcd k0 k1 v0 v1
  unfold wC
  rw [← this]
  unfold dg lg
  rw [show mR n + 1 = n by omega]
theorem x9_leastOne {k : Int} (hR : PrM h n b pf) (h1 : 1 ≤ n) (hn : n ≤ 11) (hT : TM h n (mR n) (cdR n pf) n) (hA : IsA h (7, 0, 24) n (ct k)) (k0 : 0 ≤ k) (k1 : k < mR n) : jX9_leastWithOne h = some (iZ (lF n (mR n) (cdR n pf) k)) := by
  have hmi := mR_in (n := n) (by omega)
  have hcd : ∀ i, 0 ≤ i → i < mR n → 0 ≤ cdR n pf i ∧ cdR n pf i ≤ n := fun i _ _ => cdR_in (by omega) pf i
  have hL := tr_L (cd := cdR n pf) (k := k) (show 0 ≤ n by omega) hmi.1 hmi.2 hcd k0 (by omega)
  have hl0 : 0 ≤ lF n (mR n) (cdR n pf) k := hL.1.1
  have hl1 : lF n (mR n) (cdR n pf) k ≤ n := hL.1.2
  unfold jX9_leastWithOne
  rw [i0]
  refine loopN (fun f (x : Int32) => jX9_leastWithOne_L2 h f x) iZ (a := 0) (b := lF n (mR n) (cdR n pf) k) hl0 (fun f z z0 z1 => ?_) (fun f => ?_) FU (FU_gt (by omega))
  · show jX9_leastWithOne_L2 h (f + 1) (iZ z) = _
    have hz := fnd_not (fun u => !oT n (mR n) (cdR n pf) k u && decide (ocT (mR n) (cdR n pf) k u = 0)) (n + 1).toNat 0 z z0 z1
    rw [← wC_1 hmi.1] at hz
    have hw := wC_in (n := n) (cd := cdR n pf) hmi.1 k z
    have hne : ¬ wC n (mR n) (cdR n pf) k z = 1 := of_decide_eq_false hz
    rw [jX9_leastWithOne_L2, x9_spots hR, Option.bind_some, if_neg (le_n (by omega) (by omega) (by omega)), x9_live ⟨by omega, hn⟩ hT hA z0 (by omega), Option.bind_some, lg_w h1 k0 (by omega) z0 (by omega), i1, if_neg (eq_n (by omega) (by omega) (by omega) (by omega) (by omega)), iZ_add]
  · show jX9_leastWithOne_L2 h (f + 1) (iZ (lF n (mR n) (cdR n pf) k)) = _
    have w1 : wC n (mR n) (cdR n pf) k (lF n (mR n) (cdR n pf) k) = 1 := by unfold wC; rw [hL.2.1, if_neg Bool.false_ne_true, hL.2.2]; omega
    rw [jX9_leastWithOne_L2, x9_spots hR, Option.bind_some, if_neg (le_n (by omega) (by omega) (by omega)), x9_live ⟨by omega, hn⟩ hT hA hl0 hl1, Option.bind_some, lg_w h1 k0 (by omega) hl0 hl1, w1, i1, if_pos rfl]
theorem x9_liveEdge {k : Int} (hn : n ≤ 11) (hT : TM h n (mR n) (cdR n pf) n) (hA : IsA h (7, 0, 24) n (ct k)) (k0 : 0 ≤ k) (k1 : k < n) : jX9_liveEdge (iZ (lF n (mR n) (cdR n pf) k)) h = some (iZ k) := by
  have ht := te (pf := pf) (show 0 ≤ n by omega) k0 k1
  unfold jX9_liveEdge
  rw [i0]
  refine loopN (fun f (x : Int32) => jX9_liveEdge_L2 (iZ (lF n (mR n) (cdR n pf) k)) h f x) iZ (a := 0) (b := k) k0 (fun f z z0 z1 => ?_) (fun f => ?_) FU (FU_gt (by omega))
  · show jX9_liveEdge_L2 (iZ (lF n (mR n) (cdR n pf) k)) h (f + 1) (iZ z) = _
    rw [jX9_liveEdge_L2, hT.1, if_neg (le_n (by omega) (by omega) (by omega)), inB_t (by omega) (by omega) (by omega), if_pos rfl, iZ_nat (by omega) (by omega), hA z z0 (by omega)]
    unfold ct
    rw [if_pos z1, if_neg (show ¬ iZ 1 = 0 by decide), i1, iZ_add]
  · show jX9_liveEdge_L2 (iZ (lF n (mR n) (cdR n pf) k)) h (f + 1) (iZ k) = _
    rw [jX9_liveEdge_L2, hT.1, if_neg (le_n (by omega) (by omega) (by omega)), inB_t (by omega) (by omega) (by omega), if_pos rfl, iZ_nat (by omega) (by omega), hA k k0 k1]
    unfold ct
    rw [if_neg (Int.lt_irrefl _), if_pos (show iZ 0 = 0 from rfl), x9_isAt hT ⟨by omega, hn⟩ k0 k1 ht.1 ht.2.1 (by omega) ht.1.2, Option.bind_some, decide_eq_true (Or.inl rfl), if_pos rfl]
theorem x9_gapL (hR : PrM h n b pf) (ho : PrOk n b pf) (hT : TM h n (mR n) (cdR n pf) n) (hA : IsA h (7, 0, 24) n (ct 0)) : ∃ h2, jX9_codeGap_L36 FU (iZ 0) (iZ 0) h = some (iZ 0, h2) ∧ Fr sTm h h2 := by
  have hn : 0 ≤ n ∧ n ≤ 11 := ⟨ho.1, ho.2.1⟩
  have hmi := mR_in hn.1
  have hmk := mR_ok hn.1
  refine loopI (fun f (x : Int32 × Int32 × HD) => jX9_codeGap_L36 f x.1 x.2.1 x.2.2) (fun y x => x.1 = iZ 0 ∧ x.2.1 = iZ y ∧ Fr sTm h x.2.2 ∧ TM x.2.2 n (mR n) (cdR n pf) n ∧ IsA x.2.2 (7, 0, 24) n (ct y)) (a := 0) (b := mR n) (fun r => ∃ h2, r = some (iZ 0, h2) ∧ Fr sTm h h2) hmi.1 ?_ ?_ FU (iZ 0, iZ 0, h) (FU_gt (by omega)) ⟨rfl, rfl, Fr.rf, hT, hA⟩
  · intro f y x y0 y1 hI
    obtain ⟨x1, x2, g⟩ := x
    obtain ⟨e, e2, hF, gT, gA⟩ := hI
    replace e : x1 = iZ 0 := e
    replace e2 : x2 = iZ y := e2
    subst e e2
    replace hF : Fr sTm h g := hF
    replace gT : TM g n (mR n) (cdR n pf) n := gT
    replace gA : IsA g (7, 0, 24) n (ct y) := gA
    have h1 : 1 ≤ n := by omega
    have hm1 := (hmk.resolve_left (by omega)).2
    have ht := te (pf := pf) hn.1 y0 (show y < n by omega)
    have hlh := lohi n (mR n) (cdR n pf) y
    have es : eS n (mR n) (cdR n pf) y = cdR n pf y := by unfold eS; rw [if_pos y1]
    have hRg := hR.fr hF (fun _ => rfl)
    have esum : lo n (mR n) (cdR n pf) y + hi n (mR n) (cdR n pf) y - lF n (mR n) (cdR n pf) y = cdR n pf y := by
      rw [← es]
      rcases hlh with e | e <;> rw [e.1, e.2] <;> omega
    obtain ⟨g3, hg3⟩ : ∃ g3, g3 = sI (sI g (7, 0, 22) y.toNat (iZ (cdR n pf y))) (7, 0, 24) y.toNat (iZ 1) := ⟨_, rfl⟩
    have f3 : Fr sTm g g3 := by rw [hg3]; exact (Fr.rf.sI rfl _).sI rfl _
    have T3 : TM g3 n (mR n) (cdR n pf) n := by rw [hg3]; exact (gT.w (Or.inl rfl) _ _).w (Or.inr rfl) _ _
    have R3 := hRg.fr f3 (fun _ => rfl)
    have c22 : gI g3 (7, 0, 22) y.toNat = iZ (cdR n pf y) := by rw [hg3, gI_ne _ (by decide), gI_self]
    refine ⟨(iZ 0, iZ (y + 1), g3), ?_, rfl, rfl, hF.tr f3, T3, ?_⟩
    · show jX9_codeGap_L36 (f + 1) (iZ 0) (iZ y) g = _
      rw [jX9_codeGap_L36, x9_codes hRg hn, Option.bind_some, if_neg (le_n (by omega) (by omega) (by omega)), x9_leastOne hRg h1 hn.2 gT gA y0 y1, Option.bind_some, x9_liveEdge hn.2 gT gA y0 (by omega), Option.bind_some, inB_t (by omega) (by omega) (by omega), if_pos rfl, if_pos rfl, if_pos rfl, iZ_nat (by omega) (by omega), gT.2.1 y y0 (by omega), gT.2.2 y y0 (by omega), iZ_add, iZ_sub, esum, lt_eq, if_pos rfl, vb1, ← hg3, lt_eq, if_pos rfl, x9_codeAt R3 ho y0 y1, Option.bind_some, c22, if_pos rfl, x9_truth, b1_f, iZ_add, i1, iZ_add]
      rfl
    · show IsA g3 (7, 0, 24) n (ct (y + 1))
      rw [hg3]
      refine ((gA.ne (by decide) _ _).put y0 1).eq (fun v v0 v1 => ?_)
      show (if v = y then 1 else ct y v) = ct (y + 1) v
      unfold ct
      by_cases q : v = y
      · rw [if_pos q, if_pos (by omega)]
      · rw [if_neg q]
        by_cases q2 : v < y
        · rw [if_pos q2, if_pos (by omega)]
        · rw [if_neg q2, if_neg (by omega)]
  · intro f x hI
    obtain ⟨x1, x2, g⟩ := x
    obtain ⟨e, e2, hF, gT, gA⟩ := hI
    replace e : x1 = iZ 0 := e
    replace e2 : x2 = iZ (mR n) := e2
    subst e e2
    replace hF : Fr sTm h g := hF
    refine ⟨g, ?_, hF⟩
    show jX9_codeGap_L36 (f + 1) (iZ 0) (iZ (mR n)) g = _
    rw [jX9_codeGap_L36, x9_codes (hR.fr hF (fun _ => rfl)) hn, Option.bind_some, if_pos (le_y (by omega) (by omega) (by omega))]
end
theorem p_codeGap {h : HD} (hR : Rel h) : PV (jX8_codeGap h) jX9_codeGap := by
  obtain ⟨R, g1, -, hc, e0, e1, f1, gc, -, -, -, -, -, -, -⟩ := both_grown hR
  obtain ⟨hok, hC, hM⟩ := id hc
  have hn : 0 ≤ R.1 ∧ R.1 ≤ 11 := ⟨hok.1.1, hok.1.2.1⟩
  obtain ⟨h1, e3, f3⟩ := x7_gap hn gc
  have F1 : Fr scr h (c0 h1 0) := ((sTr_scr f1).tr (sTr_scr f3)).tr (c0_fr h1 0)
  have hQ1 : PrM (c0 h1 0) R.1 R.2.1 R.2.2.1 := hM.pr.fr F1 (fun _ => rfl)
  obtain ⟨h2, e4, f4, t4⟩ := x9_grows hQ1 hok.1
  have hQ2 := hQ1.fr f4 (fun _ => rfl)
  have k11 := fun K => x9_c11 (K := K) hn t4
  obtain ⟨h3, e5, f5, t5, a5⟩ := k11 (fun h5 => jX9_codeGap_L36 FU (iZ 0) (iZ 0) h5)
  obtain ⟨h4, e6, f6⟩ := x9_gapL (hQ2.fr f5 (fun _ => rfl)) hok.1 t5 a5
  refine ⟨iZ 0, h1, h4, ?_, ?_, hR.fr (F1.tr (sTm_scr ((f4.tr f5).tr f6)))⟩
  · unfold jX8_codeGap
    rw [e1, Option.bind_some, e3]
    rfl
  · unfold jX9_codeGap
    rw [lt_eq, c0_def, e4, Option.bind_some, i0, e5, e6]
