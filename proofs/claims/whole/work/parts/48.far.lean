/-! DISTANCES, both sides: far, wide -/
def DC (h : HD) (n : Int) (D : Int → Int → Int) : Prop := ∀ u v, 0 ≤ u → u ≤ n → 0 ≤ v → v ≤ n → gI h (5, u.toNat, 7) v.toNat = iZ (D u v)
def sDi : Rf → Nat → Bool := fun r _ => Nat.beq r.1 5 && Nat.beq r.2.2 7
theorem sDi_Tr {h h2 : HD} (hF : Fr sDi h h2) : Fr sTr h h2 := hF.mono fun r k q => by
  unfold sTr at q
  unfold sDi
  rw [q]
  rfl
theorem GC.di {h h2 : HD} {n m x : Int} {cd : Int → Int} (hG : GC h n m cd x) (hF : Fr sDi h h2) : GC h2 n m cd x := ⟨(hF.1 _ _ rfl).trans hG.1, (hF.1 _ _ rfl).trans hG.2.1, (hF.1 _ _ rfl).trans hG.2.2.1, hG.2.2.2.1.fr hF (fun _ => rfl), hG.2.2.2.2.1.fr hF (fun _ => rfl), hG.2.2.2.2.2.fr hF (fun _ => rfl)⟩
theorem r57 {a b : Nat} (h : a ≠ b) : ((5, a, 7) : Rf) ≠ (5, b, 7) := fun e => h (congrArg (fun x : Rf => x.2.1) e)
section
variable {h : HD} {n : Int}
theorem x7_m2 {m x : Int} {cd : Int → Int} (hn : 0 ≤ n ∧ n ≤ 11) (hG : GC h n m cd x) (K : HD → Option HD) : ∃ h2, jX7_measure_L2 K FU (iZ 0) h = K h2 ∧ Fr sDi h h2 ∧ DC h2 n d0 := by
  refine loopI (fun f (x : Int32 × HD) => jX7_measure_L2 K f x.1 x.2) (fun y x => x.1 = iZ y ∧ Fr sDi h x.2 ∧ ∀ u v, 0 ≤ u → u < y → 0 ≤ v → v ≤ n → gI x.2 (5, u.toNat, 7) v.toNat = iZ (d0 u v)) (a := 0) (b := n + 1) (fun r => ∃ h2, r = K h2 ∧ Fr sDi h h2 ∧ DC h2 n d0) (by omega) ?_ ?_ FU (iZ 0, h) (FU_gt (by omega)) ⟨rfl, Fr.rf, fun u v u0 u1 _ _ => by omega⟩
  · intro f y x y0 y1 hI
    obtain ⟨x1, g⟩ := x
    obtain ⟨e, hF, gD⟩ := hI
    replace e : x1 = iZ y := e
    subst e
    replace hF : Fr sDi h g := hF
    obtain ⟨g2, e2, f2, w2⟩ := j_fill (5, y.toNat, 7) (-1) (n := 12) (by rfl) (by decide) g
    have F2 : Fr sDi g g2 := f2.mono fun r k q => decide_eq_false fun e => by rw [e] at q; cases q
    refine ⟨(iZ (y + 1), sI g2 (5, y.toNat, 7) y.toNat (iZ 0)), ?_, rfl, (hF.tr F2).sI rfl _, fun u v u0 u1 v0 v1 => ?_⟩
    · show jX7_measure_L2 K (f + 1) (iZ y) g = _
      have e2' : jJ7_fill_53178 (5, y.toNat, 7) (-1 : Int32) g = some g2 := e2
      rw [jX7_measure_L2, (hG.di hF).1, if_neg (le_n (by omega) (by omega) (by omega)), i12, if_neg (le_n (by omega) (by omega) (by omega)), inB_t (by omega) (by omega) (by omega), if_pos rfl, iZ_nat (by omega) (by omega), e2', Option.bind_some, if_pos rfl, if_pos rfl, lt_eq, i1, iZ_add, i0]
    · show gI (sI g2 (5, y.toNat, 7) y.toNat (iZ 0)) (5, u.toNat, 7) v.toNat = iZ (d0 u v)
      unfold d0
      by_cases q : u = y
      · subst q
        by_cases q2 : u = v
        · rw [if_pos q2, ← q2, gI_self]
        · rw [gI_nk _ _ _ (by omega), if_neg q2, w2 v v0 (show v < 12 by omega)]
      · rw [gI_ne _ (r57 (by omega)), f2.1 _ _ (decide_eq_false (r57 (by omega)))]
        exact gD u v u0 (by omega) v0 v1
  · intro f x hI
    obtain ⟨x1, g⟩ := x
    obtain ⟨e, hF, gD⟩ := hI
    replace e : x1 = iZ (n + 1) := e
    subst e
    replace hF : Fr sDi h g := hF
    refine ⟨g, ?_, hF, fun u v u0 u1 v0 v1 => gD u v u0 (by omega) v0 v1⟩
    show jX7_measure_L2 K (f + 1) (iZ (n + 1)) g = _
    rw [jX7_measure_L2, (hG.di hF).1, if_pos (le_y (by omega) (by omega) (by omega))]
/-- one edge, up to the y-th node -/
def dY (l s : Int) (D : Int → Int → Int) (y : Int) : Int → Int → Int := fun u v => if u = l ∧ v ≠ l ∧ v < y ∧ D s v ≠ -1 then D s v + 1 else if v = l ∧ u ≠ l ∧ u < y ∧ D s u ≠ -1 then D s u + 1 else D u v
theorem dY_ok (l s : Int) (D : Int → Int → Int) (u v : Int) (hu : u ≤ n) (hv : v ≤ n) : dY l s D (n + 1) u v = dU l s D u v := by
  unfold dY dU
  by_cases q1 : u = l ∧ v ≠ l ∧ D s v ≠ -1
  · rw [if_pos q1, if_pos ⟨q1.1, q1.2.1, by omega, q1.2.2⟩]
  · rw [if_neg q1, if_neg (fun e => q1 ⟨e.1, e.2.1, e.2.2.2⟩)]
    by_cases q2 : v = l ∧ u ≠ l ∧ D s u ≠ -1
    · rw [if_pos q2, if_pos ⟨q2.1, q2.2.1, by omega, q2.2.2⟩]
    · rw [if_neg q2, if_neg (fun e => q2 ⟨e.1, e.2.1, e.2.2.2⟩)]
theorem x7_from {m x l s : Int} {cd : Int → Int} {D : Int → Int → Int} (hn : 0 ≤ n ∧ n ≤ 11) (hG : GC h n m cd x) (l0 : 0 ≤ l) (l1 : l ≤ n) (s0 : 0 ≤ s) (s1 : s ≤ n) (hls : l ≠ s) (hD : DC h n D) (hb : ∀ u v, -1 ≤ D u v ∧ D u v ≤ 100) : ∃ h2, jX7_measureFrom (iZ l) (iZ s) h = some h2 ∧ Fr sDi h h2 ∧ DC h2 n (dU l s D) := by
  unfold jX7_measureFrom
  rw [x7_isNode hG.1 hn (by omega) (by omega), decide_eq_true ⟨l0, l1⟩, if_pos rfl, x7_isNode hG.1 hn (by omega) (by omega), decide_eq_true ⟨s0, s1⟩, if_pos rfl, i0]
  refine loopI (fun f (x : Int32 × HD) => jX7_measureFrom_L19 (iZ l) (iZ s) f x.1 x.2) (fun y x => x.1 = iZ y ∧ Fr sDi h x.2 ∧ DC x.2 n (dY l s D y)) (a := 0) (b := n + 1) (fun r => ∃ h2, r = some h2 ∧ Fr sDi h h2 ∧ DC h2 n (dU l s D)) (by omega) ?_ ?_ FU (iZ 0, h) (FU_gt (by omega)) ⟨rfl, Fr.rf, fun u v u0 u1 v0 v1 => by
    rw [hD u v u0 u1 v0 v1]
    unfold dY
    rw [if_neg (by omega), if_neg (by omega)]⟩
  · intro f y x y0 y1 hI
    obtain ⟨x1, g⟩ := x
    obtain ⟨e, hF, gD⟩ := hI
    replace e : x1 = iZ y := e
    subst e
    replace hF : Fr sDi h g := hF
    replace gD : DC g n (dY l s D y) := gD
    have hsy := hb s y
    have key : jX7_measureFrom_L19 (iZ l) (iZ s) (f + 1) (iZ y) g = (if iZ y = iZ l then jX7_measureFrom_L19 (iZ l) (iZ s) f (iZ (y + 1)) g else (if (gI g (5, s.toNat, 7) y.toNat) = (-1 : Int32) then jX7_measureFrom_L19 (iZ l) (iZ s) f (iZ (y + 1)) g else jX7_measureFrom_L19 (iZ l) (iZ s) f (iZ (y + 1)) (sI (sI g (5, l.toNat, 7) y.toNat ((gI g (5, s.toNat, 7) y.toNat) + (1 : Int32))) (5, y.toNat, 7) l.toNat ((gI g (5, s.toNat, 7) y.toNat) + (1 : Int32))))) := by
      rw [jX7_measureFrom_L19, (hG.di hF).1, if_neg (le_n (by omega) (by omega) (by omega)), i12, if_neg (le_n (by omega) (by omega) (by omega)), inB_t (z := s) (by omega) (by omega) (by omega), if_pos rfl, inB_t (z := y) (by omega) (by omega) (by omega), if_pos rfl, iZ_nat (z := s) (by omega) (by omega), iZ_nat (z := y) (by omega) (by omega), iZ_nat (z := l) (by omega) (by omega), inB_t (z := l) (by omega) (by omega) (by omega)]
      simp only [↓reduceIte, lt_eq]
      rw [i1, iZ_add]
    show ∃ y2 : Int32 × HD, jX7_measureFrom_L19 (iZ l) (iZ s) (f + 1) (iZ y) g = jX7_measureFrom_L19 (iZ l) (iZ s) f y2.1 y2.2 ∧ _
    rw [key]
    by_cases q : y = l
    · refine ⟨(iZ (y + 1), g), if_pos (by rw [q]), rfl, hF, fun u v u0 u1 v0 v1 => ?_⟩
      show gI g (5, u.toNat, 7) v.toNat = iZ (dY l s D (y + 1) u v)
      rw [gD u v u0 u1 v0 v1]
      congr 1
      unfold dY
      by_cases r1 : u = l ∧ v ≠ l ∧ v < y ∧ D s v ≠ -1
      · rw [if_pos r1, if_pos ⟨r1.1, r1.2.1, by omega, r1.2.2.2⟩]
      · have n1 : ¬ (u = l ∧ v ≠ l ∧ v < y + 1 ∧ D s v ≠ -1) := fun e => r1 ⟨e.1, e.2.1, by have := e.2.1; have := e.2.2.1; omega, e.2.2.2⟩
        rw [if_neg r1, if_neg n1]
        by_cases r2 : v = l ∧ u ≠ l ∧ u < y ∧ D s u ≠ -1
        · rw [if_pos r2, if_pos ⟨r2.1, r2.2.1, by omega, r2.2.2.2⟩]
        · have n2 : ¬ (v = l ∧ u ≠ l ∧ u < y + 1 ∧ D s u ≠ -1) := fun e => r2 ⟨e.1, e.2.1, by have := e.2.1; have := e.2.2.1; omega, e.2.2.2⟩
          rw [if_neg r2, if_neg n2]
    · have csy : gI g (5, s.toNat, 7) y.toNat = iZ (D s y) := by
        rw [gD s y s0 s1 y0 (by omega)]
        unfold dY
        rw [if_neg (fun e => hls e.1.symm), if_neg (fun e => q e.1)]
      rw [if_neg (show ¬ iZ y = iZ l from eq_n (by omega) (by omega) (by omega) (by omega) (by omega)), csy]
      by_cases q2 : D s y = -1
      · refine ⟨(iZ (y + 1), g), if_pos (by rw [q2]; rfl), rfl, hF, fun u v u0 u1 v0 v1 => ?_⟩
        show gI g (5, u.toNat, 7) v.toNat = iZ (dY l s D (y + 1) u v)
        rw [gD u v u0 u1 v0 v1]
        congr 1
        unfold dY
        by_cases r1 : u = l ∧ v ≠ l ∧ v < y ∧ D s v ≠ -1
        · rw [if_pos r1, if_pos ⟨r1.1, r1.2.1, by omega, r1.2.2.2⟩]
        · have n1 : ¬ (u = l ∧ v ≠ l ∧ v < y + 1 ∧ D s v ≠ -1) := fun e => by
            by_cases hv : v = y
            · exact e.2.2.2 (by rw [hv]; exact q2)
            · exact r1 ⟨e.1, e.2.1, by have := e.2.2.1; omega, e.2.2.2⟩
          rw [if_neg r1, if_neg n1]
          by_cases r2 : v = l ∧ u ≠ l ∧ u < y ∧ D s u ≠ -1
          · rw [if_pos r2, if_pos ⟨r2.1, r2.2.1, by omega, r2.2.2.2⟩]
          · have n2 : ¬ (v = l ∧ u ≠ l ∧ u < y + 1 ∧ D s u ≠ -1) := fun e => by
              by_cases hv : u = y
              · exact e.2.2.2 (by rw [hv]; exact q2)
              · exact r2 ⟨e.1, e.2.1, by have := e.2.2.1; omega, e.2.2.2⟩
            rw [if_neg r2, if_neg n2]
      · refine ⟨(iZ (y + 1), sI (sI g (5, l.toNat, 7) y.toNat (iZ (D s y) + 1)) (5, y.toNat, 7) l.toNat (iZ (D s y) + 1)), if_neg (show ¬ iZ (D s y) = -1 from eq_n (b := -1) (by omega) (by omega) (by omega) (by omega) (by omega)), rfl, (hF.sI rfl _).sI rfl _, fun u v u0 u1 v0 v1 => ?_⟩
        show gI (sI (sI g (5, l.toNat, 7) y.toNat (iZ (D s y) + 1)) (5, y.toNat, 7) l.toNat (iZ (D s y) + 1)) (5, u.toNat, 7) v.toNat = iZ (dY l s D (y + 1) u v)
        rw [i1, iZ_add, gI_sI]
        by_cases r1 : u = y ∧ v = l
        · rw [if_pos ⟨by rw [r1.1], by rw [r1.2]⟩]
          unfold dY
          rw [if_neg (fun e => e.2.1 r1.2), if_pos ⟨r1.2, fun e => q (by omega), by omega, by rw [r1.1]; exact q2⟩, r1.1]
        · rw [if_neg (fun e => r1 ⟨by have := congrArg (fun x : Rf => x.2.1) e.1; replace this : u.toNat = y.toNat := this; omega, by have := e.2; omega⟩), gI_sI]
          by_cases r2 : u = l ∧ v = y
          · rw [if_pos ⟨by rw [r2.1], by rw [r2.2]⟩]
            unfold dY
            rw [if_pos ⟨r2.1, fun e => q (by omega), by omega, by rw [r2.2]; exact q2⟩, r2.2]
          · rw [if_neg (fun e => r2 ⟨by have := congrArg (fun x : Rf => x.2.1) e.1; replace this : u.toNat = l.toNat := this; omega, by have := e.2; omega⟩), gD u v u0 u1 v0 v1]
            congr 1
            unfold dY
            by_cases t1 : u = l ∧ v ≠ l ∧ v < y ∧ D s v ≠ -1
            · rw [if_pos t1, if_pos ⟨t1.1, t1.2.1, by omega, t1.2.2.2⟩]
            · have n1 : ¬ (u = l ∧ v ≠ l ∧ v < y + 1 ∧ D s v ≠ -1) := fun e => t1 ⟨e.1, e.2.1, by have := e.2.2.1; have := e.1; omega, e.2.2.2⟩
              rw [if_neg t1, if_neg n1]
              by_cases t2 : v = l ∧ u ≠ l ∧ u < y ∧ D s u ≠ -1
              · rw [if_pos t2, if_pos ⟨t2.1, t2.2.1, by omega, t2.2.2.2⟩]
              · have n2 : ¬ (v = l ∧ u ≠ l ∧ u < y + 1 ∧ D s u ≠ -1) := fun e => t2 ⟨e.1, e.2.1, by have := e.2.2.1; have := e.1; omega, e.2.2.2⟩
                rw [if_neg t2, if_neg n2]
  · intro f x hI
    obtain ⟨x1, g⟩ := x
    obtain ⟨e, hF, gD⟩ := hI
    replace e : x1 = iZ (n + 1) := e
    subst e
    replace hF : Fr sDi h g := hF
    replace gD : DC g n (dY l s D (n + 1)) := gD
    refine ⟨g, ?_, hF, fun u v u0 u1 v0 v1 => by rw [gD u v u0 u1 v0 v1, dY_ok l s D u v u1 v1]⟩
    show jX7_measureFrom_L19 (iZ l) (iZ s) (f + 1) (iZ (n + 1)) g = _
    rw [jX7_measureFrom_L19, (hG.di hF).1, if_pos (le_y (by omega) (by omega) (by omega))]
theorem x7_measure {pf : Int → Int} (hn : 0 ≤ n ∧ n ≤ 11) (hG : GC h n (mR n) (cdR n pf) n) : ∃ h2, jX7_measure h = some h2 ∧ Fr sDi h h2 ∧ DC h2 n (dd n (mR n) (cdR n pf) n) := by
  have hmk := mR_ok hn.1
  have hmi := mR_in hn.1
  have hcd : ∀ i, 0 ≤ i → i < mR n → 0 ≤ cdR n pf i ∧ cdR n pf i ≤ n := fun i _ _ => cdR_in hn.1 pf i
  have k2 := fun K => x7_m2 (K := K) hn hG
  obtain ⟨g1, e1, f1, d1⟩ := k2 (fun h6 => jX7_measure_L48 FU ((gI h6 (5, 0, 0) 8) - (1 : Int32)) h6)
  have G1 := hG.di f1
  have key : ∃ h2, jX7_measure_L48 FU (iZ (n - 1 - 0)) g1 = some h2 ∧ Fr sDi g1 h2 ∧ DC h2 n (dd n (mR n) (cdR n pf) n) := by
    refine loopI (fun f (x : Int32 × HD) => jX7_measure_L48 f x.1 x.2) (fun y x => x.1 = iZ (n - 1 - y) ∧ Fr sDi g1 x.2 ∧ DC x.2 n (dd n (mR n) (cdR n pf) y)) (a := 0) (b := n) (fun r => ∃ h2, r = some h2 ∧ Fr sDi g1 h2 ∧ DC h2 n (dd n (mR n) (cdR n pf) n)) hn.1 ?_ ?_ FU (iZ (n - 1 - 0), g1) (FU_gt (by omega)) ⟨rfl, Fr.rf, d1⟩
    · intro f y x y0 y1 hI
      obtain ⟨x1, g⟩ := x
      obtain ⟨e, hF, gD⟩ := hI
      replace e : x1 = iZ (n - 1 - y) := e
      subst e
      replace hF : Fr sDi g1 g := hF
      have G := G1.di hF
      have ht := te (pf := pf) hn.1 (show 0 ≤ n - 1 - y by omega) (show n - 1 - y < n by omega)
      obtain ⟨g2, e2, f2, d2⟩ := x7_from hn G ht.1.1 ht.1.2 ht.2.1.1 ht.2.1.2 ht.2.2 gD (fun u v => by have := dd_in hn.1 hmk hcd y0 (show y ≤ n by omega) u v; omega)
      refine ⟨(iZ (n - 1 - (y + 1)), g2), ?_, rfl, hF.tr f2, by rw [dd_s n _ _ y0]; exact d2⟩
      show jX7_measure_L48 (f + 1) (iZ (n - 1 - y)) g = _
      rw [jX7_measure_L48, i0, if_neg (lt_n (by omega) (by omega) (by omega)), x7_isEdge G.2.2.1 hn (by omega) (by omega), decide_eq_true (by omega), if_pos rfl, inB_t (by omega) (by omega) (by omega), if_pos rfl, if_pos rfl, iZ_nat (by omega) (by omega), G.2.2.2.2.1 _ (by omega) (by omega), G.2.2.2.2.2 _ (by omega) (by omega), e2, Option.bind_some, im1, iZ_add, show n - 1 - y + -1 = n - 1 - (y + 1) by omega]
    · intro f x hI
      obtain ⟨x1, g⟩ := x
      obtain ⟨e, hF, gD⟩ := hI
      replace e : x1 = iZ (n - 1 - n) := e
      subst e
      refine ⟨g, ?_, hF, gD⟩
      show jX7_measure_L48 (f + 1) (iZ (n - 1 - n)) g = _
      rw [jX7_measure_L48, i0, if_pos (lt_y (by omega) (by omega) (by omega))]
  obtain ⟨g2, e2, f2, d2⟩ := key
  refine ⟨g2, ?_, f1.tr f2, d2⟩
  unfold jX7_measure
  rw [i0, e1]
  show jX7_measure_L48 FU ((gI g1 (5, 0, 0) 8) - (1 : Int32)) g1 = _
  rw [G1.2.2.1, i1, iZ_sub, show n - 1 = n - 1 - 0 by omega, e2]
theorem x7_distance {m x : Int} {cd : Int → Int} {D : Int → Int → Int} (hn : 0 ≤ n ∧ n ≤ 11) (hG : GC h n m cd x) (hD : DC h n D) {u v : Int} (u0 : 0 ≤ u) (u1 : u ≤ n) (v0 : 0 ≤ v) (v1 : v ≤ n) : jX7_distance (iZ u) (iZ v) h = some (iZ (D u v)) := by
  unfold jX7_distance
  rw [x7_isNode hG.1 hn (by omega) (by omega), decide_eq_true ⟨u0, u1⟩, if_pos rfl, x7_isNode hG.1 hn (by omega) (by omega), decide_eq_true ⟨v0, v1⟩, if_pos rfl, inB_t (by omega) (by omega) (by omega), if_pos rfl, inB_t (by omega) (by omega) (by omega), if_pos rfl, iZ_nat (by omega) (by omega), iZ_nat (by omega) (by omega), hD u v u0 u1 v0 v1]
end
/-! the reference's walks -/
abbrev sWk : Rf → Nat → Bool := fun r _ => decide (r = (7, 0, 21))
theorem rx1_b {f : Int → Int} {a b M : Int} (n : Int) (ha : 0 ≤ a ∧ a ≤ n) (hb : 0 ≤ b ∧ b ≤ n) (hf : ∀ v, 0 ≤ v → v ≤ n → 0 ≤ f v ∧ f v ≤ M) : ∀ v, 0 ≤ v → v ≤ n → 0 ≤ rx1 f a b v ∧ rx1 f a b v ≤ M := fun v v0 v1 => by
  have h1 := hf a ha.1 ha.2
  have h2 := hf b hb.1 hb.2
  have h3 := rx1_a f a b
  by_cases q : v = a
  · rw [q]; omega
  · rw [rx1_n _ _ q]; exact hf v v0 v1
theorem TM.wk {h h2 : HD} {n m x : Int} {cd : Int → Int} (hT : TM h n m cd x) (hF : Fr sWk h h2) : TM h2 n m cd x := ⟨(hF.1 _ _ rfl).trans hT.1, hT.2.1.fr hF (fun _ => rfl), hT.2.2.fr hF (fun _ => rfl)⟩
section
variable {h : HD} {n b : Int} {pf : Int → Int}
theorem x9_rx {f : Int → Int} {a c : Int} (hn : 0 ≤ n ∧ n ≤ 11) (hA : IsA h (7, 0, 21) (n + 1) f) (hf : ∀ v, 0 ≤ v → v ≤ n → 0 ≤ f v ∧ f v ≤ n + 1) (a0 : 0 ≤ a) (a1 : a ≤ n) (c0 : 0 ≤ c) (c1 : c ≤ n) (g : HD) : jX9_lesser (gI h (7, 0, 21) a.toNat) ((gI h (7, 0, 21) c.toNat) + (1 : Int32)) g = iZ (rx1 f a c a) := by
  have h1 := hf a a0 a1
  have h2 := hf c c0 c1
  rw [hA a a0 (by omega), hA c c0 (by omega), i1, iZ_add, x9_lesser g h1.1 (by omega) (by omega) (by omega)]
  unfold rx1
  rw [if_pos rfl]
  by_cases q : f a < f c + 1
  · rw [if_pos q, if_pos (by omega)]
  · rw [if_neg q]
    by_cases q2 : f a ≤ f c + 1
    · rw [if_pos q2, show f a = f c + 1 by omega]
    · rw [if_neg q2]
theorem x9_w45 (hn : 0 ≤ n ∧ n ≤ 11) (p x2 : Int32) (hT : TM h n (mR n) (cdR n pf) n) {f : Int → Int} (hA : IsA h (7, 0, 21) (n + 1) f) (hf : ∀ v, 0 ≤ v → v ≤ n → 0 ≤ f v ∧ f v ≤ n + 1) (K : HD → Option HD) : ∃ h2, jX9_walks_L45 p x2 K FU (iZ 0) h = K h2 ∧ Fr sWk h h2 ∧ IsA h2 (7, 0, 21) (n + 1) (wE n (mR n) (cdR n pf) f n) ∧ ∀ v, 0 ≤ v → v ≤ n → 0 ≤ wE n (mR n) (cdR n pf) f n v ∧ wE n (mR n) (cdR n pf) f n v ≤ n + 1 := by
  refine loopI (fun k (x : Int32 × HD) => jX9_walks_L45 p x2 K k x.1 x.2) (fun y x => x.1 = iZ y ∧ Fr sWk h x.2 ∧ IsA x.2 (7, 0, 21) (n + 1) (wE n (mR n) (cdR n pf) f y) ∧ ∀ v, 0 ≤ v → v ≤ n → 0 ≤ wE n (mR n) (cdR n pf) f y v ∧ wE n (mR n) (cdR n pf) f y v ≤ n + 1) (a := 0) (b := n) (fun r => ∃ h2, r = K h2 ∧ Fr sWk h h2 ∧ IsA h2 (7, 0, 21) (n + 1) (wE n (mR n) (cdR n pf) f n) ∧ ∀ v, 0 ≤ v → v ≤ n → 0 ≤ wE n (mR n) (cdR n pf) f n v ∧ wE n (mR n) (cdR n pf) f n v ≤ n + 1) hn.1 ?_ ?_ FU (iZ 0, h) (FU_gt (by omega)) ⟨rfl, Fr.rf, hA, hf⟩
  · intro k y x y0 y1 hI
    obtain ⟨x1, g⟩ := x
    obtain ⟨e, hF, gA, gf⟩ := hI
    replace e : x1 = iZ y := e
    subst e
    replace hF : Fr sWk h g := hF
    have T := hT.wk hF
    have ht := te (pf := pf) hn.1 y0 y1
    have hlh := lohi n (mR n) (cdR n pf) y
    rw [wE_s n _ _ f y0]
    obtain ⟨F, hFe⟩ : ∃ F, wE n (mR n) (cdR n pf) f y = F := ⟨_, rfl⟩
    obtain ⟨a, ha⟩ : ∃ a, lo n (mR n) (cdR n pf) y = a := ⟨_, rfl⟩
    obtain ⟨c, hc⟩ : ∃ c, hi n (mR n) (cdR n pf) y = c := ⟨_, rfl⟩
    replace gA : IsA g (7, 0, 21) (n + 1) F := hFe ▸ gA
    replace gf : ∀ v, 0 ≤ v → v ≤ n → 0 ≤ F v ∧ F v ≤ n + 1 := hFe ▸ gf
    rw [hFe, ha, hc]
    have ea : 0 ≤ a ∧ a ≤ n := by rcases hlh with e | e <;> rw [← ha, e.1] <;> first | exact ht.1 | exact ht.2.1
    have ec : 0 ≤ c ∧ c ≤ n := by rcases hlh with e | e <;> rw [← hc, e.2] <;> first | exact ht.1 | exact ht.2.1
    have c19 : gI g (7, 0, 19) y.toNat = iZ a := ha ▸ T.2.1 y y0 y1
    have c20 : gI g (7, 0, 20) y.toNat = iZ c := hc ▸ T.2.2 y y0 y1
    have gA2 : IsA (sI g (7, 0, 21) a.toNat (iZ (rx1 F a c a))) (7, 0, 21) (n + 1) (rx1 F a c) := (gA.put ea.1 _).eq (fun v v0 v1 => by
      by_cases q : v = a
      · rw [if_pos q, q]
      · rw [if_neg q, rx1_n _ _ q])
    have gf2 := rx1_b n ea ec gf
    have gA3 : IsA (sI (sI g (7, 0, 21) a.toNat (iZ (rx1 F a c a))) (7, 0, 21) c.toNat (iZ (rx1 (rx1 F a c) c a c))) (7, 0, 21) (n + 1) (rx F a c) := (gA2.put ec.1 _).eq (fun v v0 v1 => by
      unfold rx
      by_cases q : v = c
      · rw [if_pos q, q]
      · rw [if_neg q, rx1_n _ _ q])
    refine ⟨(iZ (y + 1), sI (sI g (7, 0, 21) a.toNat (iZ (rx1 F a c a))) (7, 0, 21) c.toNat (iZ (rx1 (rx1 F a c) c a c))), ?_, rfl, (hF.sI rfl _).sI rfl _, gA3, rx1_b n ec ea gf2⟩
    show jX9_walks_L45 p x2 K (k + 1) (iZ y) g = _
    rw [jX9_walks_L45, T.1, if_neg (le_n (by omega) (by omega) (by omega)), inB_t (z := y) (by omega) (by omega) (by omega), if_pos rfl, if_pos rfl, iZ_nat (z := y) (by omega) (by omega), c19, inB_t (z := a) (by omega) (by omega) (by omega), if_pos rfl, if_pos rfl, c20, inB_t (z := c) (by omega) (by omega) (by omega), if_pos rfl, if_pos rfl, iZ_nat (z := a) (by omega) (by omega), iZ_nat (z := c) (by omega) (by omega), x9_rx hn gA gf ea.1 ea.2 ec.1 ec.2, lt_eq, if_pos rfl, if_pos rfl, gI_ne _ (by decide), c20, inB_t (z := c) (by omega) (by omega) (by omega), if_pos rfl, if_pos rfl, gI_ne _ (by decide), c19, inB_t (z := a) (by omega) (by omega) (by omega), if_pos rfl, if_pos rfl, iZ_nat (z := a) (by omega) (by omega), iZ_nat (z := c) (by omega) (by omega), x9_rx hn gA2 gf2 ec.1 ec.2 ea.1 ea.2, lt_eq, i1, iZ_add]
  · intro k x hI
    obtain ⟨x1, g⟩ := x
    obtain ⟨e, hF, gA, gf⟩ := hI
    replace e : x1 = iZ n := e
    subst e
    replace hF : Fr sWk h g := hF
    refine ⟨g, ?_, hF, gA, gf⟩
    show jX9_walks_L45 p x2 K (k + 1) (iZ n) g = _
    rw [jX9_walks_L45, (hT.wk hF).1, if_pos (le_y (by omega) (by omega) (by omega))]
theorem x9_walks (hR : PrM h n b pf) (hn : 0 ≤ n ∧ n ≤ 11) (hT : TM h n (mR n) (cdR n pf) n) {p : Int} (p0 : 0 ≤ p) (p1 : p ≤ n) : ∃ h2, jX9_walks (iZ p) h = some h2 ∧ Fr sWk h h2 ∧ IsA h2 (7, 0, 21) (n + 1) (dd n (mR n) (cdR n pf) n p) := by
  have hmk := mR_ok hn.1
  have hcd : ∀ i, 0 ≤ i → i < mR n → 0 ≤ cdR n pf i ∧ cdR n pf i ≤ n := fun i _ _ => cdR_in hn.1 pf i
  obtain ⟨K, hK⟩ : ∃ K : HD → Option HD, K = fun h5 => if inB (iZ p) 12 = true then lt (sI h5 (7, 0, 21) (iZ p).toNatClampNeg (0 : Int32)) fun h6 => jX9_walks_L35 (iZ p) FU (0 : Int32) h6 else none := ⟨_, rfl⟩
  have k2 : ∃ h2, jX9_walks_L2 (iZ p) K FU (iZ 0) h = K h2 ∧ Fr sWk h h2 ∧ IsA h2 (7, 0, 21) (n + 1) (fun _ => n + 1) := by
    refine loopI (fun k (x : Int32 × HD) => jX9_walks_L2 (iZ p) K k x.1 x.2) (fun y x => x.1 = iZ y ∧ Fr sWk h x.2 ∧ IsA x.2 (7, 0, 21) y (fun _ => n + 1)) (a := 0) (b := n + 1) (fun r => ∃ h2, r = K h2 ∧ Fr sWk h h2 ∧ IsA h2 (7, 0, 21) (n + 1) (fun _ => n + 1)) (by omega) ?_ ?_ FU (iZ 0, h) (FU_gt (by omega)) ⟨rfl, Fr.rf, fun z z0 z1 => by omega⟩
    · intro k y x y0 y1 hI
      obtain ⟨x1, g⟩ := x
      obtain ⟨e, hF, gA⟩ := hI
      replace e : x1 = iZ y := e
      subst e
      replace hF : Fr sWk h g := hF
      have hRg := hR.fr hF (fun _ => rfl)
      refine ⟨(iZ (y + 1), sI g (7, 0, 21) y.toNat (iZ (n + 1))), ?_, rfl, hF.sI rfl _, gA.snoc y0 rfl⟩
      show jX9_walks_L2 (iZ p) K (k + 1) (iZ y) g = _
      rw [jX9_walks_L2, x9_spots hRg, Option.bind_some, if_neg (le_n (by omega) (by omega) (by omega)), Option.bind_some, inB_t (by omega) (by omega) (by omega), if_pos rfl, iZ_nat (by omega) (by omega), lt_eq, i1, iZ_add]
    · intro k x hI
      obtain ⟨x1, g⟩ := x
      obtain ⟨e, hF, gA⟩ := hI
      replace e : x1 = iZ (n + 1) := e
      subst e
      replace hF : Fr sWk h g := hF
      refine ⟨g, ?_, hF, gA⟩
      show jX9_walks_L2 (iZ p) K (k + 1) (iZ (n + 1)) g = _
      rw [jX9_walks_L2, x9_spots (hR.fr hF (fun _ => rfl)), Option.bind_some, if_pos (le_y (by omega) (by omega) (by omega))]
  obtain ⟨g1, e1, f1, a1⟩ := k2
  have a2 : IsA (sI g1 (7, 0, 21) p.toNat (iZ 0)) (7, 0, 21) (n + 1) (wR n (mR n) (cdR n pf) p 0) := (a1.put p0 0).eq (fun v v0 v1 => rfl)
  have b2 : ∀ v, 0 ≤ v → v ≤ n → 0 ≤ wR n (mR n) (cdR n pf) p 0 v ∧ wR n (mR n) (cdR n pf) p 0 v ≤ n + 1 := fun v v0 v1 => by
    show 0 ≤ (if v = p then 0 else n + 1) ∧ (if v = p then 0 else n + 1) ≤ n + 1
    split <;> omega
  obtain ⟨g2, hg2⟩ : ∃ g2, g2 = sI g1 (7, 0, 21) p.toNat (iZ 0) := ⟨_, rfl⟩
  rw [← hg2] at a2
  have f2 : Fr sWk g1 g2 := by rw [hg2]; exact Fr.rf.sI rfl _
  have R2 := hR.fr (f1.tr f2) (fun _ => rfl)
  have T2 := hT.wk (f1.tr f2)
  have k3 : ∃ h2, jX9_walks_L35 (iZ p) FU (iZ 0) g2 = some h2 ∧ Fr sWk g2 h2 ∧ IsA h2 (7, 0, 21) (n + 1) (wR n (mR n) (cdR n pf) p (n + 1)) := by
    refine loopI (fun k (x : Int32 × HD) => jX9_walks_L35 (iZ p) k x.1 x.2) (fun y x => x.1 = iZ y ∧ Fr sWk g2 x.2 ∧ IsA x.2 (7, 0, 21) (n + 1) (wR n (mR n) (cdR n pf) p y) ∧ ∀ v, 0 ≤ v → v ≤ n → 0 ≤ wR n (mR n) (cdR n pf) p y v ∧ wR n (mR n) (cdR n pf) p y v ≤ n + 1) (a := 0) (b := n + 1) (fun r => ∃ h2, r = some h2 ∧ Fr sWk g2 h2 ∧ IsA h2 (7, 0, 21) (n + 1) (wR n (mR n) (cdR n pf) p (n + 1))) (by omega) ?_ ?_ FU (iZ 0, g2) (FU_gt (by omega)) ⟨rfl, Fr.rf, a2, b2⟩
    · intro k y x y0 y1 hI
      obtain ⟨x1, g⟩ := x
      obtain ⟨e, hF, gA, gf⟩ := hI
      replace e : x1 = iZ y := e
      subst e
      replace hF : Fr sWk g2 g := hF
      have k45 := fun K => x9_w45 (K := K) hn (iZ p) (iZ y) (T2.wk hF) gA gf
      obtain ⟨g3, e3, f3, a3, b3⟩ := k45 (fun h23 => jX9_walks_L35 (iZ p) k (iZ (y + 1)) h23)
      refine ⟨(iZ (y + 1), g3), ?_, rfl, hF.tr f3, ?_, ?_⟩
      · show jX9_walks_L35 (iZ p) (k + 1) (iZ y) g = _
        rw [jX9_walks_L35, x9_spots (R2.fr hF (fun _ => rfl)), Option.bind_some, if_neg (le_n (by omega) (by omega) (by omega)), i1, iZ_add, i0, e3]
      · show IsA g3 (7, 0, 21) (n + 1) (wR n (mR n) (cdR n pf) p (y + 1))
        rw [wR_s n _ _ p y0]; exact a3
      · show ∀ v, 0 ≤ v → v ≤ n → 0 ≤ wR n (mR n) (cdR n pf) p (y + 1) v ∧ wR n (mR n) (cdR n pf) p (y + 1) v ≤ n + 1
        rw [wR_s n _ _ p y0]; exact b3
    · intro k x hI
      obtain ⟨x1, g⟩ := x
      obtain ⟨e, hF, gA, gf⟩ := hI
      replace e : x1 = iZ (n + 1) := e
      subst e
      replace hF : Fr sWk g2 g := hF
      refine ⟨g, ?_, hF, gA⟩
      show jX9_walks_L35 (iZ p) (k + 1) (iZ (n + 1)) g = _
      rw [jX9_walks_L35, x9_spots (R2.fr hF (fun _ => rfl)), Option.bind_some, if_pos (le_y (by omega) (by omega) (by omega))]
  obtain ⟨g3, e3, f3, a3⟩ := k3
  refine ⟨g3, ?_, (f1.tr f2).tr f3, a3.eq (fun v v0 v1 => walk_end hn.1 hmk hcd p0 p1 v0 (by omega))⟩
  unfold jX9_walks
  rw [← hK, i0, e1, hK]
  show (if inB (iZ p) 12 = true then lt (sI g1 (7, 0, 21) (iZ p).toNatClampNeg (0 : Int32)) fun h6 => jX9_walks_L35 (iZ p) FU (0 : Int32) h6 else none) = _
  rw [inB_t (by omega) (by omega) (by omega), if_pos rfl, iZ_nat (by omega) (by omega), i0, ← hg2, lt_eq, e3]
end
