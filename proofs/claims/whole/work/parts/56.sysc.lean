/-! A SYSTEM that is read: the class -/
/-- a row that is not yet whole: its preferences may be greater than its cars -/
def RwW (R : Row) : Prop := (0 ≤ R.1 ∧ R.1 ≤ 11) ∧ ∀ z, 0 ≤ z → z < R.1 → NmOk (R.2.2.2 z)
theorem x2_carNamedW {h : HD} {o : Nat} {R : Row} {k : List Nat} (hC : RwC h o R) (hok : RwW R) (hk : NmZ k) : jX2_carNamed o (jZ (eC k)) h = some (iZ (cnN R k)) := by
  have hn : 0 ≤ R.1 ∧ R.1 ≤ 11 := hok.1
  obtain ⟨g, hg⟩ : ∃ g, fnd (fun c => decide (R.2.2.2 c = k)) R.1.toNat 0 = g := ⟨_, rfl⟩
  have g1 := fnd_ge (fun c => decide (R.2.2.2 c = k)) R.1.toNat 0
  have g2 : ∀ z, 0 ≤ z → z < g → ¬ R.2.2.2 z = k := fun z q1 q2 => of_decide_eq_false (fnd_not (fun c => decide (R.2.2.2 c = k)) R.1.toNat 0 z q1 (by omega))
  have g3 : g < R.1 → R.2.2.2 g = k := fun q => by
    have := fnd_is (fun c => decide (R.2.2.2 c = k)) R.1.toNat 0 (by omega)
    rw [hg] at this
    exact of_decide_eq_true this
  have hcmp : ∀ z, 0 ≤ z → z < R.1 → (lg_cmp (jZ (eC (R.2.2.2 z))) (jZ (eC k)) = 0 ↔ R.2.2.2 z = k) := fun z q1 q2 => by
    have a1 := eC_le (hok.2 z q1 q2)
    have a2 := eC_z hk
    rw [lg_eq0, jZ_eq (by omega) (by omega) (by omega) (by omega)]
    exact eC_eq (hok.2 z q1 q2) hk
  unfold jX2_carNamed cnN fcar
  rw [hg, i0]
  refine loopN (fun f (x : Int32) => jX2_carNamed_L2 o (jZ (eC k)) h f x) iZ (a := 0) (b := g) (by omega) (fun f z q1 q2 => ?_) (fun f => ?_) FU (FU_gt (by omega))
  · show jX2_carNamed_L2 o (jZ (eC k)) h (f + 1) (iZ z) = _
    rw [jX2_carNamed_L2, hC.1.1, if_neg (le_n (by omega) (by omega) (by omega)), x2_nameOf hC hn q1 (by omega), Option.bind_some, if_neg (fun e => g2 z q1 q2 ((hcmp z q1 (by omega)).mp e)), i1, iZ_add]
  · show jX2_carNamed_L2 o (jZ (eC k)) h (f + 1) (iZ g) = _
    rw [jX2_carNamed_L2, hC.1.1]
    by_cases q : g < R.1
    · rw [if_neg (le_n (by omega) (by omega) (by omega)), x2_nameOf hC hn (by omega) q, Option.bind_some, if_pos ((hcmp g (by omega) q).mpr (g3 q)), if_pos q]
    · rw [if_pos (le_y (by omega) (by omega) (by omega)), if_neg q, im1]
theorem x9_carNamedW {h : HD} {R : Row} {k : List Nat} (hM : RwM h (7, 0, 2) (7, 0, 7) 0 0 R) (hok : RwW R) (hk : NmZ k) : jX9_carNamed (jZ (eM k)) h = some (iZ (cnN R k)) := by
  have hn : 0 ≤ R.1 ∧ R.1 ≤ 11 := hok.1
  obtain ⟨g, hg⟩ : ∃ g, fnd (fun c => decide (R.2.2.2 c = k)) R.1.toNat 0 = g := ⟨_, rfl⟩
  have g1 := fnd_ge (fun c => decide (R.2.2.2 c = k)) R.1.toNat 0
  have g2 : ∀ z, 0 ≤ z → z < g → ¬ R.2.2.2 z = k := fun z q1 q2 => of_decide_eq_false (fnd_not (fun c => decide (R.2.2.2 c = k)) R.1.toNat 0 z q1 (by omega))
  have g3 : g < R.1 → R.2.2.2 g = k := fun q => by
    have := fnd_is (fun c => decide (R.2.2.2 c = k)) R.1.toNat 0 (by omega)
    rw [hg] at this
    exact of_decide_eq_true this
  have n4 : ∀ z : Int, 0 ≤ z → z < R.1 → gJ h (7, 0, 7) z.toNat = jZ (eM (R.2.2.2 z)) := fun z q1 q2 => by
    have := hM.2.2.2 z q1 q2
    rwa [Int.zero_add] at this
  have hcmp : ∀ z, 0 ≤ z → z < R.1 → (lg_cmp (jZ (eM (R.2.2.2 z))) (jZ (eM k)) = 0 ↔ R.2.2.2 z = k) := fun z q1 q2 => by
    have a1 := eM_le (hok.2 z q1 q2)
    have a2 := eM_z hk
    rw [lg_eq0, jZ_eq (by omega) (by omega) (by omega) (by omega)]
    exact eM_eq (hok.2 z q1 q2) hk
  have h0 : gI h (7, 0, 2) 0 = iZ R.1 := hM.pr.1
  unfold jX9_carNamed cnN fcar
  rw [hg, i0]
  refine loopN (fun f (x : Int32) => jX9_carNamed_L2 (jZ (eM k)) h f x) iZ (a := 0) (b := g) (by omega) (fun f z q1 q2 => ?_) (fun f => ?_) FU (FU_gt (by omega))
  · show jX9_carNamed_L2 (jZ (eM k)) h (f + 1) (iZ z) = _
    rw [jX9_carNamed_L2, h0, if_neg (le_n (by omega) (by omega) (by omega)), inB_t (by omega) (by omega) (by omega), if_pos rfl, iZ_nat (by omega) (by omega), n4 z q1 (by omega), if_neg (fun e => g2 z q1 q2 ((hcmp z q1 (by omega)).mp e)), i1, iZ_add]
  · show jX9_carNamed_L2 (jZ (eM k)) h (f + 1) (iZ g) = _
    rw [jX9_carNamed_L2, h0]
    by_cases q : g < R.1
    · rw [if_neg (le_n (by omega) (by omega) (by omega)), inB_t (by omega) (by omega) (by omega), if_pos rfl, iZ_nat (by omega) (by omega), n4 g (by omega) q, if_pos ((hcmp g (by omega) q).mpr (g3 q)), if_pos q]
    · rw [if_pos (le_y (by omega) (by omega) (by omega)), if_neg q, im1]
theorem x2_addW {g : HD} {o : Nat} {R : Row} {k : List Nat} {v : Int} (hC : RwC g o R) (hn : 0 ≤ R.1 ∧ R.1 ≤ 11) (q1 : R.1 < 11) : ∃ h4, jX2_add o (jZ (eC k)) (iZ v) g = some h4 ∧ Fr (s1 o) g h4 ∧ RwC h4 o (comR R k v) := by
  have nj : ∀ i j : Nat, i ≠ j → ((1, o, i) : Rf) ≠ (1, o, j) := fun i j hij e => hij (congrArg (fun x : Rf => x.2.2) e)
  obtain ⟨⟨p2, p3, pp⟩, pn⟩ := hC
  refine ⟨sI (sJ (sI g (1, o, 0) 2 (iZ (R.1 + 1))) (1, o, 1) R.1.toNat (jZ (eC k))) (1, o, 2) R.1.toNat (iZ v), ?_, ((Fr.rf.sI (s1_t o 0 _) _).sJ (s1_t o 1 _) _).sI (s1_t o 2 _) _, ⟨?_, ?_, ?_⟩, ?_⟩
  · unfold jX2_add jX2_put
    rw [p2, i11, if_neg (le_n (by omega) (by omega) (by omega)), lt_eq, i1, iZ_add, gI_self, iZ_sub, show R.1 + 1 - 1 = R.1 by omega, x2_hasCar (n := R.1 + 1) (gI_self _ _ _ _) ⟨by omega, by omega⟩ (by omega) (by omega), decide_eq_true ⟨hn.1, by omega⟩, if_pos rfl, inB_t (by omega) (by omega) (by omega), if_pos rfl, lt_eq, if_pos rfl, lt_eq, iZ_nat (by omega) (by omega)]
    rfl
  · rw [gI_ne _ (nj 0 2 (by decide)), gI_sJ, gI_self]; rfl
  · rw [gI_ne _ (nj 0 2 (by decide)), gI_sJ, gI_nk _ _ _ (by decide)]; exact p3
  · intro z z1 z2
    replace z2 : z < R.1 + 1 := z2
    show _ = iZ (updP R.2.2.1 R.1 v z)
    unfold updP
    rw [gI_sI, gI_sJ]
    by_cases e : z = R.1
    · rw [if_pos ⟨rfl, by rw [e]⟩, if_pos e]
    · rw [if_neg (fun q => e (by omega)), if_neg e, gI_ne _ (nj 2 0 (by decide))]
      exact pp z z1 (by omega)
  · intro z z1 z2
    replace z2 : z < R.1 + 1 := z2
    show _ = jZ (eC (if z = R.1 then k else R.2.2.2 z))
    rw [gJ_sI, gJ_sJ]
    by_cases e : z = R.1
    · rw [if_pos ⟨rfl, by rw [e]⟩, if_pos e]
    · rw [if_neg (fun q => e (by omega)), if_neg e, gJ_sI]
      exact pn z z1 (by omega)
def wPark : List Nat := [16, 1, 18, 11]
def wBack : List Nat := [2, 1, 3, 11]
def wCar : List Nat := [3, 1, 18]
theorem wPark_ok : NmOk wPark := ⟨by decide, by decide, by decide⟩
theorem wBack_ok : NmOk wBack := ⟨by decide, by decide, by decide⟩
theorem wCar_ok : NmOk wCar := ⟨by decide, by decide, by decide⟩
theorem txPark : tx167.2 = wPark.map (fun (l : Nat) => iZ (96 + (l : Int))) := by decide
theorem txBack : tx187.2 = wBack.map (fun (l : Nat) => iZ (96 + (l : Int))) := by decide
theorem txCar : tx199.2 = wCar.map (fun (l : Nat) => iZ (96 + (l : Int))) := by decide
/-- what is read, or the error: its code and place -/
abbrev Rd (α : Type) : Type := (Int × Int) ⊕ α
abbrev isWd (t : Tok) (ks : List Nat) : Prop := t.1 = 1 ∧ t.2.2.2.1 = ks
abbrev isMk (t : Tok) (c : Int) : Prop := t.1 = 3 ∧ t.2.2.2.2 = c
/-- a number of a to b at token t -/
def numP (t : Tok) (a b : Int) : Rd Int := if t.1 = 2 ∧ a ≤ t.2.2.2.2 ∧ t.2.2.2.2 ≤ b then .inr t.2.2.2.2 else .inl (if t.1 = 2 then 2 else 1, t.2.1)
def mkP (t : Tok) (c : Int) : Rd Unit := if isMk t c then .inr () else .inl (1, t.2.1)
/-- one car; t stands at its first word -/
def carP (len : Int) (bs : Int → Int) (n : Int) (R : Row) (t : Tok) : Rd (Row × Tok) :=
  if isWd t wCar then
    if (nx len bs t).1 = 1 then
      if cnN R (nx len bs t).2.2.2.1 = -1 then
        match numP (nx len bs (nx len bs t)) 0 n with
        | .inl e => .inl e
        | .inr v => match mkP (nx len bs (nx len bs (nx len bs t))) 59 with
          | .inl e => .inl e
          | .inr _ => .inr (comR R (nx len bs t).2.2.2.1 v, nx len bs (nx len bs (nx len bs (nx len bs t))))
      else .inl (3, (nx len bs t).2.1)
    else .inl (1, (nx len bs t).2.1)
  else .inl (1, t.2.1)
/-- what the class's reading of a system may touch -/
def sRC : Rf → Nat → Bool := fun r _ => Nat.beq r.1 4 || (Nat.beq r.1 1 && Nat.beq r.2.1 1)
theorem sTE_RC {h h2 : HD} (hF : Fr sTE h h2) : Fr sRC h h2 := hF.mono fun r k q => by
  unfold sRC at q
  exact (Bool.or_eq_false_iff.mp q).1
theorem s1_RC {h h2 : HD} (hF : Fr (s1 1) h h2) : Fr sRC h h2 := hF.mono fun r k q => by
  unfold sRC at q
  exact (Bool.or_eq_false_iff.mp q).2
theorem comR_W {R : Row} {k : List Nat} {v : Int} (hW : RwW R) (hn : R.1 < 11) (hk : NmOk k) : RwW (comR R k v) := by
  refine ⟨⟨by show 0 ≤ R.1 + 1; have := hW.1; omega, by show R.1 + 1 ≤ 11; omega⟩, fun z z0 z1 => ?_⟩
  replace z1 : z < R.1 + 1 := z1
  show NmOk (if z = R.1 then k else R.2.2.2 z)
  by_cases q : z = R.1
  · rw [if_pos q]; exact hk
  · rw [if_neg q]; exact hW.2 z z0 (by omega)
/-- the class's answer to a piece of reading -/
def RsC (h g : HD) (len : Int) (bs : Int → Int) (ok : Bool) (r : Rd (Row × Tok)) : Prop := match r with
  | .inl (c, p) => ok = false ∧ ErC g c p
  | .inr (R, t) => ok = true ∧ RwC g 1 R ∧ CT g len bs t ∧ TkOk t ∧ RwW R ∧ gI g (4, 0, 0) 7 = gI h (4, 0, 0) 7 ∧ gI g (4, 0, 0) 8 = gI h (4, 0, 0) 8
section
variable {h : HD} {len : Int} {bs : Int → Int} {t : Tok}
theorem c_car {R : Row} {n : Int} (hC : CT h len bs t) (hT : TkOk t) (hR : RwC h 1 R) (hW : RwW R) (hn : 0 ≤ n ∧ n ≤ 11) (hRn : R.1 < n) : ∃ ok g, jX8_readCar 1 (iZ n) h = some (ok, g) ∧ Fr sRC h g ∧ RsC h g len bs ok (carP len bs n R t) := by
  unfold jX8_readCar
  rw [x6_isWord_ hC.2.2.1 hT wCar_ok txCar, Option.bind_some, i0]
  unfold carP
  by_cases q0 : isWd t wCar
  · rw [decide_eq_true (show t.1 = 1 ∧ t.2.2.2.1 = wCar from q0), if_pos rfl, if_pos q0]
    have nm := c_name hC
    have n1 := nx_ok hC
    by_cases q1 : (nx len bs t).1 = 1
    · obtain ⟨g1, e1, f1, k1, a7, a8⟩ := nm.1 q1
      rw [if_pos q1, e1, Option.bind_some, if_pos rfl]
      have hw := n1.1.1 q1
      have R1 : RwC g1 1 R := hR.fr f1 (fun _ _ => rfl)
      have ew : jX6_word g1 = jZ (eC (nx len bs t).2.2.2.1) := k1.2.2.1.2.2.2.1 q1
      show ∃ ok g, ((jX2_carNamed 1 (jX6_word g1) g1).bind _) = some (ok, g) ∧ _
      have hcn := cnN_in (R := R) (k := (nx len bs t).2.2.2.1) hW.1.1
      rw [ew, x2_carNamedW R1 hW (Or.inr hw), Option.bind_some, im1]
      by_cases q2 : cnN R (nx len bs t).2.2.2.1 = -1
      · rw [if_pos q2, if_pos (show iZ (cnN R (nx len bs t).2.2.2.1) = iZ (-1) by rw [q2])]
        have num := c_number k1 (a := 0) (b := n) (by omega) (by omega) (by omega) (by omega)
        have n2 := nx_ok k1
        unfold numP
        by_cases q3 : (nx len bs (nx len bs t)).1 = 2 ∧ 0 ≤ (nx len bs (nx len bs t)).2.2.2.2 ∧ (nx len bs (nx len bs t)).2.2.2.2 ≤ n
        · obtain ⟨g2, e2, f2, k2, v5, b7, b8⟩ := num.1 q3
          rw [if_pos q3]
          show ∃ ok g, ((jX6_readNumber (iZ 0) (iZ n) g1).bind _) = some (ok, g) ∧ _
          rw [e2, Option.bind_some, if_pos rfl]
          have R2 : RwC g2 1 R := R1.fr f2 (fun _ _ => rfl)
          obtain ⟨g3, e3, f3, c3⟩ := x2_addW (k := (nx len bs t).2.2.2.1) (v := (nx len bs (nx len bs t)).2.2.2.2) R2 hW.1 (by omega)
          show ∃ ok g, ((jX2_add 1 (jZ (eC (nx len bs t).2.2.2.1)) (jX6_number g2) g2).bind _) = some (ok, g) ∧ _
          unfold jX6_number
          rw [v5, e3, Option.bind_some]
          have k3 : CT g3 len bs (nx len bs (nx len bs t)) := k2.fr f3 rfl (fun _ => rfl) (fun _ _ => rfl)
          have mk := c_mark k3 (c := 59) (by decide) (by decide)
          unfold mkP
          by_cases q4 : isMk (nx len bs (nx len bs (nx len bs t))) 59
          · obtain ⟨g4, e4, f4, k4, d7, d8⟩ := mk.1 q4
            rw [if_pos q4]
            show ∃ ok g, ((jX6_readMark (iZ 59) g3).bind _) = some (ok, g) ∧ _
            rw [e4, Option.bind_some, if_pos rfl]
            obtain ⟨g5, e5, f5, k5, h7, h8⟩ := c_adv k4
            show ∃ ok g, ((jX6_advance g4).bind _) = some (ok, g) ∧ _
            rw [e5, Option.bind_some]
            have c5 : RwC g5 1 (comR R (nx len bs t).2.2.2.1 (nx len bs (nx len bs t)).2.2.2.2) := (c3.fr f4 (fun _ _ => rfl)).fr f5 (fun _ _ => rfl)
            refine ⟨true, g5, rfl, ((((sTE_RC f1).tr (sTE_RC f2)).tr (s1_RC f3)).tr (sTE_RC f4)).tr (sTE_RC f5), rfl, c5, k5, (nx_ok k4).1, comR_W hW (by omega) hw, ?_, ?_⟩
            · rw [h7, d7, f3.1 _ _ rfl, b7, a7]
            · rw [h8, d8, f3.1 _ _ rfl, b8, a8]
          · obtain ⟨g4, e4, f4, r4⟩ := mk.2 q4
            rw [if_neg q4]
            show ∃ ok g, ((jX6_readMark (iZ 59) g3).bind _) = some (ok, g) ∧ _
            rw [e4, Option.bind_some, if_neg Bool.false_ne_true]
            exact ⟨false, g4, rfl, (((sTE_RC f1).tr (sTE_RC f2)).tr (s1_RC f3)).tr (sTE_RC f4), rfl, r4⟩
        · obtain ⟨g2, e2, f2, r2⟩ := num.2 q3
          rw [if_neg q3]
          show ∃ ok g, ((jX6_readNumber (iZ 0) (iZ n) g1).bind _) = some (ok, g) ∧ _
          rw [e2, Option.bind_some, if_neg Bool.false_ne_true]
          exact ⟨false, g2, rfl, (sTE_RC f1).tr (sTE_RC f2), rfl, r2⟩
      · rw [if_neg q2, if_neg (show ¬ iZ (cnN R (nx len bs t).2.2.2.1) = iZ (-1) from eq_n (by omega) (by omega) (by omega) (by omega) (by omega))]
        obtain ⟨g2, e2, f2, r2⟩ := x6_fail k1.2.2.1 3
        show ∃ ok g, ((jX6_fail (iZ 3) g1).bind _) = some (ok, g) ∧ _
        rw [e2, Option.bind_some]
        exact ⟨false, g2, rfl, (sTE_RC f1).tr (sTE_RC (sEr_TE f2)), rfl, r2⟩
    · obtain ⟨g1, e1, f1, r1⟩ := nm.2 q1
      rw [if_neg q1, e1, Option.bind_some, if_neg Bool.false_ne_true]
      exact ⟨false, g1, rfl, sTE_RC f1, rfl, r1⟩
  · rw [decide_eq_false (show ¬ (t.1 = 1 ∧ t.2.2.2.1 = wCar) from q0), if_neg Bool.false_ne_true, if_neg q0]
    obtain ⟨g2, e2, f2, r2⟩ := x6_fail hC.2.2.1 1
    show ∃ ok g, ((jX6_fail (iZ 1) h).bind _) = some (ok, g) ∧ _
    rw [e2, Option.bind_some]
    exact ⟨false, g2, rfl, sTE_RC (sEr_TE f2), rfl, r2⟩
end
theorem carP_n {len : Int} {bs : Int → Int} {n : Int} {R R2 : Row} {t t2 : Tok} (h : carP len bs n R t = .inr (R2, t2)) : R2.1 = R.1 + 1 ∧ R2.2.1 = R.2.1 := by
  unfold carP at h
  split at h
  · split at h
    · split at h
      · split at h
        · cases h
        · split at h
          · cases h
          · cases h
            exact ⟨rfl, rfl⟩
      · cases h
    · cases h
  · cases h
/-- d cars -/
def carsP (len : Int) (bs : Int → Int) (n : Int) : Nat → Row → Tok → Rd (Row × Tok)
  | 0, R, t => .inr (R, t)
  | d + 1, R, t => match carP len bs n R t with
    | .inl e => .inl e
    | .inr (R2, t2) => carsP len bs n d R2 t2
theorem c_cars {len : Int} {bs : Int → Int} {n : Int} (hn : 0 ≤ n ∧ n ≤ 11) (K : HD → Option (Bool × HD)) : ∀ (d : Nat) (f : Nat) (h : HD) (R : Row) (t : Tok), CT h len bs t → TkOk t → RwC h 1 R → RwW R → R.1 + d = n → (match carsP len bs n d R t with
    | .inl (c, p) => ∃ g, jX8_readSystem_L84 1 (iZ n) K (f + d + 1) (iZ R.1) h = some (false, g) ∧ Fr sRC h g ∧ ErC g c p
    | .inr (R2, t2) => ∃ g, jX8_readSystem_L84 1 (iZ n) K (f + d + 1) (iZ R.1) h = K g ∧ Fr sRC h g ∧ RwC g 1 R2 ∧ CT g len bs t2 ∧ TkOk t2 ∧ RwW R2 ∧ R2.1 = n ∧ R2.2.1 = R.2.1 ∧ gI g (4, 0, 0) 7 = gI h (4, 0, 0) 7 ∧ gI g (4, 0, 0) 8 = gI h (4, 0, 0) 8) := by
  intro d
  induction d with
  | zero =>
    intro f h R t hC hT hR hW hd
    show ∃ g, jX8_readSystem_L84 1 (iZ n) K (f + 0 + 1) (iZ R.1) h = K g ∧ _
    refine ⟨h, ?_, Fr.rf, hR, hC, hT, hW, by omega, rfl, rfl, rfl⟩
    rw [jX8_readSystem_L84, if_pos (le_y (by omega) (by omega) (by omega))]
  | succ d ih =>
    intro f h R t hC hT hR hW hd
    have h0 := hW.1
    obtain ⟨ok, g, e, fr, rs⟩ := c_car hC hT hR hW hn (show R.1 < n by omega)
    have hs : jX8_readSystem_L84 1 (iZ n) K (f + (d + 1) + 1) (iZ R.1) h = (if ok = true then jX8_readSystem_L84 1 (iZ n) K (f + d + 1) (iZ (R.1 + 1)) g else some (false, g)) := by
      rw [jX8_readSystem_L84, if_neg (le_n (by omega) (by omega) (by omega)), e, Option.bind_some, i1, iZ_add]
      rfl
    rw [hs]
    show match (match carP len bs n R t with | .inl e => .inl e | .inr (R2, t2) => carsP len bs n d R2 t2 : Rd (Row × Tok)) with | .inl (c, p) => _ | .inr (R2, t2) => _
    cases hc : carP len bs n R t with
    | inl er =>
      rw [hc] at rs
      obtain ⟨c, p⟩ := er
      obtain ⟨r1, r2⟩ := rs
      refine ⟨g, ?_, fr, r2⟩
      rw [r1, if_neg Bool.false_ne_true]
    | inr rt =>
      rw [hc] at rs
      obtain ⟨R2, t2⟩ := rt
      obtain ⟨r1, r2, r3, r4, r5, r6, r7⟩ := rs
      have hn2 := carP_n hc
      have := ih f g R2 t2 r3 r4 r2 r5 (by omega)
      rw [r1, if_pos rfl]
      rw [hn2.1] at this
      show match carsP len bs n d R2 t2 with | .inl (c, p) => _ | .inr (R2, t2) => _
      cases hc2 : carsP len bs n d R2 t2 with
      | inl er =>
        rw [hc2] at this
        obtain ⟨c, p⟩ := er
        obtain ⟨g2, e2, f2, k2⟩ := this
        exact ⟨g2, e2, fr.tr f2, k2⟩
      | inr rt =>
        rw [hc2] at this
        obtain ⟨R3, t3⟩ := rt
        obtain ⟨g2, e2, f2, k1, k2, k3, k4, k5, k6, k7, k8⟩ := this
        exact ⟨g2, e2, fr.tr f2, k1, k2, k3, k4, k5, k6.trans hn2.2, k7.trans r6, k8.trans r7⟩
