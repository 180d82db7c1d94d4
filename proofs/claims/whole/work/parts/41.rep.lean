/-! THE REPORT -/
theorem Pk.fr {S : Rf → Nat → Bool} {h h2 : HD} {o : Nat} {n b : Int} {pf : Int → Int} {c : Int} (hK : Pk h o n b pf c) (hF : Fr S h h2) (hs : ∀ j k, S (2, o, j) k = false) : Pk h2 o n b pf c := ⟨⟨(hF.1 _ _ (hs _ _)).trans hK.1.1, (hF.1 _ _ (hs _ _)).trans hK.1.2.1, (hF.1 _ _ (hs _ _)).trans hK.1.2.2.1, (hF.1 _ _ (hs _ _)).trans hK.1.2.2.2.1, hK.1.2.2.2.2.1.fr hF (hs _), hK.1.2.2.2.2.2.1.fr hF (hs _), hK.1.2.2.2.2.2.2.1.fr hF (hs _), hK.1.2.2.2.2.2.2.2.fr hF (hs _)⟩, (hF.1 _ _ (hs _ _)).trans hK.2⟩
theorem PkM.fr {S : Rf → Nat → Bool} {h h2 : HD} {n b : Int} {pf : Int → Int} {c : Int} (hK : PkM h n b pf c) (hF : Fr S h h2) (h1 : ∀ k, S (7, 0, 13) k = false) (h3 : ∀ k, S (7, 0, 14) k = false) (h4 : ∀ k, S (7, 0, 15) k = false) : PkM h2 n b pf c := ⟨hK.1.fr hF h1, hK.2.1.fr hF h3, hK.2.2.fr hF h4⟩
abbrev Tx : Type := Int × (Int → Int)
def ps (s : Tx) (b : Int) : Tx := (s.1 + 1, pu s.2 s.1 b)
def psN (s : Tx) (ks : List Nat) (c : Int) : Tx := itr (fun c s => ps s (96 + ltr ks c)) s c
theorem psN_s (s : Tx) (ks : List Nat) {c : Int} (h : 0 ≤ c) : psN s ks (c + 1) = ps (psN s ks c) (96 + ltr ks c) := itr_s _ _ h
theorem psN_0 (s : Tx) (ks : List Nat) : psN s ks 0 = s := rfl
theorem psN_len (s : Tx) (ks : List Nat) {c : Int} (h : 0 ≤ c) : (psN s ks c).1 = s.1 + c := by
  refine ind_Z (P := fun c => (psN s ks c).1 = s.1 + c) (by rw [psN_0]; omega) (fun y h1 h2 ih => ?_) h
  rw [psN_s _ _ h1]
  show (psN s ks y).1 + 1 = _
  omega
def sp0 (n b : Int) (pf : Int → Int) (nm : Int → List Nat) (s : Tx) (z : Int) : Tx :=
  if tkO (n + 1) b pf n z = -1 then ps s 46 else if mv (n + 1) b pf (tkO (n + 1) b pf n z) = 0 then ps (psN s (nm (tkO (n + 1) b pf n z)) ((nm (tkO (n + 1) b pf n z)).length : Int)) 33 else psN s (nm (tkO (n + 1) b pf n z)) ((nm (tkO (n + 1) b pf n z)).length : Int)
def sp1 (n b : Int) (pf : Int → Int) (nm : Int → List Nat) (z : Int) (s : Tx) : Tx := sp0 n b pf nm (if z ≤ 0 then s else ps s 32) z
def rpS (n b : Int) (pf : Int → Int) (nm : Int → List Nat) (z : Int) : Tx := itr (sp1 n b pf nm) (0, fun _ => 0) z
theorem rpS_s (n b : Int) (pf : Int → Int) (nm : Int → List Nat) {z : Int} (h : 0 ≤ z) : rpS n b pf nm (z + 1) = sp1 n b pf nm z (rpS n b pf nm z) := itr_s _ _ h
/-- bytes of a text: below 128 -/
def Tb (s : Tx) : Prop := 0 ≤ s.1 ∧ ∀ z, 0 ≤ z → z < s.1 → 0 ≤ s.2 z ∧ s.2 z < 128
theorem Tb.ps {s : Tx} (h : Tb s) {b : Int} (h1 : 0 ≤ b) (h2 : b < 128) : Tb (ps s b) := ⟨by show 0 ≤ s.1 + 1; have := h.1; omega, fun z z0 z1 => by
  replace z1 : z < s.1 + 1 := z1
  show 0 ≤ pu s.2 s.1 b z ∧ pu s.2 s.1 b z < 128
  unfold pu
  split
  · exact ⟨h1, h2⟩
  · exact h.2 z z0 (by omega)⟩
theorem Tb_psN {s : Tx} (h : Tb s) {ks : List Nat} (hk : Lt ks) {c : Int} (h1 : 0 ≤ c) (h2 : c ≤ ks.length) : Tb (psN s ks c) := by
  refine ind_Z (P := fun c => Tb (psN s ks c)) h (fun y y1 y2 ih => ?_) h1
  rw [psN_s _ _ y1]
  have := ltr_in hk y1 (by omega)
  exact ih.ps (by omega) (by omega)
section
variable {n b : Int} {pf : Int → Int} {nm : Int → List Nat}
theorem sp0_ok (hok : RwOk (n, b, pf, nm)) {s : Tx} (hs : Tb s) (z : Int) : Tb (sp0 n b pf nm s z) ∧ (sp0 n b pf nm s z).1 ≤ s.1 + 9 := by
  have hn : 0 ≤ n := hok.1.1
  unfold sp0
  by_cases q : tkO (n + 1) b pf n z = -1
  · rw [if_pos q]
    exact ⟨hs.ps (by decide) (by decide), by show s.1 + 1 ≤ _; omega⟩
  · rw [if_neg q]
    have ht := (tk_own (b := b) (pf := pf) hn hn z).resolve_left q
    have hk := hok.2 _ ht.1 ht.2.1
    have h1 := Tb_psN hs hk.lt (c := ((nm (tkO (n + 1) b pf n z)).length : Int)) (by omega) (Int.le_refl _)
    have h2 := psN_len s (nm (tkO (n + 1) b pf n z)) (c := ((nm (tkO (n + 1) b pf n z)).length : Int)) (by omega)
    have h8 : (nm (tkO (n + 1) b pf n z)).length ≤ 8 := hk.2.1
    split
    · exact ⟨h1.ps (by decide) (by decide), by show (psN _ _ _).1 + 1 ≤ _; omega⟩
    · exact ⟨h1, by omega⟩
theorem rpS_ok (hok : RwOk (n, b, pf, nm)) {z : Int} (hz : 0 ≤ z) : Tb (rpS n b pf nm z) ∧ (rpS n b pf nm z).1 ≤ 10 * z ∧ (1 ≤ z → (rpS n b pf nm z).1 ≤ 10 * z - 1) := by
  refine ind_Z (P := fun z => Tb (rpS n b pf nm z) ∧ (rpS n b pf nm z).1 ≤ 10 * z ∧ (1 ≤ z → (rpS n b pf nm z).1 ≤ 10 * z - 1)) ⟨⟨(Int.le_refl 0 : (0 : Int) ≤ 0), fun z z0 z1 => absurd z1 (by show ¬ z < 0; omega)⟩, (by decide : (0 : Int) ≤ 10 * 0), fun e => absurd e (by decide)⟩ (fun y y1 y2 ih => ?_) hz
  rw [rpS_s _ _ _ _ y1]
  unfold sp1
  by_cases q : y ≤ 0
  · rw [if_pos q]
    have := sp0_ok hok ih.1 y
    have := ih.2.1
    exact ⟨‹Tb _ ∧ _›.1, by omega, fun _ => by omega⟩
  · rw [if_neg q]
    have h1 : Tb (ps (rpS n b pf nm y) 32) := ih.1.ps (by decide) (by decide)
    have h2 := sp0_ok hok h1 y
    have h3 : (ps (rpS n b pf nm y) 32).1 = (rpS n b pf nm y).1 + 1 := rfl
    have h4 := ih.2.2 (by omega)
    exact ⟨h2.1, by omega, fun _ => by omega⟩
end
theorem byt_i {b : Int} (h1 : 0 ≤ b) (h2 : b < 256) : byt (iZ b) = b := by
  unfold byt
  rw [iZ_toInt (by omega) (by omega)]
  omega
/-! the class -/
theorem t1_add {h : HD} {s : Tx} {b : Int} (hB : BfC 1 h s.1 s.2) (hl : s.1 < 120) (h1 : 0 ≤ b) (h2 : b < 256) : ∃ h2, jX1_add 1 (iZ b) h = some h2 ∧ Fr (sBf 1) h h2 ∧ BfC 1 h2 (ps s b).1 (ps s b).2 := by
  obtain ⟨g, e, f, c⟩ := x1_add (iZ b) hB (show s.1 < ((bN 1 : Nat) : Int) from hl)
  rw [byt_i h1 h2] at c
  exact ⟨g, e, f, c⟩
theorem t1_name {h : HD} {s : Tx} {ks : List Nat} (hk : NmOk ks) (hB : BfC 1 h s.1 s.2) (hl : s.1 + 8 ≤ 120) : ∃ h2, jX1_addName 1 (jZ (eC ks)) h = some h2 ∧ Fr (sBf 1) h h2 ∧ BfC 1 h2 (psN s ks ks.length).1 (psN s ks ks.length).2 := by
  have h8 := hk.2.1
  have h1 := hk.1
  unfold jX1_addName
  rw [i0]
  refine loopI (fun f (x : Int32 × HD) => jX1_addName_L2 1 (jZ (eC ks)) f x.1 x.2) (fun y x => x.1 = iZ y ∧ Fr (sBf 1) h x.2 ∧ BfC 1 x.2 (psN s ks y).1 (psN s ks y).2) (a := 0) (b := ks.length) (fun r => ∃ h2, r = some h2 ∧ Fr (sBf 1) h h2 ∧ BfC 1 h2 (psN s ks ks.length).1 (psN s ks ks.length).2) (by omega) ?_ ?_ FU (iZ 0, h) (FU_gt (by omega)) ⟨rfl, Fr.rf, hB⟩
  · intro f y x y0 y1 hI
    obtain ⟨x1, h4⟩ := x
    obtain ⟨e, hF, hA⟩ := hI
    replace e : x1 = iZ y := e
    subst e
    replace hA : BfC 1 h4 (psN s ks y).1 (psN s ks y).2 := hA
    have hl2 := ltr_in hk.lt y0 y1
    have hlen := psN_len s ks y0
    obtain ⟨h5, e5, f5, c5⟩ := t1_add (b := 96 + ltr ks y) hA (by omega) (by omega) (by omega)
    refine ⟨(iZ (y + 1), h5), ?_, rfl, hF.tr f5, by rw [psN_s _ _ y0]; exact c5⟩
    show jX1_addName_L2 1 (jZ (eC ks)) (f + 1) (iZ y) h4 = _
    rw [jX1_addName_L2, i8, if_neg (le_n (by omega) (by omega) (by omega)), x8_letterOf h4 (Or.inr hk) (by omega) (by omega), if_pos (show 0 ≤ y ∧ y < 8 by omega), i0, if_neg (le_n (by omega) (by omega) (by omega)), i96, iZ_add, e5, Option.bind_some, i1, iZ_add]
  · intro f x hI
    obtain ⟨x1, h4⟩ := x
    obtain ⟨e, hF, hA⟩ := hI
    replace e : x1 = iZ ks.length := e
    subst e
    refine ⟨h4, ?_, hF, hA⟩
    show jX1_addName_L2 1 (jZ (eC ks)) (f + 1) (iZ ks.length) h4 = _
    rw [jX1_addName_L2, i8]
    by_cases q : ks.length = 8
    · rw [if_pos (le_y (by omega) (by omega) (by omega))]
    · rw [if_neg (le_n (by omega) (by omega) (by omega)), x8_letterOf h4 (Or.inr hk) (by omega) (by omega), if_pos (show 0 ≤ (ks.length : Int) ∧ (ks.length : Int) < 8 by omega)]
      unfold ltr
      rw [if_neg (Int.lt_irrefl _), i0, if_pos (le_y (by omega) (by omega) (by omega))]
theorem t1_spot {h : HD} {n b z : Int} {pf : Int → Int} {nm : Int → List Nat} {s : Tx} (hC : RwC h 0 (n, b, pf, nm)) (hok : RwOk (n, b, pf, nm)) (hK : Pk h 0 n b pf n) (z0 : 0 ≤ z) (z1 : z ≤ n) (hB : BfC 1 h s.1 s.2) (hl : s.1 + 9 ≤ 120) (X : HD → Option (Int32 × HD)) : ∃ h2, Fr (sBf 1) h h2 ∧ BfC 1 h2 (sp0 n b pf nm s z).1 (sp0 n b pf nm s z).2 ∧ ((jX4_takerOf 0 (iZ z) h).bind fun q3 => (if q3 = (-1 : Int32) then (jX1_add 1 (46 : Int32) h).bind fun q8 => X q8 else (jX2_nameOf 0 q3 h).bind fun q4 => (jX1_addName 1 q4 h).bind fun q5 => (jX4_isLucky 0 q3 q5).bind fun q6 => (if q6 = true then (jX1_add 1 (33 : Int32) q5).bind fun q7 => X q7 else X q5))) = X h2 := by
  have hn : 0 ≤ n ∧ n ≤ 11 := ⟨hok.1.1, hok.1.2.1⟩
  have t0 := tk_own (b := b) (pf := pf) hn.1 hn.1 z
  rw [x4_takerOf hK.1.1 (by omega) (by omega) hK.1.2.2.2.2.2.2.2 z0 (by omega), Option.bind_some]
  unfold sp0
  by_cases q : tkO (n + 1) b pf n z = -1
  · rw [if_pos q]
    obtain ⟨h5, e5, f5, c5⟩ := t1_add (b := 46) hB (by omega) (by decide) (by decide)
    refine ⟨h5, f5, c5, ?_⟩
    rw [q, if_pos (show iZ (-1) = -1 from rfl), i46, e5, Option.bind_some]
  · rw [if_neg q]
    have ht := t0.resolve_left q
    have hk : NmOk (nm (tkO (n + 1) b pf n z)) := hok.2 _ ht.1 ht.2.1
    have h8 := hk.2.1
    obtain ⟨h5, e5, f5, c5⟩ := t1_name hk hB (by omega)
    have hl5 := psN_len s (nm (tkO (n + 1) b pf n z)) (c := ((nm (tkO (n + 1) b pf n z)).length : Int)) (by omega)
    have K5 : Pk h5 0 n b pf n := hK.fr f5 (fun _ _ => rfl)
    rw [im1, if_neg (eq_n (a := tkO (n + 1) b pf n z) (b := -1) (by omega) (by omega) (by omega) (by omega) (by omega)), x2_nameOf hC hn ht.1 ht.2.1, Option.bind_some]
    show ∃ h2, _ ∧ _ ∧ ((jX1_addName 1 (jZ (eC (nm (tkO (n + 1) b pf n z)))) h).bind _) = _
    rw [e5, Option.bind_some, x4_isLucky K5 hok.1 ht.1 ht.2.1, Option.bind_some]
    by_cases r : mv (n + 1) b pf (tkO (n + 1) b pf n z) = 0
    · rw [if_pos r, decide_eq_true r]
      obtain ⟨h6, e6, f6, c6⟩ := t1_add (b := 33) c5 (by omega) (by decide) (by decide)
      refine ⟨h6, f5.tr f6, c6, ?_⟩
      rw [if_pos rfl, i33, e6, Option.bind_some]
    · rw [if_neg r, decide_eq_false r]
      exact ⟨h5, f5, c5, if_neg Bool.false_ne_true⟩
theorem t1_report {h : HD} {R : Row} (hC : RwC h 0 R) (hok : RwOk R) (hK : Pk h 0 R.1 R.2.1 R.2.2.1 R.1) (hB : BfC 1 h 0 (fun _ => 0)) (K : HD → Option (Int32 × HD)) : ∃ h2, jX8_report_L15 K FU (iZ 0) h = K h2 ∧ Fr (sBf 1) h h2 ∧ BfC 1 h2 (rpS R.1 R.2.1 R.2.2.1 R.2.2.2 (R.1 + 1)).1 (rpS R.1 R.2.1 R.2.2.1 R.2.2.2 (R.1 + 1)).2 := by
  obtain ⟨n, b, pf, nm⟩ := R
  have hn : 0 ≤ n ∧ n ≤ 11 := ⟨hok.1.1, hok.1.2.1⟩
  refine loopI (fun f (x : Int32 × HD) => jX8_report_L15 K f x.1 x.2) (fun y x => x.1 = iZ y ∧ Fr (sBf 1) h x.2 ∧ BfC 1 x.2 (rpS n b pf nm y).1 (rpS n b pf nm y).2) (a := 0) (b := n + 1) (fun r => ∃ h2, r = K h2 ∧ Fr (sBf 1) h h2 ∧ BfC 1 h2 (rpS n b pf nm (n + 1)).1 (rpS n b pf nm (n + 1)).2) (by omega) ?_ ?_ FU (iZ 0, h) (FU_gt (by omega)) ⟨rfl, Fr.rf, hB⟩
  · intro f y x y0 y1 hI
    obtain ⟨x1, h4⟩ := x
    obtain ⟨e, hF, hA⟩ := hI
    replace e : x1 = iZ y := e
    subst e
    replace hF : Fr (sBf 1) h h4 := hF
    replace hA : BfC 1 h4 (rpS n b pf nm y).1 (rpS n b pf nm y).2 := hA
    have C4 : RwC h4 0 (n, b, pf, nm) := hC.fr hF (fun _ _ => rfl)
    have K4 : Pk h4 0 n b pf n := hK.fr hF (fun _ _ => rfl)
    have hr := rpS_ok hok y0
    have hsp : jX2_spots 0 h4 = iZ (n + 1) := by
      have hc1 : gI h4 (1, 0, 0) 2 = iZ n := C4.1.1
      unfold jX2_spots
      rw [hc1, i1, iZ_add]
    by_cases q : y ≤ 0
    · obtain ⟨h5, f5, c5, e5⟩ := t1_spot C4 hok K4 y0 (by omega) hA (by omega) (fun q7 => jX8_report_L15 K f (iZ y + 1) q7)
      refine ⟨(iZ (y + 1), h5), ?_, rfl, hF.tr f5, by rw [rpS_s _ _ _ _ y0]; unfold sp1; rw [if_pos q]; exact c5⟩
      show jX8_report_L15 K (f + 1) (iZ y) h4 = _
      rw [jX8_report_L15, hsp, if_neg (le_n (by omega) (by omega) (by omega)), i0, if_pos (le_y (by omega) (by omega) (by omega)), e5, i1, iZ_add]
    · obtain ⟨g5, e6, f6, c6⟩ := t1_add (b := 32) hA (by omega) (by decide) (by decide)
      have hl6 : (ps (rpS n b pf nm y) 32).1 = (rpS n b pf nm y).1 + 1 := rfl
      have h9 := hr.2.2 (by omega)
      obtain ⟨h5, f5, c5, e5⟩ := t1_spot (C4.fr f6 (fun _ _ => rfl)) hok (K4.fr f6 (fun _ _ => rfl)) y0 (by omega) c6 (by omega) (fun q7 => jX8_report_L15 K f (iZ y + 1) q7)
      refine ⟨(iZ (y + 1), h5), ?_, rfl, (hF.tr f6).tr f5, by rw [rpS_s _ _ _ _ y0]; unfold sp1; rw [if_neg q]; exact c5⟩
      show jX8_report_L15 K (f + 1) (iZ y) h4 = _
      rw [jX8_report_L15, hsp, if_neg (le_n (by omega) (by omega) (by omega)), i0, if_neg (le_n (by omega) (by omega) (by omega)), i32, e6, Option.bind_some, e5, i1, iZ_add]
  · intro f x hI
    obtain ⟨x1, h4⟩ := x
    obtain ⟨e, hF, hA⟩ := hI
    replace e : x1 = iZ (n + 1) := e
    subst e
    replace hF : Fr (sBf 1) h h4 := hF
    refine ⟨h4, ?_, hF, hA⟩
    show jX8_report_L15 K (f + 1) (iZ (n + 1)) h4 = _
    have hsp : jX2_spots 0 h4 = iZ (n + 1) := by
      have hc1 : gI h4 (1, 0, 0) 2 = iZ n := (hC.fr hF (fun _ _ => rfl) : RwC h4 0 (n, b, pf, nm)).1.1
      unfold jX2_spots
      rw [hc1, i1, iZ_add]
    rw [jX8_report_L15, hsp, if_pos (le_y (by omega) (by omega) (by omega))]
/-! the reference -/
abbrev sRp : Rf → Nat → Bool := sBm (7, 0, 30) 49
theorem t9_tell {h : HD} {s : Tx} {b : Int} (hB : BfM (7, 0, 30) 49 h s.1 s.2) (hl : s.1 < 200) : ∃ h2, jX9_tell (iZ b) h = some h2 ∧ Fr sRp h h2 ∧ BfM (7, 0, 30) 49 h2 (ps s b).1 (ps s b).2 := by
  obtain ⟨a, c⟩ := hB.put (b := b) (by decide)
  have l0 := hB.1
  refine ⟨_, ?_, a, c⟩
  unfold jX9_tell
  rw [hB.2.1, inB_t (by omega) (by omega) (by omega), if_pos rfl, iZ_nat (by omega) (by omega), lt_eq, lt_eq, gI_ne _ (by decide), hB.2.1, i1, iZ_add]
theorem t9_name {h : HD} {s : Tx} {ks : List Nat} (hk : NmOk ks) (hB : BfM (7, 0, 30) 49 h s.1 s.2) (hl : s.1 + 8 ≤ 200) : ∃ h2, jX9_tellName (jZ (eM ks)) h = some h2 ∧ Fr sRp h h2 ∧ BfM (7, 0, 30) 49 h2 (psN s ks ks.length).1 (psN s ks ks.length).2 := by
  have h8 := hk.2.1
  have h1 := hk.1
  unfold jX9_tellName
  rw [i0]
  refine loopI (fun f (x : Int32 × HD) => jX9_tellName_L2 (jZ (eM ks)) f x.1 x.2) (fun y x => x.1 = iZ y ∧ Fr sRp h x.2 ∧ BfM (7, 0, 30) 49 x.2 (psN s ks y).1 (psN s ks y).2) (a := 0) (b := ks.length) (fun r => ∃ h2, r = some h2 ∧ Fr sRp h h2 ∧ BfM (7, 0, 30) 49 h2 (psN s ks ks.length).1 (psN s ks ks.length).2) (by omega) ?_ ?_ FU (iZ 0, h) (FU_gt (by omega)) ⟨rfl, Fr.rf, hB⟩
  · intro f y x y0 y1 hI
    obtain ⟨x1, h4⟩ := x
    obtain ⟨e, hF, hA⟩ := hI
    replace e : x1 = iZ y := e
    subst e
    replace hA : BfM (7, 0, 30) 49 h4 (psN s ks y).1 (psN s ks y).2 := hA
    have hlen := psN_len s ks y0
    obtain ⟨h5, e5, f5, c5⟩ := t9_tell (b := 96 + ltr ks y) hA (by omega)
    refine ⟨(iZ (y + 1), h5), ?_, rfl, hF.tr f5, by rw [psN_s _ _ y0]; exact c5⟩
    show jX9_tellName_L2 (jZ (eM ks)) (f + 1) (iZ y) h4 = _
    rw [jX9_tellName_L2, x9_lettersOf h4 (Or.inr hk), Option.bind_some, if_neg (le_n (by omega) (by omega) (by omega)), x9_letterOf h4 (Or.inr hk) y0 y1, Option.bind_some, i96, iZ_add, e5, Option.bind_some, i1, iZ_add]
  · intro f x hI
    obtain ⟨x1, h4⟩ := x
    obtain ⟨e, hF, hA⟩ := hI
    replace e : x1 = iZ ks.length := e
    subst e
    refine ⟨h4, ?_, hF, hA⟩
    show jX9_tellName_L2 (jZ (eM ks)) (f + 1) (iZ ks.length) h4 = _
    rw [jX9_tellName_L2, x9_lettersOf h4 (Or.inr hk), Option.bind_some, if_pos (le_y (by omega) (by omega) (by omega))]
theorem t9_spot {h : HD} {n b z : Int} {pf : Int → Int} {nm : Int → List Nat} {s : Tx} (hM : RwM h (7, 0, 2) (7, 0, 7) 0 0 (n, b, pf, nm)) (hok : RwOk (n, b, pf, nm)) (hK : PkM h n b pf n) (z0 : 0 ≤ z) (z1 : z ≤ n) (hB : BfM (7, 0, 30) 49 h s.1 s.2) (hl : s.1 + 9 ≤ 200) : ∃ h2, jX9_tellSpot (iZ z) h = some h2 ∧ Fr sRp h h2 ∧ BfM (7, 0, 30) 49 h2 (sp0 n b pf nm s z).1 (sp0 n b pf nm s z).2 := by
  have hn : 0 ≤ n ∧ n ≤ 11 := ⟨hok.1.1, hok.1.2.1⟩
  have t0 := tk_own (b := b) (pf := pf) hn.1 hn.1 z
  have hz : gI h (7, 0, 13) z.toNat = iZ (tkO (n + 1) b pf n z) := hK.1 z z0 (by omega)
  unfold jX9_tellSpot
  rw [inB_t (by omega) (by omega) (by omega), if_pos rfl, iZ_nat (by omega) (by omega), hz]
  unfold sp0
  by_cases q : tkO (n + 1) b pf n z = -1
  · rw [if_pos q]
    obtain ⟨h5, e5, f5, c5⟩ := t9_tell (b := 46) hB (by omega)
    refine ⟨h5, ?_, f5, c5⟩
    rw [q, if_pos (show iZ (-1) = -1 from rfl), i46, e5]
    rfl
  · rw [if_neg q]
    have ht := t0.resolve_left q
    have hk : NmOk (nm (tkO (n + 1) b pf n z)) := hok.2 _ ht.1 ht.2.1
    have h8 := hk.2.1
    obtain ⟨h5, e5, f5, c5⟩ := t9_name hk hB (by omega)
    have hl5 := psN_len s (nm (tkO (n + 1) b pf n z)) (c := ((nm (tkO (n + 1) b pf n z)).length : Int)) (by omega)
    have hnm : gJ h (7, 0, 7) (tkO (n + 1) b pf n z).toNat = jZ (eM (nm (tkO (n + 1) b pf n z))) := by
      have := hM.2.2.2 _ ht.1 ht.2.1
      rwa [Int.zero_add] at this
    have hmv : gI h5 (7, 0, 15) (tkO (n + 1) b pf n z).toNat = iZ (mv (n + 1) b pf (tkO (n + 1) b pf n z)) := (f5.1 _ _ rfl).trans (hK.2.2 _ ht.1 ht.2.1)
    have hmi : -n ≤ mv (n + 1) b pf (tkO (n + 1) b pf n z) ∧ mv (n + 1) b pf (tkO (n + 1) b pf n z) ≤ n ∧ -b ≤ mv (n + 1) b pf (tkO (n + 1) b pf n z) := mv_in hok.1.2.2.2.2 hok.1.2.2.1 ht.1 ht.2.1
    rw [im1, if_neg (eq_n (a := tkO (n + 1) b pf n z) (b := -1) (by omega) (by omega) (by omega) (by omega) (by omega)), inB_t (by omega) (by omega) (by omega), if_pos rfl, iZ_nat (by omega) (by omega), hnm, e5, Option.bind_some, if_pos rfl, hmv]
    by_cases r : mv (n + 1) b pf (tkO (n + 1) b pf n z) = 0
    · rw [if_pos r, if_pos (show iZ (mv (n + 1) b pf (tkO (n + 1) b pf n z)) = 0 by rw [r]; rfl)]
      obtain ⟨h6, e6, f6, c6⟩ := t9_tell (b := 33) c5 (by omega)
      refine ⟨h6, ?_, f5.tr f6, c6⟩
      rw [i33, e6]
      rfl
    · rw [if_neg r, if_neg (show ¬ iZ (mv (n + 1) b pf (tkO (n + 1) b pf n z)) = 0 from eq_n (b := 0) (by omega) (by omega) (by omega) (by omega) (by omega))]
      exact ⟨h5, rfl, f5, c5⟩
theorem t9_report {h : HD} {R : Row} (hM : RwM h (7, 0, 2) (7, 0, 7) 0 0 R) (hok : RwOk R) (hK : PkM h R.1 R.2.1 R.2.2.1 R.1) (hB : BfM (7, 0, 30) 49 h 0 (fun _ => 0)) (K : HD → Option (Int32 × HD)) : ∃ h2, jX9_report_L27 K FU (iZ 0) h = K h2 ∧ Fr sRp h h2 ∧ BfM (7, 0, 30) 49 h2 (rpS R.1 R.2.1 R.2.2.1 R.2.2.2 (R.1 + 1)).1 (rpS R.1 R.2.1 R.2.2.1 R.2.2.2 (R.1 + 1)).2 := by
  obtain ⟨n, b, pf, nm⟩ := R
  have hn : 0 ≤ n ∧ n ≤ 11 := ⟨hok.1.1, hok.1.2.1⟩
  refine loopI (fun f (x : Int32 × HD) => jX9_report_L27 K f x.1 x.2) (fun y x => x.1 = iZ y ∧ Fr sRp h x.2 ∧ BfM (7, 0, 30) 49 x.2 (rpS n b pf nm y).1 (rpS n b pf nm y).2) (a := 0) (b := n + 1) (fun r => ∃ h2, r = K h2 ∧ Fr sRp h h2 ∧ BfM (7, 0, 30) 49 h2 (rpS n b pf nm (n + 1)).1 (rpS n b pf nm (n + 1)).2) (by omega) ?_ ?_ FU (iZ 0, h) (FU_gt (by omega)) ⟨rfl, Fr.rf, hB⟩
  · intro f y x y0 y1 hI
    obtain ⟨x1, h4⟩ := x
    obtain ⟨e, hF, hA⟩ := hI
    replace e : x1 = iZ y := e
    subst e
    replace hF : Fr sRp h h4 := hF
    replace hA : BfM (7, 0, 30) 49 h4 (rpS n b pf nm y).1 (rpS n b pf nm y).2 := hA
    have C4 : RwM h4 (7, 0, 2) (7, 0, 7) 0 0 (n, b, pf, nm) := hM.fr hF (fun _ => rfl) (fun _ => rfl)
    have K4 : PkM h4 n b pf n := hK.fr hF (fun _ => rfl) (fun _ => rfl) (fun _ => rfl)
    have hr := rpS_ok hok y0
    by_cases q : y ≤ 0
    · obtain ⟨h5, e5, f5, c5⟩ := t9_spot C4 hok K4 y0 (by omega) hA (by omega)
      refine ⟨(iZ (y + 1), h5), ?_, rfl, hF.tr f5, by rw [rpS_s _ _ _ _ y0]; unfold sp1; rw [if_pos q]; exact c5⟩
      show jX9_report_L27 K (f + 1) (iZ y) h4 = _
      rw [jX9_report_L27, x9_spots C4.pr, Option.bind_some, if_neg (le_n (by omega) (by omega) (by omega)), i0, if_pos (le_y (by omega) (by omega) (by omega)), e5, Option.bind_some, i1, iZ_add]
    · obtain ⟨g5, e6, f6, c6⟩ := t9_tell (b := 32) hA (by omega)
      have hl6 : (ps (rpS n b pf nm y) 32).1 = (rpS n b pf nm y).1 + 1 := rfl
      obtain ⟨h5, e5, f5, c5⟩ := t9_spot (C4.fr f6 (fun _ => rfl) (fun _ => rfl)) hok (K4.fr f6 (fun _ => rfl) (fun _ => rfl) (fun _ => rfl)) y0 (by omega) c6 (by omega)
      refine ⟨(iZ (y + 1), h5), ?_, rfl, (hF.tr f6).tr f5, by rw [rpS_s _ _ _ _ y0]; unfold sp1; rw [if_neg q]; exact c5⟩
      show jX9_report_L27 K (f + 1) (iZ y) h4 = _
      rw [jX9_report_L27, x9_spots C4.pr, Option.bind_some, if_neg (le_n (by omega) (by omega) (by omega)), i0, if_neg (le_n (by omega) (by omega) (by omega)), i32, e6, Option.bind_some, e5, Option.bind_some, i1, iZ_add]
  · intro f x hI
    obtain ⟨x1, h4⟩ := x
    obtain ⟨e, hF, hA⟩ := hI
    replace e : x1 = iZ (n + 1) := e
    subst e
    replace hF : Fr sRp h h4 := hF
    refine ⟨h4, ?_, hF, hA⟩
    show jX9_report_L27 K (f + 1) (iZ (n + 1)) h4 = _
    rw [jX9_report_L27, x9_spots (hM.fr hF (fun _ => rfl) (fun _ => rfl)).pr, Option.bind_some, if_pos (le_y (by omega) (by omega) (by omega))]
/-- what report touches besides -/
def sRR : Rf → Nat → Bool := fun r k => scr r k || (Nat.beq r.1 0 && Nat.beq r.2.1 1) || (Nat.beq r.1 7 && (Nat.beq r.2.2 30 || (Nat.beq r.2.2 0 && (Nat.beq k 49 || Nat.beq k 50))))
theorem scr_RR {h h2 : HD} (hF : Fr scr h h2) : Fr sRR h h2 := hF.mono fun r k q => by
  unfold sRR at q
  rw [Bool.or_eq_false_iff, Bool.or_eq_false_iff] at q
  exact q.1.1
theorem sBf_RR {h h2 : HD} (hF : Fr (sBf 1) h h2) : Fr sRR h h2 := hF.mono fun r k q => by
  unfold sRR at q
  rw [Bool.or_eq_false_iff, Bool.or_eq_false_iff] at q
  exact q.1.2
theorem sRp_RR {h h2 : HD} (hF : Fr sRp h h2) : Fr sRR h h2 := hF.mono fun r k q => by
  unfold sRp sBm
  rw [Bool.or_eq_false_iff]
  refine ⟨decide_eq_false fun e => ?_, ?_⟩
  · rw [e] at q; cases q
  · cases e : Nat.beq k 49 with
    | false => rw [Bool.and_false]
    | true =>
      rw [decide_eq_false, Bool.false_and]
      intro e2
      rw [e2, Nat.eq_of_beq_eq_true e] at q
      cases q
theorem sRR_1 {o : Nat} (ho : o ≠ 1 ∧ o ≠ 3) (j k : Nat) : sRR (1, o, j) k = false := by
  unfold sRR
  rw [scr_1 ho]
  rfl
theorem p_report {h : HD} (hR : Rel h) : PV (jX8_report h) jX9_report := by
  obtain ⟨⟨R, r1⟩, r2, r3, r4, r5, r6, r7⟩ := id hR
  obtain ⟨hok, hC, hM⟩ := id r1
  have hn : 0 ≤ R.1 ∧ R.1 ≤ 11 := ⟨hok.1.1, hok.1.2.1⟩
  obtain ⟨len, l0, l1, b1, -⟩ := r7
  obtain ⟨q1, e1, f1, k1⟩ := x8_pk0 hC hok
  obtain ⟨q2, e2, f2, c2⟩ : ∃ q2, jX1_shorten 1 0 q1 = some q2 ∧ Fr (sBf 1) q1 q2 ∧ BfC 1 q2 0 (fun _ => 0) := by
    have b2 : gI q1 (0, 1, 0) 1 = iZ len := (f1.1 _ _ rfl).trans b1
    by_cases q : len = 0
    · refine ⟨q1, ?_, Fr.rf, by decide, by rw [b2, q], fun z z0 z1 => by omega⟩
      unfold jX1_shorten
      rw [if_neg (by decide), b2, i0, if_pos (le_y (by omega) (by omega) (by omega))]
    · refine ⟨sI q1 (0, 1, 0) 1 (iZ 0), ?_, Fr.rf.sI rfl _, by decide, gI_self _ _ _ _, fun z z0 z1 => by omega⟩
      unfold jX1_shorten
      rw [if_neg (by decide), b2, i0, if_neg (le_n (by omega) (by omega) (by omega))]
      rfl
  have hC2 : RwC q2 0 R := (hC.fr f1 (sPk_1 0 0)).fr f2 (fun _ _ => rfl)
  obtain ⟨T, hT⟩ : ∃ T, rpS R.1 R.2.1 R.2.2.1 R.2.2.2 (R.1 + 1) = T := ⟨_, rfl⟩
  have hr : Tb T ∧ T.1 ≤ 10 * (R.1 + 1) ∧ (1 ≤ R.1 + 1 → T.1 ≤ 10 * (R.1 + 1) - 1) := hT ▸ rpS_ok (n := R.1) (b := R.2.1) (pf := R.2.2.1) (nm := R.2.2.2) hok (by omega)
  have hr3 := hr.2.2 (by omega)
  have key8 := fun K => t1_report (K := K) hC2 hok (k1.fr f2 (fun _ _ => rfl)) c2
  obtain ⟨q3, e3, f3, c3⟩ := key8 (fun h16 => (jX1_add 1 (10 : Int32) h16).bind fun q17 => some ((jX1_length 1 q17), q17))
  rw [hT] at c3
  obtain ⟨q4, e4, f4, c4⟩ := t1_add (b := 10) c3 (by omega) (by decide) (by decide)
  have F4 : Fr sRR h q4 := (((scr_RR (sPk_scr f1)).tr (sBf_RR f2)).tr (sBf_RR f3)).tr (sBf_RR f4)
  obtain ⟨m0, hm0⟩ : ∃ m0, m0 = sI (sI (c0 q4 0) (7, 0, 0) 49 (iZ 0)) (7, 0, 0) 50 (iZ 1) := ⟨_, rfl⟩
  have G0 : Fr sRR q4 m0 := by rw [hm0]; exact ((scr_RR (c0_fr q4 0)).sI rfl _).sI rfl _
  have hM0 : RwM m0 (7, 0, 2) (7, 0, 7) 0 0 R := hM.fr (F4.tr G0) (fun _ => rfl) (fun _ => rfl)
  obtain ⟨m1, E1, G1, K1⟩ := x9_parks hM0.pr hok.1 hn.1 (Int.le_refl R.1)
  have B1 : BfM (7, 0, 30) 49 m1 0 (fun _ => 0) := ⟨by decide, by rw [G1.1 _ _ rfl, hm0, gI_nk _ _ _ (by decide), gI_self], fun z z0 z1 => by omega⟩
  have key9 := fun K => t9_report (K := K) (hM0.fr G1 (fun _ => rfl) (fun _ => rfl)) hok K1 B1
  obtain ⟨m2, E2, G2, C2⟩ := key9 (fun h9 => (jX9_tell (10 : Int32) h9).bind fun q10 => some (gI q10 (7, 0, 0) 49, q10))
  rw [hT] at C2
  obtain ⟨m3, E3, G3, C3⟩ := t9_tell (b := 10) C2 (by omega)
  have G : Fr sRR q4 m3 := (((G0.tr (scr_RR (sPm_scr G1))).tr (sRp_RR G2)).tr (sRp_RR G3))
  have F : Fr sRR h m3 := F4.tr G
  have hTb := hr.1.ps (b := 10) (by decide) (by decide)
  have hS1 : (ps T 10).1 = T.1 + 1 := rfl
  have m50 : gI m3 (7, 0, 0) 50 = iZ 1 := by rw [G3.1 _ _ rfl, G2.1 _ _ rfl, G1.1 _ _ rfl, hm0, gI_self]
  have fz : Fr sRR q4 m3 := G
  have bz : ∀ j k, gI m3 (0, 1, j) k = gI q4 (0, 1, j) k := fun j k => by
    rw [G3.1 _ _ rfl, G2.1 _ _ rfl, G1.1 _ _ rfl, hm0, gI_ne _ (by intro e; cases e), gI_ne _ (by intro e; cases e)]
    show gI (sI q4 (7, 0, 0) 0 _) _ _ = _
    rw [gI_ne _ (by intro e; cases e)]
  refine ⟨iZ (ps T 10).1, q4, m3, ?_, ?_, ⟨R, r1.fr F (sRR_1 (by decide)) (fun _ => rfl) (fun _ => rfl)⟩, r2.fr F rfl rfl (fun _ => rfl) (fun _ => rfl), r3.fr F (fun _ => rfl) (fun _ => rfl) rfl rfl, r4.fr F rfl rfl rfl rfl, r5.fr F rfl rfl (fun o j k ho => sRR_1 ⟨by omega, by omega⟩ j k) (fun _ => rfl) (fun _ => rfl), r6.fr F rfl rfl (sRR_1 (by decide)) (fun _ => rfl) (fun _ => rfl), (ps T 10).1, hTb.1, by omega, by rw [bz]; exact c4.2.1, C3.2.1, fun z z0 z1 => ?_, Or.inl m50⟩
  · unfold jX8_report
    rw [e1, Option.bind_some, e2, Option.bind_some, i0, e3, i10, e4, Option.bind_some]
    unfold jX1_length
    rw [c4.2.1]
  · unfold jX9_report
    rw [lt_eq, c0_def, lt_eq, lt_eq, i0, i1, ← hm0, hM0.pr.1, E1, Option.bind_some, E2, i10, E3, Option.bind_some, C3.2.1]
  · rw [bz, (c4.2.2 z z0 z1).2, C3.2.2 z z0 z1]
    have := hTb.2 z z0 z1
    unfold sby
    rw [if_pos this.2]
