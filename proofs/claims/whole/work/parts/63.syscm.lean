/-! the cars of a text: the reference -/
def ENDS (h : HD) : Option (Int32 × HD) := (jX9_endsText h).bind fun q => (if q.1 = true then lt (sI q.2 (7, 0, 0) 23 (0 : Int32)) fun h31 => some (gI h31 (7, 0, 2) 0, h31) else (jX9_goesBack q.2).bind fun q32 => some ((0 : Int32), q32))
def KW (x : Int32) (h : HD) : Option (Int32 × HD) := (if (jX9_isGood h) = true then (if x ≤ (gI h (7, 0, 2) 0) then ENDS h else (jX9_wrong (1 : Int32) h).bind fun q => ENDS q) else ENDS h)
section
variable {h : HD} {len : Int} {bs : Int → Int} {t : Tok}
theorem MT.fr {S : Rf → Nat → Bool} {h2 : HD} (hM : MT h len bs t) (hF : Fr S h h2) (s1 : ∀ k, S (7, 0, 1) k = false) (s3 : S (7, 0, 0) 3 = false) (s4 : S (7, 0, 0) 4 = false) (s5 : S (7, 0, 0) 5 = false) (s6 : S (7, 0, 0) 6 = false) (s7 : S (7, 0, 0) 7 = false) (s8 : S (7, 0, 0) 8 = false) (s12 : S (7, 0, 0) 12 = false) : MT h2 len bs t := by
  obtain ⟨b1, b2, b3, b4, b5, b6, b7, b8⟩ := hM
  exact ⟨b1.fr hF s3 s1, b2, b3, ⟨(hF.1 _ _ s6).trans b4.1, (hF.1 _ _ s5).trans b4.2.1, (hF.1 _ _ s4).trans b4.2.2.1, fun c => (hF.2.1 _ _ s12).trans (b4.2.2.2.1 c), fun c => (hF.1 _ _ s7).trans (b4.2.2.2.2 c)⟩, b5, b6, b7, (hF.1 _ _ s8).trans b8⟩
theorem m_car {R : Row} {n : Int} (hM : MT h len bs t) (hR : RwM h (7, 0, 2) (7, 0, 7) 0 0 R) (hW : RwW R) (hRn : R.1 < n) (hn : n ≤ 11) : match carP len bs n R t with
    | .inl (c, p) => ∃ g1 g, jX9_carLine (iZ n) h = some g1 ∧ jX9_mustSign (59 : Int32) g1 = some g ∧ Fr sRM h g ∧ ErM g c p ∧ (c = 1 ∨ c = 2 ∨ c = 3)
    | .inr (R2, t2) => ∃ g1 g, jX9_carLine (iZ n) h = some g1 ∧ jX9_mustSign (59 : Int32) g1 = some g ∧ Fr sRM h g ∧ MT g len bs t2 ∧ RwM g (7, 0, 2) (7, 0, 7) 0 0 R2 ∧ RwW R2 ∧ gI g (7, 0, 0) 9 = gI h (7, 0, 0) 9 := by
  have h0 := hW.1
  obtain ⟨c5, cg, c1⟩ := m_carLine hM (n := n)
  have bad : ∀ {g : HD} {c p : Int}, ErM g c p → (c = 1 ∨ c = 2 ∨ c = 3) → jX9_mustSign (59 : Int32) g = some g := fun k hc => b_mustSign (k.g (by omega)) _
  unfold carP
  by_cases q0 : isWd t wCar
  · rw [if_pos q0]
    obtain ⟨g0, e0, f0, k0⟩ := cg q0 (by
      have : gI h (7, 0, 2) 0 = iZ R.1 := hR.pr.1
      rw [this]
      exact eq_n (by omega) (by omega) (by omega) (by omega) (by omega))
    have R0 := hR.fr f0 (fun _ => rfl) (fun _ => rfl)
    obtain ⟨r1, r3, rg⟩ := m_RC k0 R0 hW hRn hn
    by_cases q1 : (nx len bs t).1 = 1
    · rw [if_pos q1]
      by_cases q2 : cnN R (nx len bs t).2.2.2.1 = -1
      · rw [if_pos q2]
        have nd := m_ND k0 R0 hW hRn hn q1
        have erc := rg q1 q2
        cases hv : numP (nx len bs (nx len bs t)) 0 n with
        | inl er =>
          rw [hv] at nd
          obtain ⟨c, p⟩ := er
          obtain ⟨g, e, f, k, hc⟩ := nd
          exact ⟨g, g, by rw [e0, erc, e], bad k (by omega), (sRd_RM f0).tr f, k, by omega⟩
        | inr v =>
          rw [hv] at nd
          obtain ⟨g, e, f, k, m, e9⟩ := nd
          have ms := m_mustSign k (c := 59) (by decide) (by decide)
          show match (match mkP (nx len bs (nx len bs (nx len bs t))) 59 with | .inl e => .inl e | .inr _ => .inr (comR R (nx len bs t).2.2.2.1 v, nx len bs (nx len bs (nx len bs (nx len bs t)))) : Rd (Row × Tok)) with | .inl (c, p) => _ | .inr (R2, t2) => _
          unfold mkP
          by_cases q4 : isMk (nx len bs (nx len bs (nx len bs t))) 59
          · rw [if_pos q4]
            obtain ⟨g2, e2, f2, k2⟩ := ms.1 q4
            refine ⟨g, g2, by rw [e0, erc, e], e2, ((sRd_RM f0).tr f).tr (sRd_RM f2), k2, m.fr f2 (fun _ => rfl) (fun _ => rfl), comR_W hW (by omega) (k0.2.2.2.2.1.1 q1), ?_⟩
            rw [f2.1 _ _ rfl, e9, f0.1 _ _ rfl]
          · rw [if_neg q4]
            obtain ⟨g2, e2, f2, k2⟩ := ms.2 q4
            exact ⟨g, g2, by rw [e0, erc, e], e2, ((sRd_RM f0).tr f).tr (sME_RM f2), k2, Or.inl rfl⟩
      · rw [if_neg q2]
        obtain ⟨g, e, f, k⟩ := r3 q1 q2
        exact ⟨g, g, by rw [e0, e], bad k (by omega), (sRd_RM f0).tr f, k, by omega⟩
    · rw [if_neg q1]
      obtain ⟨g, e, f, k⟩ := r1 q1
      exact ⟨g, g, by rw [e0, e], bad k (by omega), (sRd_RM f0).tr f, k, by omega⟩
  · rw [if_neg q0]
    obtain ⟨g, e, f, k⟩ := c1 q0
    exact ⟨g, g, e, bad k (by omega), sME_RM f, k, by omega⟩
/-- d cars, then the end -/
def cars2 (len : Int) (bs : Int → Int) (n : Int) (d : Nat) (R : Row) (t : Tok) : Rd Row := match carsP len bs n d R t with
  | .inl e => .inl e
  | .inr (R2, t2) => endP R2 t2
theorem b_L67 {g : HD} {c p : Int} (k : ErM g c p) (hc : c = 1 ∨ c = 2 ∨ c = 3 ∨ c = 5) (x : Int32) (f : Nat) : jX9_readText_L67 x (KW x) (f + 1) g = ENDS g := by
  have kg : jX9_isGood g = false := k.g (by omega)
  rw [jX9_readText_L67, kg, if_neg Bool.false_ne_true]
  unfold KW
  rw [kg, if_neg Bool.false_ne_true]
end
theorem m_cars {len : Int} {bs : Int → Int} {n : Int} (hn : 0 ≤ n ∧ n ≤ 11) : ∀ (d : Nat) (f : Nat) (h : HD) (R : Row) (t : Tok), MT h len bs t → RwM h (7, 0, 2) (7, 0, 7) 0 0 R → RwW R → R.1 + d = n → (match cars2 len bs n d R t with
    | .inl (c, p) => ∃ g, jX9_readText_L67 (iZ n) (KW (iZ n)) (f + d + 2) h = ENDS g ∧ Fr sRM h g ∧ ErM g c p ∧ (c = 1 ∨ c = 2 ∨ c = 3 ∨ c = 5)
    | .inr R2 => ∃ g, jX9_readText_L67 (iZ n) (KW (iZ n)) (f + d + 2) h = ENDS g ∧ Fr sRM h g ∧ RwM g (7, 0, 2) (7, 0, 7) 0 0 R2 ∧ gI g (7, 0, 0) 8 = iZ 0 ∧ gI g (7, 0, 0) 9 = gI h (7, 0, 0) 9) := by
  intro d
  induction d with
  | zero =>
    intro f h R t hM hR hW hd
    have h4 := hM.2.2.2.2.1.2.2.2
    have hc : gI h (7, 0, 2) 0 = iZ R.1 := hR.pr.1
    have e6 := hM.2.2.2.1.1
    obtain ⟨c5, cg, c1⟩ := m_carLine hM (n := n)
    show match endP R t with | .inl (c, p) => _ | .inr R2 => _
    unfold endP
    have step : ∀ (c : Int) (g : HD), ¬ t.1 = 0 → jX9_carLine (iZ n) h = some g → ErM g c t.2.1 → (c = 1 ∨ c = 5) → jX9_readText_L67 (iZ n) (KW (iZ n)) (f + 0 + 2) h = ENDS g := fun c g q e k hc => by
      rw [show f + 0 + 2 = f + 1 + 1 by omega, jX9_readText_L67, m_good hM, if_pos rfl, e6, if_neg (show ¬ iZ t.1 = 0 from eq_n (b := 0) (by omega) (by omega) (by omega) (by omega) (by omega)), e, Option.bind_some, b_mustSign (k.g (by omega)), Option.bind_some, b_L67 k (by omega)]
    by_cases q : isWd t wCar
    · rw [if_pos q]
      obtain ⟨g, e, f1, k⟩ := c5 q (by rw [hc, show R.1 = n by omega])
      exact ⟨g, step 5 g (by have := q.1; omega) e k (by omega), sME_RM f1, k, by omega⟩
    · rw [if_neg q]
      by_cases q0 : t.1 = 0
      · rw [if_pos q0]
        refine ⟨h, ?_, Fr.rf, hR, hM.2.2.2.2.2.2.2, rfl⟩
        rw [show f + 0 + 2 = f + 1 + 1 by omega, jX9_readText_L67, m_good hM, if_pos rfl, e6, if_pos (show iZ t.1 = 0 by rw [q0]; rfl)]
        unfold KW
        rw [m_good hM, if_pos rfl, hc, if_pos (le_y (by omega) (by omega) (by omega))]
      · rw [if_neg q0]
        obtain ⟨g, e, f1, k⟩ := c1 q
        exact ⟨g, step 1 g q0 e k (by omega), sME_RM f1, k, by omega⟩
  | succ d ih =>
    intro f h R t hM hR hW hd
    have h4 := hM.2.2.2.2.1.2.2.2
    have h0 := hW.1
    have hc : gI h (7, 0, 2) 0 = iZ R.1 := hR.pr.1
    have e6 := hM.2.2.2.1.1
    have mc := m_car hM hR hW (show R.1 < n by omega) hn.2
    unfold cars2
    show match (match (match carP len bs n R t with | .inl e => .inl e | .inr (R2, t2) => carsP len bs n d R2 t2 : Rd (Row × Tok)) with | .inl e => .inl e | .inr (R2, t2) => endP R2 t2 : Rd Row) with | .inl (c, p) => _ | .inr R2 => _
    by_cases q0 : t.1 = 0
    · have ec : carP len bs n R t = .inl (1, t.2.1) := by
        unfold carP
        rw [if_neg (fun c => by have := c.1; omega)]
      rw [ec]
      obtain ⟨g, e, f1, k⟩ := m_wrong hM (c := 1)
      have k1 : ErM g 1 t.2.1 := by rwa [ite_self] at k
      refine ⟨g, ?_, sME_RM f1, k1, by omega⟩
      rw [show f + (d + 1) + 2 = f + d + 2 + 1 by omega, jX9_readText_L67, m_good hM, if_pos rfl, e6, if_pos (show iZ t.1 = 0 by rw [q0]; rfl)]
      unfold KW
      rw [m_good hM, if_pos rfl, hc, if_neg (le_n (by omega) (by omega) (by omega)), i1, e, Option.bind_some]
    · have st : ∀ g1 g, jX9_carLine (iZ n) h = some g1 → jX9_mustSign (59 : Int32) g1 = some g → jX9_readText_L67 (iZ n) (KW (iZ n)) (f + (d + 1) + 2) h = jX9_readText_L67 (iZ n) (KW (iZ n)) (f + d + 2) g := fun g1 g e1 e2 => by
        rw [show f + (d + 1) + 2 = f + d + 2 + 1 by omega, jX9_readText_L67, m_good hM, if_pos rfl, e6, if_neg (show ¬ iZ t.1 = 0 from eq_n (b := 0) (by omega) (by omega) (by omega) (by omega) (by omega)), e1, Option.bind_some, e2, Option.bind_some]
      cases hcp : carP len bs n R t with
      | inl er =>
        rw [hcp] at mc
        obtain ⟨c, p⟩ := er
        obtain ⟨g1, g, e1, e2, f1, k, kc⟩ := mc
        refine ⟨g, ?_, f1, k, by omega⟩
        rw [st g1 g e1 e2, show f + d + 2 = f + d + 1 + 1 by omega, b_L67 k (by omega)]
      | inr rt =>
        rw [hcp] at mc
        obtain ⟨R2, t2⟩ := rt
        obtain ⟨g1, g, e1, e2, f1, k, m, w, e9⟩ := mc
        have hn2 := carP_n hcp
        have := ih f g R2 t2 k m w (by omega)
        rw [st g1 g e1 e2]
        show match cars2 len bs n d R2 t2 with | .inl (c, p) => _ | .inr R2 => _
        cases hc2 : cars2 len bs n d R2 t2 with
        | inl er =>
          rw [hc2] at this
          obtain ⟨c, p⟩ := er
          obtain ⟨g2, a1, a2, a3, a4⟩ := this
          exact ⟨g2, a1, f1.tr a2, a3, a4⟩
        | inr R3 =>
          rw [hc2] at this
          obtain ⟨g2, a1, a2, a3, a4, a5⟩ := this
          exact ⟨g2, a1, f1.tr a2, a3, a4, a5.trans e9⟩
