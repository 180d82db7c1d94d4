/-! THE LAW'S LOOP, its rows: the script, a call of a static method of the law, the comparison of doubles; a pair of calls as the loop sees it. -/
theorem ble_le {a b : Nat} (h : a ≤ b) : Nat.ble a b = true := Nat.ble_eq_true_of_le h
/-- what the tables say of a call of a static method of the law -/
def CL (own : String) (idx : Nat) (y : MethodName) (bytes : ByteArray) (mL : Nat) (hh : List (Nat × Nat × Nat × Nat)) (n : Nat) : Prop := Cond.methodLink own idx y ∈ LW ∧ Cond.static y ∈ LW ∧ Cond.initialized y.cls ∈ LW ∧ Cond.codeWith y bytes mL (some .int) hh ∈ LW ∧ y.cls ≠ "java/lang/invoke/MethodHandle" ∧ y.cls ≠ "java/lang/invoke/VarHandle" ∧ (parseMethodDescriptor y.desc).map (fun d => d.parameters.length) = some n
/-- the script, in a cell that no object of the picture lies in -/
def SX (A : Nat → Prop) (s : State) (b n : Nat) (xs : Nat → Int32) : Prop := va_X b n xs s s.heap ∧ b < s.heap.size ∧ ¬ A b
def IB (i : Int32) (n : Nat) : Prop := inB (i + 1) n = true ∧ inB (i + 2) n = true ∧ inB (i + 3) n = true ∧ inB (i + 4) n = true ∧ inB (i + 5) n = true
def LL (b : Nat) (loc : Rf → Nat) (i : Int32) : List (Nat × Value) := [(0, .ref b), (1, .ref (loc (6, 0, 0))), (2, .ref (loc (7, 0, 0))), (3, .ref (loc (8, 0, 1))), (4, .int i)]
section LAWM
variable {p : Program} {l : Launch} {e : Env} {R : Room} {s : State} {m : MethodId} {args : Array Value} {below : List Frame} {meth : Method} {c : Code} {D : va_G} {loc : Rf → Nat} {cy : Nat → ClassId} {A : Nat → Prop} {cc : ByteArray} {nL : Nat} {ret : Option FieldType} {own : String} {fr lo cb sb : Nat} {Qof : RR → State → Prop} {α : Type} {RF : α → Option RR} {kn : Nat × Nat} {pc : Nat} {L : List (Nat × Value)} {S : List Value} {h : HD} {X : α}
theorem aw_sld {b n : Nat} {xs : Nat → Int32} {i : Int32} (hC : Cx p l e R s m args meth c D loc cy A cc nL ret own fr lo cb sb) (hX : SX A s b n xs) (hd : decode cc pc = .ok (.iaload, 1)) (hin : inB i n = true) (kk : AW p l e R s m args below meth c D loc cy A nL Qof RF kn (pc + 1) (L) (.int (xs i.toNatClampNeg) :: S) (h) (X)) : AW p l e R s m args below meth c D loc cy A nL Qof RF kn (pc) (L) (.int i :: .ref b :: S) (h) (X) :=
  fun rr hr H locs ls hM hS hl => va_sld hC.1 hC.2.1 hX.1 hX.2.1 hX.2.2 hS (inB_vp hin) hd (kk rr hr H locs ls hM hS hl)
theorem aw_scln {b n : Nat} {xs : Nat → Int32} (hC : Cx p l e R s m args meth c D loc cy A cc nL ret own fr lo cb sb) (hX : SX A s b n xs) (hd : decode cc pc = .ok (.arraylength, 1)) (kk : AW p l e R s m args below meth c D loc cy A nL Qof RF kn (pc + 1) (L) (.int (Int32.ofNat n) :: S) (h) (X)) : AW p l e R s m args below meth c D loc cy A nL Qof RF kn (pc) (L) (.ref b :: S) (h) (X) :=
  fun rr hr H locs ls hM hS hl => va_slen hC.1 hC.2.1 hX.1 hX.2.1 hX.2.2 hS hd (kk rr hr H locs ls hM hS hl)
theorem aw_dcmpv {x y : UInt64} {op : CmpOp} (hC : Cx p l e R s m args meth c D loc cy A cc nL ret own fr lo cb sb) (hd : decode cc pc = .ok (.dcmp op, 1)) (kk : AW p l e R s m args below meth c D loc cy A nL Qof RF kn (pc + 1) (L) (.int (Op.cmpValue (FP.dcmp x y) op) :: S) (h) (X)) : AW p l e R s m args below meth c D loc cy A nL Qof RF kn (pc) (L) (.double y :: .double x :: S) (h) (X) :=
  fun rr hr H locs ls hM hS hl => lv_dcmp hC.1 hC.2.1 hd (kk rr hr H locs ls hM hS hl)
theorem aw_callL {idx n mL fr2 lo2 mc2 ms2 : Nat} {y : MethodName} {bytes : ByteArray} {hh : List (Nat × Nat × Nat × Nat)} {k : Int32} {As ST : List Value} {h2 : HD} (hC : Cx p l e R s m args meth c D loc cy A cc nL ret own fr lo cb sb) (hd : decode cc pc = .ok (.invokestatic idx, 3)) (hv : CL own idx y bytes mL hh n) (hA : AL l D loc cy y bytes mL hh fr2 lo2 mc2 ms2 As h (some (.inr (some (.int k)), h2))) (hn : As.length = n) (hST : ST = As.reverse ++ S) (hW : Nat.ble ((S.map fun v => v.category).sum) 8 = true) (hf : Nat.ble (fr2 + 1) fr = true) (hlo : Nat.ble (8 + (mL + 11) + lo2) lo = true) (hk : kn.1 + mc2 ≤ cb ∧ kn.2 + ms2 ≤ sb) (kk : AW p l e R s m args below meth c D loc cy A nL Qof RF (kn.1 + mc2, kn.2 + ms2) (pc + 3) (L) (.int k :: S) h2 (X)) : AW p l e R s m args below meth c D loc cy A nL Qof RF (kn) (pc) (L) (ST) (h) (X) := by
  intro r9 hr9 H locs ls hM hS hl T hT X0
  have hAA := aof_call hC hS
  obtain ⟨h1, h2', h3, h4, h6, h7, h8⟩ := hv
  have hts := hC.2.2.2.2.2.1
  have hR := hC.2.2.2.2.2.2.2.2.2.2.2.2.2
  have cw : vx_CSW R s args own idx y bytes mL (some .int) hh (Cond.codeWith y bytes mL (some .int) hh :: LW) ({ frames := fr2, cells := mc2, slots := ms2, locals := lo2 }) mc2 ms2 n := by
    refine ⟨⟨rfl, rfl, Nat.le_trans (Nat.le_of_ble_eq_true hf) hR.1, Nat.le_trans (Nat.le_of_ble_eq_true hlo) hR.2.1, pay_in hts (GL h4), List.mem_cons_self⟩, hts _ h4, hts _ h3, ⟨h6, h7⟩, fun sig hs => ?_, hts _ h1, hts _ h2'⟩
    rw [hs] at h8
    exact (Option.some.inj h8).symm
  have hr := vx_runSW (p := p) (e := e) (below := below) (meth := meth) (locs := locs) (cells := kn.1) (slots := kn.2) (g := F0 m pc ls ST) (As := As) (rest := S) ⟨hC.1, hC.2.1, hC.2.2.1, hC.2.2.2.2.1, hts⟩ (hA _ rfl H.size) cw ⟨Wd_blind, fun U hU hW => ⟨rfl, wd_call hC hM hS U hU hW⟩⟩ rfl hn hl.1 hST (lv_room (Nat.le_of_ble_eq_true hW)) hd ⟨Nat.le_trans hk.1 hR.2.2.1, Nat.le_trans hk.2 hR.2.2.2⟩
  obtain ⟨v, st₀, t, T', L2, h0, X', hL, e1, e2, ⟨rv2, q1, q2, q3, q4⟩, st⟩ := hr T hT X0
  cases q2
  cases q1
  obtain ⟨z, k1⟩ := q4
  rw [h0] at z k1
  have hS2 : va_S A s.heap T'.heap (locs ++ L2) := ⟨Nat.le_trans hS.1 (by rw [e1]; exact z), fun q h1 h2 => by rw [e1, k1 q (Nat.lt_of_lt_of_le h1 hS.1) (fun z => h2 (hAA q z))]; exact hS.2.1 q h1 h2, fun q hq => by
    rcases List.mem_append.mp hq with h | h
    · exact hS.2.2 q h
    · exact hAA _ (hL q h)⟩
  obtain ⟨t2, a1, b1⟩ := kk r9 hr9 T'.heap (locs ++ L2) ls (by rw [e1]; exact q3) hS2 hl T' rfl X'
  exact ⟨t2, st t2 a1, b1⟩
theorem am_nh {τ : Type} {f : τ → Nat ⊕ Option Value} {y : MethodName} {XX : Option τ} {v : τ} {h1 : HD} {fr2 lo2 : Nat} {av : List Value} (hA : AM l D loc cy y cc nL ret fr2 lo2 av h (XX.map (fun r => (f r, h)))) (e8 : nh h XX = some (v, h1)) : AM l D loc cy y cc nL ret fr2 lo2 av h (some (f v, h1)) := by
  unfold nh at e8
  cases XX with
  | none => cases e8
  | some x => cases e8; exact hA
theorem am_val {τ : Type} {f : τ → Nat ⊕ Option Value} {y : MethodName} {x v : τ} {h1 : HD} {fr2 lo2 : Nat} {av : List Value} (hA : AM l D loc cy y cc nL ret fr2 lo2 av h (some (f x, h))) (e8 : some (x, h) = some (v, h1)) : AM l D loc cy y cc nL ret fr2 lo2 av h (some (f v, h1)) := by
  cases e8; exact hA
theorem ax_nh {τ : Type} {f : τ → Nat ⊕ Option Value} {y : MethodName} {XX : Option τ} {v : τ} {h1 : HD} {fr2 lo2 mc ms : Nat} {ws : List Cond} {av : List Value} (hA : AX l D loc cy y ws fr2 lo2 mc ms av h (XX.map (fun r => (f r, h)))) (e8 : nh h XX = some (v, h1)) : AX l D loc cy y ws fr2 lo2 mc ms av h (some (f v, h1)) := by
  unfold nh at e8
  cases XX with
  | none => cases e8
  | some x => cases e8; exact hA
end LAWM
theorem o8_scr (h : HD) (w : Int64) : Fr scr h (o8 h w) := Fr.rf.sJ rfl w
theorem o8_at (h : HD) (w : Int64) : gJ (o8 h w) (8, 0, 1) 0 = w := by unfold o8; rw [gJ_sJ, if_pos ⟨rfl, rfl⟩]
theorem o8_7 (h : HD) (w : Int64) : gI (o8 h w) (7, 0, 0) 0 = gI h (7, 0, 0) 0 := by unfold o8; rw [gI_sJ]
theorem PPL {exs : List Nat} {X8 : Option ((Nat ⊕ Int32) × HD)} {X9 : HD → Option (Int32 × HD)} (hl : exs.length ≤ 2) (ho : ∀ w h, X9 (o8 h w) = om w (X9 h)) (hp : PP exs X8 X9) : ∃ r h1 k hL v hM, X8 = some (r, h1) ∧ LQ exs (xi (fun v => some (.int v)) r, h1) k hL ∧ X9 hL = some (v, hM) ∧ Rel hM ∧ gI hM (7, 0, 0) 0 = k ∧ (k = 0 → gJ hM (8, 0, 1) 0 = v.toInt64) := by
  obtain ⟨r, h1, v, h2, e8, e9, hR, ⟨rfl, hz⟩ | ⟨i, e0, hi, rfl, hz⟩⟩ := hp
  · refine ⟨.inr v, h1, 0, o8 h1 v.toInt64, v, o8 h2 v.toInt64, e8, Or.inl ⟨v, rfl, rfl, rfl⟩, ?_, hR.fr (o8_scr _ _), ?_, fun _ => o8_at _ _⟩
    · rw [ho, e9]; rfl
    · rw [o8_7, hz]; rfl
  · refine ⟨.inl e0, h1, iZ (i + 1), h1, v, h2, e8, Or.inr ⟨i, e0, rfl, hi, rfl, rfl⟩, e9, hR, hz, fun q => ?_⟩
    have : i < exs.length := (List.getElem?_eq_some_iff.mp hi).1
    exact absurd (show iZ (i + 1) = iZ 0 from q) (eq_n (by omega) (by omega) (by omega) (by omega) (by omega))
theorem PBL {exs : List Nat} {X8 : Option ((Nat ⊕ Bool) × HD)} {X9 : HD → Option (Bool × HD)} (hl : exs.length ≤ 2) (ho : ∀ w h, X9 (o8 h w) = om w (X9 h)) (hp : PB exs X8 X9) : ∃ r h1 k hL v hM, X8 = some (r, h1) ∧ LQB exs (xi (fun v => some (.int (b2i v))) r, h1) k hL ∧ X9 hL = some (v, hM) ∧ Rel hM ∧ gI hM (7, 0, 0) 0 = k ∧ (k = 0 → gJ hM (8, 0, 1) 0 = if v = true then 1 else 0) := by
  obtain ⟨r, h1, v, h2, e8, e9, hR, ⟨rfl, hz⟩ | ⟨i, e0, hi, rfl, hz⟩⟩ := hp
  · refine ⟨.inr v, h1, 0, o8 h1 (if v = true then 1 else 0), v, o8 h2 (if v = true then 1 else 0), e8, Or.inl ⟨v, rfl, rfl, rfl⟩, ?_, hR.fr (o8_scr _ _), ?_, fun _ => o8_at _ _⟩
    · rw [ho, e9]; rfl
    · rw [o8_7, hz]; rfl
  · refine ⟨.inl e0, h1, iZ (i + 1), h1, v, h2, e8, Or.inr ⟨i, e0, rfl, hi, rfl, rfl⟩, e9, hR, hz, fun q => ?_⟩
    have : i < exs.length := (List.getElem?_eq_some_iff.mp hi).1
    exact absurd (show iZ (i + 1) = iZ 0 from q) (eq_n (by omega) (by omega) (by omega) (by omega) (by omega))
theorem lcmp_eq {x y : Int64} (h : x = y) : lg_cmp x y = 0 := (lg_cmp_eq x y).mpr h
theorem nf_all : ∀ w : Nat, w < 12 → ∀ n : Nat, n < 12 → (decide (n = 0) || nn64 (FP.f2d (FP.fdiv (FP.i2f (iZ (w : Int))) (FP.i2f (iZ (n : Int)))))) = true := by decide +kernel
theorem nf_0 : nn64 (FP.f2d FP.fconst0) = true := by decide +kernel
/-- the share is no NaN, widened either -/
theorem ls_ok {h h1 : HD} {v : UInt32} (hR : Rel h) (e : jX8_luckyShare h = some (v, h1)) : vf_n64 (FP.f2d v) := by
  obtain ⟨⟨⟨n, b, pf, nm⟩, hok, hC, hM⟩, -⟩ := id hR
  have ho : PrOk n b pf := hok.1
  have hP : PrC h 0 n b pf := hC.1
  have hQ : PrM h n b pf := hM.pr
  have hn : 0 ≤ n ∧ n ≤ 11 := ⟨ho.1, ho.2.1⟩
  by_cases q : n = 0
  · have e2 : jX8_luckyShare h = some (FP.fconst0, h) := by
      unfold jX8_luckyShare jX2_count
      rw [hP.1, i0, if_pos (by rw [q])]
    rw [e2] at e
    cases e
    exact nn64_vf nf_0
  · obtain ⟨h1', h2, e1, f1, k1, hP1, e2, F, f2, k2, hQ2, g0, hQ1⟩ := both_parked hP hQ ho ho.1 (Int.le_refl n)
    have hw := lkN_in ho
    have hnn := nn32_all (lkN n b pf).toNat (by omega) n.toNat (by omega)
    have hnf := nf_all (lkN n b pf).toNat (by omega) n.toNat (by omega)
    rw [show (((lkN n b pf).toNat : Nat) : Int) = lkN n b pf by omega, show ((n.toNat : Nat) : Int) = n by omega, decide_eq_false (show ¬ n.toNat = 0 by omega), Bool.false_or] at hnn hnf
    have e3 : jX8_luckyShare h = some (FP.fdiv (FP.i2f (iZ (lkN n b pf))) (FP.i2f (iZ n)), h1') := by
      unfold jX8_luckyShare jX2_count
      rw [hP.1, i0, if_neg (eq_n (by omega) (by omega) (by omega) (by omega) (by omega)), parked_of hP e1, Option.bind_some, x4_lucky k1 ho, Option.bind_some, if_pos hnn]
    rw [e3] at e
    cases e
    exact nn64_vf hnf
