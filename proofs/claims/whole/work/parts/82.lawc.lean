/-! THE LAW'S OWN STATIC METHODS: each calls one method of the class, catches what it throws, and lays the answer into the law's row. -/
theorem Met_ofWH {l : Launch} {y : MethodName} {ws ws' : List Cond} {rm : Room} {Pc : Array Value → State → Prop} {Qc : Array Value → State → Outcome → State → Prop} {mc ms : Nat} {free : Addr → Prop} {cc : ByteArray} {maxL : Nat} {ret : Option FieldType} {hh : List (Nat × Nat × Nat × Nat)}
    (hy : plainName y.cls = true) (hw : ws = Cond.codeWith y cc maxL ret hh :: ws')
    (body : ∀ p e s m args below meth c s₁, BodyLoose p l y (headSpec ws rm) cc maxL ret e s m args below meth c s₁ → c.maxLocals = maxL → c.exceptionTable.toList = tableOf hh → Pc args s →
      W p l e (headSpec ws rm).room s m args below meth c s.heap [] 0 0 (MQ below Qc args s mc ms free) (entryFrame m args maxL)) : Met l y ws rm Pc Qc mc ms free := by
  refine MetFree.of_bodyS (code := cc) (maxLocals := maxL) (ret := ret) hy ?_ ?_
  · intro args s m h hn
    obtain ⟨m9, meth, c, hn9, h1, h2, h3, h4, -, h5, h6, -⟩ := Cond.codeWith_spec (atoms_spec (ws := ws) h _ (by rw [hw]; exact List.mem_cons_self))
    cases hn.symm.trans hn9
    exact ⟨meth, c, h1, h2, h3, h4, h5, h6⟩
  · intro p e s m args below meth c s₁ B hml hP _
    have hh0 : s₁.heap = s.heap := by rw [B.state]; rfl
    have htab : c.exceptionTable.toList = tableOf hh := vx_table (x := y) B (atoms_spec (ws := ws) B.pre _ (by rw [hw]; exact List.mem_cons_self))
    obtain ⟨t, a1, o, b1, b2, b3⟩ := body p e s m args below meth c s₁ B hml htab hP s₁ hh0 (Stand.of_body B)
    exact ⟨t, o, a1, b1, b2, ⟨b3.1, b3.2⟩⟩
def QL (below : List Frame) (D : va_G) (loc : Rf → Nat) (cy : Nat → ClassId) (A : Nat → Prop) (args : Array Value) (s : State) (mc ms : Nat) (rr : RR) : State → Prop := MQ below (QC D loc cy A rr) args s mc ms A
/-- the contract of a static method of the law with handlers: it never throws, and makes at most mc cells -/
def AL (l : Launch) (D : va_G) (loc : Rf → Nat) (cy : Nat → ClassId) (y : MethodName) (cc : ByteArray) (nL : Nat) (hh : List (Nat × Nat × Nat × Nat)) (fr lo mc ms : Nat) (av : List Value) (h : HD) (X : Option RR) : Prop :=
  ∀ rr, X = some rr → ∀ sz, Met l y (Cond.codeWith y cc nL (some .int) hh :: LW) ({ frames := fr, cells := mc, slots := ms, locals := lo }) (va_Pc av (Wd D loc cy sz h)) (QC D loc cy (Aof loc sz) rr) mc ms (Aof loc sz)
/-- what a wrapper answers, out of what the class's method did -/
def LQ (exs : List Nat) (rr : RR) (k : Int32) (h2 : HD) : Prop := (∃ v : Int32, rr.1 = .inr (some (.int v)) ∧ k = 0 ∧ h2 = o8 rr.2 v.toInt64) ∨ ∃ i e : Nat, rr.1 = .inl e ∧ exs[i]? = some e ∧ k = iZ (i + 1) ∧ h2 = rr.2
def LQB (exs : List Nat) (rr : RR) (k : Int32) (h2 : HD) : Prop := (∃ b : Bool, rr.1 = .inr (some (.int (b2i b))) ∧ k = 0 ∧ h2 = o8 rr.2 (if b = true then 1 else 0)) ∨ ∃ i e : Nat, rr.1 = .inl e ∧ exs[i]? = some e ∧ k = iZ (i + 1) ∧ h2 = rr.2
section LAWC
variable {p : Program} {l : Launch} {e : Env} {R : Room} {s : State} {m : MethodId} {args : Array Value} {below : List Frame} {meth : Method} {c : Code} {D : va_G} {loc : Rf → Nat} {cy : Nat → ClassId} {A : Nat → Prop} {cc : ByteArray} {nL : Nat} {ret : Option FieldType} {own : String} {fr lo cb sb : Nat} {Qof : RR → State → Prop} {α : Type} {RF : α → Option RR} {kn : Nat × Nat} {pc : Nat} {L : List (Nat × Value)} {S : List Value} {h : HD} {X : α}
theorem al_start {y : MethodName} {av : List Value} {x : α} {mc ms : Nat} {hh : List (Nat × Nat × Nat × Nat)} (hl0 : l.stackTraces = false) (hy : plainName y.cls = true) (hlen : Nat.ble (lg_sl av).length nL = true)
    (body : ∀ (p : Program) (e : Env) (R : Room) (s : State) (m : MethodId) (below : List Frame) (meth : Method) (c : Code) (A : Nat → Prop), c.exceptionTable.toList = tableOf hh → Cx p l e R s m av.toArray meth c D loc cy A cc nL (some .int) y.cls fr lo mc ms → AW p l e R s m av.toArray below meth c D loc cy A nL (QL below D loc cy A av.toArray s mc ms) RF (0, 0) 0 (lv_args 0 av) [] h x) : AL l D loc cy y cc nL hh fr lo mc ms av h (RF x) := by
  intro rr hrr sz
  refine Met_ofWH (cc := cc) (maxL := nL) (ret := some .int) (hh := hh) hy rfl ?_
  intro p e s m args below meth c s₁ B hml htab hv
  obtain ⟨rfl, hsz, hM, hK, hI, hSt⟩ := hv
  subst hsz
  have hts := atoms_spec (ws := Cond.codeWith y cc nL (some .int) hh :: LW) B.pre
  have hl := lv_entry av (n := nL) (Nat.le_of_ble_eq_true hlen)
  rw [lg_entry_eq]
  exact body p e _ s m below meth c _ htab ⟨B.exec, B.bytes, hml, B.returns, findClass_of_methodNamed B.named, fun w hw => hts w (List.mem_cons_of_mem _ hw), hK, hI, fun r hr => Or.inl ⟨r, hr, rfl⟩, fun q hq => Or.inr hq, hSt, B.notSynchronized, hl0, Nat.le_refl _, Nat.le_refl _, Nat.le_refl _, Nat.le_refl _⟩ rr hrr s.heap [] _ hM va_S.rf hl
theorem aw_irL {v : Int32} {mc ms : Nat} (hC : Cx p l e R s m args meth c D loc cy A cc nL ret own fr lo cb sb) (hd : decode cc pc = .ok (.ireturn, 1)) (hr0 : ret = some .int) (hmc : Nat.ble kn.1 mc = true) (hms : Nat.ble kn.2 ms = true) (hX : RF X = some (.inr (some (.int v)), h)) : AW p l e R s m args below meth c D loc cy A nL (QL below D loc cy A args s mc ms) RF (kn) (pc) (L) ([.int v]) (h) (X) := by
  intro rr hr H locs ls hM hS hl
  rw [hX] at hr
  cases hr
  exact W.widen (Nat.le_of_ble_eq_true hmc) (Nat.le_of_ble_eq_true hms) (W.iret hC.1 hC.2.1 (hC.2.2.2.1.trans hr0) (fun t ht _ => ⟨_, rfl, rfl, by rw [ht]; exact hM, hS.F ht⟩) hS.2.2 hd hC.2.2.2.2.2.2.2.2.2.2.2.1)
/-- the row of the table that takes an exception of class number n: the rows ahead name another class, of which it is none -/
def CT1 (own : String) (hh : List (Nat × Nat × Nat × Nat)) (pc : Nat) (n : Nat) (tgt : Nat) : Prop :=
  ∃ (pre : List ExceptionTableEntry) (x : ExceptionTableEntry) (suf : List ExceptionTableEntry), tableOf hh = pre ++ x :: suf ∧
    (∀ z ∈ pre, z.catchType ≠ 0 ∧ Cond.classLink own z.catchType "java/lang/IndexOutOfBoundsException" ∈ LW ∧ n = 1) ∧
    covers x pc = true ∧ x.catchType ≠ 0 ∧ Cond.classLink own x.catchType (exN n) ∈ LW ∧ Cond.castable (exN n) (exN n) ∈ NL ∧ x.handlerPc = tgt
theorem aw_callC {idx n mL fr2 lo2 : Nat} {y : MethodName} {bytes : ByteArray} {rt : Option FieldType} {rr : RR} {As ST : List Value} {mc2 ms2 : Nat} {ci i : Nat} {T : u_T} {N : Nat} {hh : List (Nat × Nat × Nat × Nat)} (hC : Cx p l e R s m args meth c D loc cy A cc nL ret own fr lo cb sb) (htab : c.exceptionTable.toList = tableOf hh) (hd : decode cc pc = .ok (.invokevirtual idx, 3)) (hv : CV own idx y bytes mL rt n) (hcl : vwCl[ci]? = some (y.cls, T, N)) (hr0 : (ci, i, 0) ∈ refs) (hA : AX l D loc cy y (Cond.code y bytes mL rt :: LW) fr2 lo2 mc2 ms2 (.ref (loc (ci, i, 0)) :: As) h (some rr)) (hn : As.length = n) (hST : ST = As.reverse ++ .ref (loc (ci, i, 0)) :: S) (hW : Nat.ble ((S.map fun v => v.category).sum) 8 = true) (hf : Nat.ble (fr2 + 1) fr = true) (hlo : Nat.ble (8 + (mL + 11) + lo2) lo = true) (hk : Nat.ble (kn.1 + mc2) cb = true ∧ Nat.ble (kn.2 + ms2) sb = true)
    (kx : ∀ n, rr.1 = .inl n → ∃ tgt, CT1 own hh pc n tgt ∧ ∀ q, AW p l e R s m args below meth c D loc cy A nL Qof RF (kn.1 + mc2, kn.2 + ms2) tgt L [.ref q] rr.2 X)
    (kk : ∀ rv, rr.1 = .inr rv → AW p l e R s m args below meth c D loc cy A nL Qof RF ((kn.1 + mc2, kn.2 + ms2)) (pc + 3) (L) (rv.toList ++ S) (rr.2) (X)) : AW p l e R s m args below meth c D loc cy A nL Qof RF (kn) (pc) (L) (ST) (h) (X) := by
  intro r9 hr9 H locs ls hM hS hl T hT X0
  have hAA := aof_call hC hS
  have key : ∀ (t T' : State) (L2 : List Loc) (st₀ : State), st₀.heap = H → va_F (Aof loc H.size) st₀ t → T'.heap = t.heap → (∀ q ∈ L2, Aof loc H.size q.base) → va_S A s.heap T'.heap (locs ++ L2) := by
    intro t T' L2 st₀ h0 q4 e1 hL
    obtain ⟨z, k1⟩ := q4
    rw [h0] at z k1
    exact ⟨Nat.le_trans hS.1 (by rw [e1]; exact z), fun q h1 h2 => by rw [e1, k1 q (Nat.lt_of_lt_of_le h1 hS.1) (fun z => h2 (hAA q z))]; exact hS.2.1 q h1 h2, fun q hq => by
      rcases List.mem_append.mp hq with h | h
      · exact hS.2.2 q h
      · exact hAA _ (hL q h)⟩
  have hr := vx_runV (p := p) (e := e) (below := below) (meth := meth) (locs := locs) (cells := kn.1) (slots := kn.2) (g := F0 m pc ls ST) (As := As) (b := loc (ci, i, 0)) (rest := S) ⟨hC.1, hC.2.1, hC.2.2.1, hC.2.2.2.2.1, hC.2.2.2.2.2.1⟩ (hA rr rfl H.size) (cv_of hC hv mc2 ms2 hf hlo) ⟨Wd_blind, rcv_of hC hM hr0 hcl, fun U hU hW => ⟨rfl, wd_call hC hM hS U hU hW⟩⟩ rfl hn hl.1 hST (lv_room (Nat.le_of_ble_eq_true hW)) hd ⟨Nat.le_trans (Nat.le_of_ble_eq_true hk.1) hC.2.2.2.2.2.2.2.2.2.2.2.2.2.2.2.1, Nat.le_trans (Nat.le_of_ble_eq_true hk.2) hC.2.2.2.2.2.2.2.2.2.2.2.2.2.2.2.2⟩
  rcases hr T hT X0 with ⟨v, st₀, t, T', L2, h0, X', hL, e1, e2, ⟨rv2, q1, q2, q3, q4⟩, st⟩ | ⟨q, st₀, t, T', L2, E, ce, h0, X', hL, e1, e2, ⟨n, q1, q2, q3, q4⟩, hce, hcv, hcl, st⟩
  · cases q2
    obtain ⟨t2, a1, b1⟩ := kk v q1 r9 hr9 T'.heap (locs ++ L2) ls (by rw [e1]; exact q3) (key t T' L2 st₀ h0 q4 e1 hL) hl T' rfl X'
    exact ⟨t2, st t2 a1, b1⟩
  · have hS2 := key t T' L2 st₀ h0 q4 e1 hL
    obtain ⟨tgt, ⟨pre, x, suf, e3, e4, e5, e6, e7, e8, e9⟩, kc⟩ := kx n q1
    subst e9
    subst q2
    have ko : vx_W p l e R s m args below meth c T'.heap (locs ++ L2) (kn.1 + mc2) (kn.2 + ms2) (Qof r9) (F0 m pc ls S) q := by
      refine vx_catch (name := exN n) (E := exN n) hC.2.2.2.2.1 pre x suf (htab.trans e3) (fun z hz => ?_) e5 e6 (hC.2.2.2.2.2.1 _ e7) (nl_use hC _ e8) (by rw [e1]; exact hce) hcv hcl (kc q r9 hr9 T'.heap (locs ++ L2) ls (by rw [e1]; exact q3) hS2 hl)
      obtain ⟨z1, z2, z3⟩ := e4 z hz
      subst z3
      exact Or.inr ⟨z1, _, hC.2.2.2.2.2.1 _ z2, hC.2.2.2.2.2.2.2.2.2.2.1.2.1⟩
    obtain ⟨t2, a1, b1⟩ := ko T' rfl X'
    exact ⟨t2, st.trans a1, b1⟩
end LAWC
