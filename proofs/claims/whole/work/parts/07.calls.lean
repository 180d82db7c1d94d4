/-- the names of the exceptions that the class throws -/
def exN : Nat → String
  | 0 => "java/lang/IllegalStateException"
  | 1 => "java/lang/IllegalArgumentException"
  | _ => "java/lang/IndexOutOfBoundsException"
def QC (D : va_G) (loc : Rf → Nat) (cy : Nat → ClassId) (A : Nat → Prop) (rr : RR) : Array Value → State → Outcome → State → Prop := fun _ st oc t => ∃ rv, rr.1 = .inr rv ∧ oc = .returned rv ∧ Sim D loc cy rr.2 t.heap ∧ va_F A st t
def XQ (D : va_G) (loc : Rf → Nat) (cy : Nat → ClassId) (A : Nat → Prop) (rr : RR) : String → State → State → Prop := fun E st t => ∃ n, rr.1 = .inl n ∧ E = exN n ∧ Sim D loc cy rr.2 t.heap ∧ va_F A st t
/-- the contract of a method that never throws: from every heap that holds h, its result is X -/
def AM (l : Launch) (D : va_G) (loc : Rf → Nat) (cy : Nat → ClassId) (y : MethodName) (cc : ByteArray) (nL : Nat) (ret : Option FieldType) (fr lo : Nat) (av : List Value) (h : HD) (X : Option RR) : Prop :=
  ∀ rr, X = some rr → ∀ sz, Met l y (Cond.code y cc nL ret :: LW) ({ frames := fr, cells := 0, slots := 0, locals := lo }) (va_Pc av (Wd D loc cy sz h)) (QC D loc cy (Aof loc sz) rr) 0 0 (Aof loc sz)
/-- the contract of a method that may throw, with room for mc cells of ms places -/
def AX (l : Launch) (D : va_G) (loc : Rf → Nat) (cy : Nat → ClassId) (y : MethodName) (ws : List Cond) (fr lo mc ms : Nat) (av : List Value) (h : HD) (X : Option RR) : Prop :=
  ∀ rr, X = some rr → ∀ sz, vx_Met l y ws ({ frames := fr, cells := mc, slots := ms, locals := lo }) (va_Pc av (Wd D loc cy sz h)) (QC D loc cy (Aof loc sz) rr) (XQ D loc cy (Aof loc sz) rr) mc ms (Aof loc sz)
def QM (below : List Frame) (D : va_G) (loc : Rf → Nat) (cy : Nat → ClassId) (A : Nat → Prop) (args : Array Value) (s : State) (rr : RR) : State → Prop := MQ below (QC D loc cy A rr) args s 0 0 A
def QX (below : List Frame) (D : va_G) (loc : Rf → Nat) (cy : Nat → ClassId) (A : Nat → Prop) (args : Array Value) (s : State) (mc ms : Nat) (rr : RR) : State → Prop := vx_MQ below (QC D loc cy A rr) (XQ D loc cy A rr) args s mc ms A
theorem Wd_blind {D : va_G} {loc : Rf → Nat} {cy : Nat → ClassId} {sz : Nat} {h : HD} {av : List Value} : FrameBlind (va_Pc av (Wd D loc cy sz h)) := by
  intro a U g mk q
  obtain ⟨q0, q1, q2, q3, q4, q5⟩ := q
  exact ⟨q0, q1, q2, va_K.moved (u := U) (U := U.calling g mk a) (Vm.Alike.refl U.vm) q3, q4, St.same (u := U) (U := U.calling g mk a) rfl q5⟩
theorem LW_in {ws : List Cond} {w : Cond} (hw : w ∈ LW) (hs : ∀ x ∈ ws, x ∈ LW) : GoodIn LW (w :: ws) := by
  refine goodIn_sub (fun x hx => ?_) (List.all_eq_true.mpr fun x hx => LW_good x ?_) <;>
  · rcases List.mem_cons.mp hx with rfl | hx
    · exact hw
    · exact hs x hx
section CALLS
variable {p : Program} {l : Launch} {e : Env} {R : Room} {s : State} {m : MethodId} {args : Array Value} {below : List Frame} {meth : Method} {c : Code} {D : va_G} {loc : Rf → Nat} {cy : Nat → ClassId} {A : Nat → Prop} {cc : ByteArray} {nL : Nat} {ret : Option FieldType} {own : String} {fr lo cb sb : Nat} {Qof : RR → State → Prop} {α : Type} {RF : α → Option RR} {kn : Nat × Nat} {pc : Nat} {L : List (Nat × Value)} {S : List Value} {h : HD} {X : α}
theorem am_start {y : MethodName} {av : List Value} {x : α} (hl0 : l.stackTraces = false) (hy : plainName y.cls = true) (hlen : Nat.ble (lg_sl av).length nL = true)
    (body : ∀ (p : Program) (e : Env) (R : Room) (s : State) (m : MethodId) (below : List Frame) (meth : Method) (c : Code) (A : Nat → Prop), Cx p l e R s m av.toArray meth c D loc cy A cc nL ret y.cls fr lo 0 0 → AW p l e R s m av.toArray below meth c D loc cy A nL (QM below D loc cy A av.toArray s) RF (0, 0) 0 (lv_args 0 av) [] h x) : AM l D loc cy y cc nL ret fr lo av h (RF x) := by
  intro rr hrr sz
  refine Met.ofW (cc := cc) (maxL := nL) (ret := ret) hy rfl ?_
  intro p e s m args below meth c s₁ B hml hv
  obtain ⟨rfl, hsz, hM, hK, hI, hSt⟩ := hv
  subst hsz
  have hts := atoms_spec (ws := Cond.code y cc nL ret :: LW) B.pre
  have hl := lv_entry av (n := nL) (Nat.le_of_ble_eq_true hlen)
  rw [lg_entry_eq]
  exact body p e _ s m below meth c _ ⟨B.exec, B.bytes, hml, B.returns, findClass_of_methodNamed B.named, fun w hw => hts w (List.mem_cons_of_mem _ hw), hK, hI, fun r hr => Or.inl ⟨r, hr, rfl⟩, fun q hq => Or.inr hq, hSt, B.notSynchronized, hl0, Nat.le_refl _, Nat.le_refl _, Nat.le_refl _, Nat.le_refl _⟩ rr hrr s.heap [] _ hM va_S.rf hl
theorem ax_start {y : MethodName} {av : List Value} {x : α} {mc ms : Nat} (hl0 : l.stackTraces = false) (hy : plainName y.cls = true) (hlen : Nat.ble (lg_sl av).length nL = true)
    (body : ∀ (p : Program) (e : Env) (R : Room) (s : State) (m : MethodId) (below : List Frame) (meth : Method) (c : Code) (A : Nat → Prop), (∀ x, x ∈ c.exceptionTable.toList → False) → Cx p l e R s m av.toArray meth c D loc cy A cc nL ret y.cls fr lo mc ms → AW p l e R s m av.toArray below meth c D loc cy A nL (QX below D loc cy A av.toArray s mc ms) RF (0, 0) 0 (lv_args 0 av) [] h x) : AX l D loc cy y (Cond.code y cc nL ret :: LW) fr lo mc ms av h (RF x) := by
  intro rr hrr sz
  refine vx_ofW (cc := cc) (maxL := nL) (ret := ret) hy rfl ?_
  intro p e s m args below meth c s₁ B hml hxt hv
  obtain ⟨rfl, hsz, hM, hK, hI, hSt⟩ := hv
  subst hsz
  have hts := atoms_spec (ws := Cond.code y cc nL ret :: LW) B.pre
  have hl := lv_entry av (n := nL) (Nat.le_of_ble_eq_true hlen)
  rw [lg_entry_eq]
  exact body p e _ s m below meth c _ hxt ⟨B.exec, B.bytes, hml, B.returns, findClass_of_methodNamed B.named, fun w hw => hts w (List.mem_cons_of_mem _ hw), hK, hI, fun r hr => Or.inl ⟨r, hr, rfl⟩, fun q hq => Or.inr hq, hSt, B.notSynchronized, hl0, Nat.le_refl _, Nat.le_refl _, Nat.le_refl _, Nat.le_refl _⟩ rr hrr s.heap [] _ hM va_S.rf hl
theorem aw_iret {v : Int32} (hC : Cx p l e R s m args meth c D loc cy A cc nL ret own fr lo cb sb) (hd : decode cc pc = .ok (.ireturn, 1)) (hr0 : ret = some .int) (hX : RF X = some (.inr (some (.int v)), h)) : AW p l e R s m args below meth c D loc cy A nL (QM below D loc cy A args s) RF ((0, 0)) (pc) (L) ([.int v]) (h) (X) := by
  intro rr hr H locs ls hM hS hl
  rw [hX] at hr
  cases hr
  exact W.iret hC.1 hC.2.1 (hC.2.2.2.1.trans hr0) (fun t ht _ => ⟨_, rfl, rfl, by rw [ht]; exact hM, hS.F ht⟩) hS.2.2 hd hC.2.2.2.2.2.2.2.2.2.2.2.1
theorem aw_lret {v : Int64} (hC : Cx p l e R s m args meth c D loc cy A cc nL ret own fr lo cb sb) (hd : decode cc pc = .ok (.lreturn, 1)) (hr0 : ret = some .long) (hX : RF X = some (.inr (some (.long v)), h)) : AW p l e R s m args below meth c D loc cy A nL (QM below D loc cy A args s) RF ((0, 0)) (pc) (L) ([.long v]) (h) (X) := by
  intro rr hr H locs ls hM hS hl
  rw [hX] at hr
  cases hr
  exact W.lret hC.1 hC.2.1 (hC.2.2.2.1.trans hr0) (fun t ht _ => ⟨_, rfl, rfl, by rw [ht]; exact hM, hS.F ht⟩) hS.2.2 hd hC.2.2.2.2.2.2.2.2.2.2.2.1
theorem aw_fret {v : UInt32} (hC : Cx p l e R s m args meth c D loc cy A cc nL ret own fr lo cb sb) (hd : decode cc pc = .ok (.freturn, 1)) (hr0 : ret = some .float) (hX : RF X = some (.inr (some (.float v)), h)) : AW p l e R s m args below meth c D loc cy A nL (QM below D loc cy A args s) RF ((0, 0)) (pc) (L) ([.float v]) (h) (X) := by
  intro rr hr H locs ls hM hS hl
  rw [hX] at hr
  cases hr
  exact W.fret hC.1 hC.2.1 (hC.2.2.2.1.trans hr0) (fun t ht _ => ⟨_, rfl, rfl, by rw [ht]; exact hM, hS.F ht⟩) hS.2.2 hd hC.2.2.2.2.2.2.2.2.2.2.2.1
theorem aw_dret {v : UInt64} (hC : Cx p l e R s m args meth c D loc cy A cc nL ret own fr lo cb sb) (hd : decode cc pc = .ok (.dreturn, 1)) (hr0 : ret = some .double) (hX : RF X = some (.inr (some (.double v)), h)) : AW p l e R s m args below meth c D loc cy A nL (QM below D loc cy A args s) RF ((0, 0)) (pc) (L) ([.double v]) (h) (X) := by
  intro rr hr H locs ls hM hS hl
  rw [hX] at hr
  cases hr
  exact W.dret hC.1 hC.2.1 (hC.2.2.2.1.trans hr0) (fun t ht _ => ⟨_, rfl, rfl, by rw [ht]; exact hM, hS.F ht⟩) hS.2.2 hd hC.2.2.2.2.2.2.2.2.2.2.2.1
theorem aw_zret {v : Int32} {b : Bool} (hC : Cx p l e R s m args meth c D loc cy A cc nL ret own fr lo cb sb) (hd : decode cc pc = .ok (.ireturn, 1)) (hr0 : ret = some .boolean) (hb : v = b2i b) (hX : RF X = some (.inr (some (.int (b2i b))), h)) : AW p l e R s m args below meth c D loc cy A nL (QM below D loc cy A args s) RF ((0, 0)) (pc) (L) ([.int v]) (h) (X) := by
  intro rr hr H locs ls hM hS hl
  rw [hX] at hr
  cases hr
  subst hb
  exact W.zret hC.1 hC.2.1 (hC.2.2.2.1.trans hr0) (by cases b <;> decide) (fun t ht _ => ⟨_, rfl, rfl, by rw [ht]; exact hM, hS.F ht⟩) hS.2.2 hd hC.2.2.2.2.2.2.2.2.2.2.2.1
theorem aw_vret (hC : Cx p l e R s m args meth c D loc cy A cc nL ret own fr lo cb sb) (hd : decode cc pc = .ok (.return_, 1)) (hr0 : ret = none) (hX : RF X = some (.inr none, h)) : AW p l e R s m args below meth c D loc cy A nL (QM below D loc cy A args s) RF ((0, 0)) (pc) (L) ([]) (h) (X) := by
  intro rr hr H locs ls hM hS hl
  rw [hX] at hr
  cases hr
  exact W.vret hC.1 hC.2.1 (hC.2.2.2.1.trans hr0) (fun t ht _ => ⟨_, rfl, rfl, by rw [ht]; exact hM, hS.F ht⟩) hS.2.2 hd hC.2.2.2.2.2.2.2.2.2.2.2.1
theorem aw_aret {v : Value} {rt : FieldType} (hC : Cx p l e R s m args meth c D loc cy A cc nL ret own fr lo cb sb) (hd : decode cc pc = .ok (.areturn, 1)) (hr0 : ret = some rt) (hrt : (∃ n, rt = .object n) ∨ ∃ t, rt = .array t) (hv : v = .null ∨ ∃ a, v = .ref a) (hX : RF X = some (.inr (some v), h)) : AW p l e R s m args below meth c D loc cy A nL (QM below D loc cy A args s) RF ((0, 0)) (pc) (L) ([v]) (h) (X) := by
  intro rr hr H locs ls hM hS hl
  rw [hX] at hr
  cases hr
  exact W.aret hC.1 hC.2.1 (hC.2.2.2.1.trans hr0) hrt hv (fun t ht _ => ⟨_, rfl, rfl, by rw [ht]; exact hM, hS.F ht⟩) hS.2.2 hd hC.2.2.2.2.2.2.2.2.2.2.2.1
/-- what a callee's start asks, out of what the caller holds -/
theorem wd_call {H : Heap} {locs : List Loc} (hC : Cx p l e R s m args meth c D loc cy A cc nL ret own fr lo cb sb) (hM : Sim D loc cy h H) (hS : va_S A s.heap H locs) (U : State) (hU : U.heap = H) (hW : s.WarmedH U.vm) : Wd D loc cy H.size h U := by
  obtain ⟨-, -, -, -, -, -, hK, hI, hA, hA2, hSt, -⟩ := hC
  refine ⟨by rw [hU], by rw [hU]; exact hM, va_K.moved hW.alike hK, hI, St.step hW (A := A) (fun a ha hn => by rw [hU]; exact hS.2.1 a ha hn) ?_ hSt⟩
  rintro q (⟨r, hr, rfl⟩ | hq)
  · exact hA r hr
  · exact hA2 q (Nat.le_trans hS.1 hq)
theorem aof_call {H : Heap} {locs : List Loc} (hC : Cx p l e R s m args meth c D loc cy A cc nL ret own fr lo cb sb) (hS : va_S A s.heap H locs) : ∀ q, Aof loc H.size q → A q := by
  obtain ⟨-, -, -, -, -, -, hK, hI, hA, hA2, -⟩ := hC
  rintro q (⟨r, hr, rfl⟩ | hq)
  · exact hA r hr
  · exact hA2 q (Nat.le_trans hS.1 hq)
theorem aw_run {rr : RR} {rv : Option Value} {ST : List Value} {a : Array Value} (hC : Cx p l e R s m args meth c D loc cy A cc nL ret own fr lo cb sb) (hrv : rr.1 = .inr rv)
    (hr : ∀ (H : Heap) (locs : List Loc) (ls : Array Slot), Sim D loc cy h H → va_S A s.heap H locs → lv_has ls nL L → va_Run p l e R s m args below meth c H locs kn.1 kn.2 0 0 (F0 m pc ls ST) S (QC D loc cy (Aof loc H.size) rr a) (Aof loc H.size))
    (kk : AW p l e R s m args below meth c D loc cy A nL Qof RF kn (pc + 3) L (rv.toList ++ S) rr.2 X) : AW p l e R s m args below meth c D loc cy A nL Qof RF kn pc L ST h X := by
  intro r9 hr9 H locs ls hM hS hl T hT X0
  have hAA := aof_call hC hS
  obtain ⟨v, st₀, t, T', L2, h0, X', hL, e1, e2, ⟨rv2, q1, q2, q3, q4⟩, st⟩ := hr H locs ls hM hS hl T hT X0
  cases q2
  cases hrv.symm.trans q1
  obtain ⟨z, k1⟩ := q4
  rw [h0] at z k1
  have hS2 : va_S A s.heap T'.heap (locs ++ L2) := ⟨Nat.le_trans hS.1 (by rw [e1]; exact z), fun q h1 h2 => by rw [e1, k1 q (Nat.lt_of_lt_of_le h1 hS.1) (fun z => h2 (hAA q z))]; exact hS.2.1 q h1 h2, fun q hq => by
    rcases List.mem_append.mp hq with h | h
    · exact hS.2.2 q h
    · exact hAA _ (hL q h)⟩
  obtain ⟨t2, a1, b1⟩ := kk r9 hr9 T'.heap (locs ++ L2) ls (by rw [e1]; exact q3) hS2 hl T' rfl X'
  exact ⟨t2, st t2 a1, b1⟩
/-- what the tables say of a call: by a name of the class's own, a static one, one of a nest mate -/
def CV (own : String) (idx : Nat) (y : MethodName) (bytes : ByteArray) (mL : Nat) (rt : Option FieldType) (n : Nat) : Prop := Cond.methodLink own idx y ∈ LW ∧ Cond.instanceMethod y ∈ LW ∧ Cond.selects y.cls y y ∈ LW ∧ Cond.initialized y.cls ∈ LW ∧ Cond.code y bytes mL rt ∈ LW ∧ y.cls ≠ "java/lang/invoke/MethodHandle" ∧ y.cls ≠ "java/lang/invoke/VarHandle" ∧ (parseMethodDescriptor y.desc).map (fun d => d.parameters.length) = some n
def CS (own : String) (idx : Nat) (y : MethodName) (bytes : ByteArray) (mL : Nat) (rt : Option FieldType) (n : Nat) : Prop := Cond.methodLink own idx y ∈ LW ∧ Cond.static y ∈ LW ∧ Cond.initialized y.cls ∈ LW ∧ Cond.code y bytes mL rt ∈ LW ∧ y.cls ≠ "java/lang/invoke/MethodHandle" ∧ y.cls ≠ "java/lang/invoke/VarHandle" ∧ (parseMethodDescriptor y.desc).map (fun d => d.parameters.length) = some n
def CN (own : String) (idx : Nat) (y : MethodName) (host : String) (bytes : ByteArray) (mL : Nat) (rt : Option FieldType) (n : Nat) : Prop := Cond.methodLinkNest own idx y host ∈ NL ∧ Cond.static y ∈ LW ∧ Cond.initialized y.cls ∈ LW ∧ Cond.code y bytes mL rt ∈ LW ∧ y.cls ≠ "java/lang/invoke/MethodHandle" ∧ y.cls ≠ "java/lang/invoke/VarHandle" ∧ (parseMethodDescriptor y.desc).map (fun d => d.parameters.length) = some n
theorem GL {w : Cond} (hw : w ∈ LW) : GoodIn LW (w :: LW) := LW_in hw (fun _ h => h)
theorem cv_of {idx n mL fr2 lo2 : Nat} {y : MethodName} {bytes : ByteArray} {rt : Option FieldType} (hC : Cx p l e R s m args meth c D loc cy A cc nL ret own fr lo cb sb) (hv : CV own idx y bytes mL rt n) (mc ms : Nat) (hf : Nat.ble (fr2 + 1) fr = true) (hlo : Nat.ble (8 + (mL + 11) + lo2) lo = true) : CallW R s args own y.cls idx y bytes mL rt (Cond.code y bytes mL rt :: LW) ({ frames := fr2, cells := mc, slots := ms, locals := lo2 }) mc ms n := by
  obtain ⟨h1, h2, h3, h4, h5, h6, h7, h8⟩ := hv
  have hts := hC.2.2.2.2.2.1
  have hR := hC.2.2.2.2.2.2.2.2.2.2.2.2.2
  refine ⟨callB_of n hts (GL h5) rfl rfl rfl (hts _ h4) (hts _ h1) ⟨h6, h7, h8⟩ ⟨Nat.le_trans (Nat.le_of_ble_eq_true hf) hR.1, Nat.le_trans (Nat.le_of_ble_eq_true hlo) hR.2.1⟩, hts _ h2, hts _ h3⟩
theorem cs_of {idx n mL fr2 lo2 : Nat} {y : MethodName} {bytes : ByteArray} {rt : Option FieldType} (hC : Cx p l e R s m args meth c D loc cy A cc nL ret own fr lo cb sb) (hv : CS own idx y bytes mL rt n) (mc ms : Nat) (hf : Nat.ble (fr2 + 1) fr = true) (hlo : Nat.ble (8 + (mL + 11) + lo2) lo = true) : CallB R s args own idx y bytes mL rt (Cond.code y bytes mL rt :: LW) ({ frames := fr2, cells := mc, slots := ms, locals := lo2 }) mc ms n ∧ (Cond.static y).before args s = true := by
  obtain ⟨h1, h2, h4, h5, h6, h7, h8⟩ := hv
  have hts := hC.2.2.2.2.2.1
  have hR := hC.2.2.2.2.2.2.2.2.2.2.2.2.2
  exact ⟨callB_of n hts (GL h5) rfl rfl rfl (hts _ h4) (hts _ h1) ⟨h6, h7, h8⟩ ⟨Nat.le_trans (Nat.le_of_ble_eq_true hf) hR.1, Nat.le_trans (Nat.le_of_ble_eq_true hlo) hR.2.1⟩, hts _ h2⟩
theorem cn_of {idx n mL fr2 lo2 : Nat} {y : MethodName} {host : String} {bytes : ByteArray} {rt : Option FieldType} (hC : Cx p l e R s m args meth c D loc cy A cc nL ret own fr lo cb sb) (hv : CN own idx y host bytes mL rt n) (hf : Nat.ble (fr2 + 1) fr = true) (hlo : Nat.ble (8 + (mL + 11) + lo2) lo = true) : va_CN R s args own idx y host bytes mL rt (Cond.code y bytes mL rt :: LW) ({ frames := fr2, cells := 0, slots := 0, locals := lo2 }) 0 0 n ∧ (Cond.static y).before args s = true ∧ True := by
  obtain ⟨h1, h2, h4, h5, h6, h7, h8⟩ := hv
  have hts := hC.2.2.2.2.2.1
  have hR := hC.2.2.2.2.2.2.2.2.2.2.2.2.2
  exact ⟨va_cnB n hts (GL h5) rfl rfl rfl (hC.2.2.2.2.2.2.2.2.2.2.1.1 _ h1) (hts _ h4) ⟨h6, h7, h8⟩ ⟨Nat.le_trans (Nat.le_of_ble_eq_true hf) hR.1, Nat.le_trans (Nat.le_of_ble_eq_true hlo) hR.2.1⟩, hts _ h2, trivial⟩
/-- the receiver: an object of the picture -/
theorem rcv_of {H : Heap} {ci i : Nat} {C : String} {T : u_T} {N : Nat} (hC : Cx p l e R s m args meth c D loc cy A cc nL ret own fr lo cb sb) (hM : Sim D loc cy h H) (hr0 : (ci, i, 0) ∈ refs) (hcl : vwCl[ci]? = some (C, T, N)) : ∃ cellB : Cell, H[loc (ci, i, 0)]? = some cellB ∧ cellB.vm.isStatics = false ∧ s.vm.findClass C = some cellB.cls := by
  obtain ⟨q, -, hq⟩ := wsl_at (loc := loc) (cy := cy) h hr0
  exact va_recv hC.2.2.2.2.2.2.1 hM.1 hcl hq
theorem aw_callV {idx n mL fr2 lo2 : Nat} {y : MethodName} {bytes : ByteArray} {rt : Option FieldType} {rr : RR} {rv : Option Value} {As ST : List Value} {ci i : Nat} {T : u_T} {N : Nat} (hC : Cx p l e R s m args meth c D loc cy A cc nL ret own fr lo cb sb) (hd : decode cc pc = .ok (.invokevirtual idx, 3)) (hv : CV own idx y bytes mL rt n) (hcl : vwCl[ci]? = some (y.cls, T, N)) (hr0 : (ci, i, 0) ∈ refs) (hA : AM l D loc cy y bytes mL rt fr2 lo2 (.ref (loc (ci, i, 0)) :: As) h (some rr)) (hn : As.length = n) (hST : ST = As.reverse ++ .ref (loc (ci, i, 0)) :: S) (hW : Nat.ble ((S.map fun v => v.category).sum) 8 = true) (hf : Nat.ble (fr2 + 1) fr = true) (hlo : Nat.ble (8 + (mL + 11) + lo2) lo = true) (hk : Nat.ble kn.1 cb = true ∧ Nat.ble kn.2 sb = true) (hrv : rr.1 = .inr rv) (kk : AW p l e R s m args below meth c D loc cy A nL Qof RF (kn) (pc + 3) (L) (rv.toList ++ S) (rr.2) (X)) : AW p l e R s m args below meth c D loc cy A nL Qof RF (kn) (pc) (L) (ST) (h) (X) := by
  refine aw_run hC hrv (fun H locs ls hM hS hl => va_runV (As := As) (b := loc (ci, i, 0)) (rest := S) ⟨hC.1, hC.2.1, hC.2.2.1, hC.2.2.2.2.1, hC.2.2.2.2.2.1⟩ (hA rr rfl H.size) (cv_of hC hv 0 0 hf hlo) ⟨Wd_blind, rcv_of hC hM hr0 hcl, fun U hU hW => ⟨rfl, wd_call hC hM hS U hU hW⟩⟩ rfl hn hl.1 hST (lv_room (Nat.le_of_ble_eq_true hW)) hd ⟨Nat.le_trans (Nat.le_of_ble_eq_true hk.1) hC.2.2.2.2.2.2.2.2.2.2.2.2.2.2.2.1, Nat.le_trans (Nat.le_of_ble_eq_true hk.2) hC.2.2.2.2.2.2.2.2.2.2.2.2.2.2.2.2⟩) kk
theorem aw_callS {idx n mL fr2 lo2 : Nat} {y : MethodName} {bytes : ByteArray} {rt : Option FieldType} {rr : RR} {rv : Option Value} {As ST : List Value} (hC : Cx p l e R s m args meth c D loc cy A cc nL ret own fr lo cb sb) (hd : decode cc pc = .ok (.invokestatic idx, 3)) (hv : CS own idx y bytes mL rt n) (hA : AM l D loc cy y bytes mL rt fr2 lo2 As h (some rr)) (hn : As.length = n) (hST : ST = As.reverse ++ S) (hW : Nat.ble ((S.map fun v => v.category).sum) 8 = true) (hf : Nat.ble (fr2 + 1) fr = true) (hlo : Nat.ble (8 + (mL + 11) + lo2) lo = true) (hk : Nat.ble kn.1 cb = true ∧ Nat.ble kn.2 sb = true) (hrv : rr.1 = .inr rv) (kk : AW p l e R s m args below meth c D loc cy A nL Qof RF (kn) (pc + 3) (L) (rv.toList ++ S) (rr.2) (X)) : AW p l e R s m args below meth c D loc cy A nL Qof RF (kn) (pc) (L) (ST) (h) (X) := by
  refine aw_run hC hrv (fun H locs ls hM hS hl => va_runS (As := As) (rest := S) ⟨hC.1, hC.2.1, hC.2.2.1, hC.2.2.2.2.1, hC.2.2.2.2.2.1⟩ (hA rr rfl H.size) (cs_of hC hv 0 0 hf hlo) ⟨Wd_blind, fun U hU hW => ⟨rfl, wd_call hC hM hS U hU hW⟩⟩ rfl hn hl.1 hST (lv_room (Nat.le_of_ble_eq_true hW)) hd ⟨Nat.le_trans (Nat.le_of_ble_eq_true hk.1) hC.2.2.2.2.2.2.2.2.2.2.2.2.2.2.2.1, Nat.le_trans (Nat.le_of_ble_eq_true hk.2) hC.2.2.2.2.2.2.2.2.2.2.2.2.2.2.2.2⟩) kk
theorem aw_callN {idx n mL fr2 lo2 : Nat} {y : MethodName} {bytes : ByteArray} {rt : Option FieldType} {rr : RR} {rv : Option Value} {As ST : List Value} {host : String} (hC : Cx p l e R s m args meth c D loc cy A cc nL ret own fr lo cb sb) (hd : decode cc pc = .ok (.invokestatic idx, 3)) (hv : CN own idx y host bytes mL rt n) (hA : AM l D loc cy y bytes mL rt fr2 lo2 As h (some rr)) (hn : As.length = n) (hST : ST = As.reverse ++ S) (hW : Nat.ble ((S.map fun v => v.category).sum) 8 = true) (hf : Nat.ble (fr2 + 1) fr = true) (hlo : Nat.ble (8 + (mL + 11) + lo2) lo = true) (hk : Nat.ble kn.1 cb = true ∧ Nat.ble kn.2 sb = true) (hrv : rr.1 = .inr rv) (kk : AW p l e R s m args below meth c D loc cy A nL Qof RF (kn) (pc + 3) (L) (rv.toList ++ S) (rr.2) (X)) : AW p l e R s m args below meth c D loc cy A nL Qof RF (kn) (pc) (L) (ST) (h) (X) := by
  refine aw_run hC hrv (fun H locs ls hM hS hl => va_runSN (As := As) (rest := S) ⟨hC.1, hC.2.1, hC.2.2.1, hC.2.2.2.2.1, hC.2.2.2.2.2.1⟩ (hA rr rfl H.size) (cn_of hC hv hf hlo) ⟨Wd_blind, fun U hU hW => ⟨rfl, wd_call hC hM hS U hU hW⟩⟩ rfl hn hl.1 hST (lv_room (Nat.le_of_ble_eq_true hW)) hd ⟨Nat.le_trans (Nat.le_of_ble_eq_true hk.1) hC.2.2.2.2.2.2.2.2.2.2.2.2.2.2.2.1, Nat.le_trans (Nat.le_of_ble_eq_true hk.2) hC.2.2.2.2.2.2.2.2.2.2.2.2.2.2.2.2⟩) kk
end CALLS
