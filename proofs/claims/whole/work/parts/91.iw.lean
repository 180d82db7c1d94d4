/-! CONSTRUCTORS: a walk over a picture that grows. IW at a place: from every heap that holds the cells ws the walk goes on to Q. -/
def NLI : List Cond := [.methodLinkNest RX8 11 yX6_init "ParkingCircle", .methodLinkNest RX8 34 yX5_init "ParkingCircle", .methodLinkNest RX8 41 yX2_init "ParkingCircle", .methodLinkNest RX8 61 yX4_init "ParkingCircle", .methodLinkNest RX8 71 yX7_init "ParkingCircle"]
def AOA (U : State) : Prop := (Cond.arrayOver (.array .int)).before #[] U = true
theorem AOA.spec {U : State} (h : AOA U) : ∃ comp c k, U.vm.findClass (FieldType.array .int).toString = some comp ∧ (U.vm.classes.findIdx? fun (x : Class) => match x.kind with | .array component _ => component == comp | _ => false) = some c ∧ U.vm.classes[c]? = some k ∧ k.kind = .array comp (.array .int) ∧ U.vm.findClass ("[" ++ (FieldType.array (.array .int)).toString.drop 1) = U.vm.findClass ("[" ++ (FieldType.array (.array .int)).toString.drop 1) ∧ U.vm.findClass ("[" ++ (FieldType.array .int).toString) = some c := by
  unfold AOA Cond.before Cond.holds at h
  simp only [Cond.value, beq_iff_eq] at h
  cases hc : U.vm.findClass (FieldType.array .int).toString with
  | none => simp [hc] at h
  | some comp =>
    simp only [hc, Option.bind_some, Option.bind_eq_some_iff, Option.map_eq_some_iff] at h
    obtain ⟨c, hi, k, hk, hb⟩ := h
    obtain ⟨hlt, hp, -⟩ := Array.findIdx?_eq_some_iff_getElem.mp hi
    have hkk : U.vm.classes[c] = k := (Array.getElem?_eq_some_iff.mp hk).2
    rw [hkk] at hp
    cases hkind : k.kind with
    | array component ty =>
      rw [hkind] at hb hp
      simp at hb hp
      exact ⟨comp, c, k, rfl, hi, hk, by rw [hkind, hp, hb.1], rfl, hb.2⟩
    | _ => rw [hkind] at hb; simp at hb
theorem AOA.moved {u U : State} (hvm : u.vm.Alike U.vm) (h : AOA u) : AOA U := by
  obtain ⟨comp, c, k, h1, h2, h3, h4, -, h5⟩ := AOA.spec h
  obtain ⟨k', hk', he⟩ := hvm.2.2 _ _ h3
  have q1 := va_idx_bare U.vm comp
  have q2 := va_idx_bare u.vm comp
  have hb : u.vm.bare = U.vm.bare := by first | exact hvm.bare_eq | exact hvm.bare_eq.symm
  rw [← hb] at q1
  have hi := q1.symm.trans (q2.trans h2)
  have hkind : k'.kind = .array comp (.array .int) := by rw [he]; exact h4
  have f1 : U.vm.findClass (FieldType.array .int).toString = some comp := by rw [hvm.findClass]; exact h1
  have f2 : U.vm.findClass ("[" ++ (FieldType.array .int).toString) = some c := by rw [hvm.findClass]; exact h5
  unfold AOA Cond.before Cond.holds
  simp only [Cond.value]
  rw [f1, Option.bind_some]
  refine (congrArg (fun o : Option Nat => (o.bind (fun c => (U.vm.classes[c]?).map fun (k : Class) => match k.kind with | .array _ ty => decide (ty = FieldType.array .int) && decide (U.vm.findClass ("[" ++ (FieldType.array .int).toString) = some c) | _ => false) == some true)) hi).trans ?_
  simp [hk', hkind, f2]
/-- what a constructor asks of the machine, besides its words -/
def KX (D : va_G) (cy : Nat → ClassId) (U : State) : Prop := va_K D vwCl (tysO cy) U ∧ va_AO "ParkingCircle$Command" U ∧ va_AO "ParkingCircle$Cars" U ∧ AOA U ∧ ∀ w ∈ NLI, va_Nw w U
theorem KX.warm {D : va_G} {cy : Nat → ClassId} {s U : State} (hW : s.WarmedH U.vm) (h : KX D cy s) : KX D cy U := by
  obtain ⟨h1, h2, h3, h4, h5⟩ := h
  refine ⟨va_K.moved hW.alike h1, va_AO.moved hW.alike h2, va_AO.moved hW.alike h3, AOA.moved hW.alike h4, fun w hw => ?_⟩
  have hm := hw
  simp only [NLI, List.mem_cons, List.not_mem_nil, or_false] at hm
  rcases hm with rfl | rfl | rfl | rfl | rfl <;> exact va_Nw.warmM hW (h5 _ hw)
theorem KX.same {D : va_G} {cy : Nat → ClassId} {u U : State} (hv : U.vm = u.vm) (h : KX D cy u) : KX D cy U := by
  obtain ⟨h1, h2, h3, h4, h5⟩ := h
  have ha : u.vm.Alike U.vm := by rw [hv]; exact Vm.Alike.refl u.vm
  refine ⟨va_K.moved ha h1, va_AO.moved ha h2, va_AO.moved ha h3, AOA.moved ha h4, fun w hw => ?_⟩
  have hm := hw
  simp only [NLI, List.mem_cons, List.not_mem_nil, or_false] at hm
  rcases hm with rfl | rfl | rfl | rfl | rfl <;> exact va_tabs rfl hv.symm (h5 _ hw)
def Ix (p : Program) (R : Room) (s : State) (m : MethodId) (args : Array Value) (meth : Method) (c : Code) (D : va_G) (cy : Nat → ClassId) (A : Nat → Prop) (cc : ByteArray) (nL : Nat) (ret : Option FieldType) (own : String) (nm : String) (fr lo cb sb : Nat) : Prop :=
  p.tables.exec = Jvm.exec ∧ c.code = cc ∧ c.maxLocals = nL ∧ meth.sig.returnType = ret ∧ s.vm.findClass own = some m.cls ∧ (∀ w ∈ LW, w.before args s = true) ∧ KX D cy s ∧ (∀ q, s.heap.size ≤ q → A q) ∧ meth.locks = false ∧ meth.name = nm ∧ fr ≤ R.frames ∧ lo ≤ R.locals ∧ cb ≤ R.cells ∧ sb ≤ R.slots
def IW (p : Program) (l : Launch) (e : Env) (R : Room) (s : State) (m : MethodId) (args : Array Value) (below : List Frame) (meth : Method) (c : Code) (D : va_G) (A : Nat → Prop) (nL : Nat) (Q : State → Prop) (kn : Nat × Nat) (pc : Nat) (L : List (Nat × Value)) (S : List Value) (ws : va_W) : Prop :=
  ∀ (H : Heap) (locs : List Loc) (ls : Array Slot), va_P D vwCl ws H → va_D A ws → va_S A s.heap H locs → lv_has ls nL L → W p l e R s m args below meth c H locs kn.1 kn.2 Q (F0 m pc ls S)
/-- the start and the end of a constructor -/
def IP (D : va_G) (cy : Nat → ClassId) (sz : Nat) (ws0 : va_W) (U : State) : Prop := U.heap.size = sz ∧ va_P D vwCl ws0 U.heap ∧ KX D cy U ∧ va_D (fun _ => True) ws0
def IQ (D : va_G) (sz : Nat) (ws0 : va_W) (post : (Nat → Nat) → va_W) (rv : Option Value) : Array Value → State → Outcome → State → Prop := fun _ st o t => o = .returned rv ∧ (∃ f, va_P D vwCl (post f) t.heap ∧ va_D (va_A ws0 sz) (post f)) ∧ va_F (va_A ws0 sz) st t
def IM (l : Launch) (D : va_G) (cy : Nat → ClassId) (y : MethodName) (cc : ByteArray) (nL : Nat) (ret : Option FieldType) (fr lo mc ms : Nat) (av : List Value) (ws0 : va_W) (post : (Nat → Nat) → va_W) (rv : Option Value) : Prop :=
  ∀ sz, Met l y (Cond.code y cc nL ret :: LW) ({ frames := fr, cells := mc, slots := ms, locals := lo }) (va_Pc av (IP D cy sz ws0)) (IQ D sz ws0 post rv) mc ms (va_A ws0 sz)
theorem IP_blind {D : va_G} {cy : Nat → ClassId} {sz : Nat} {ws0 : va_W} {av : List Value} : FrameBlind (va_Pc av (IP D cy sz ws0)) := by
  intro a U g mk q
  obtain ⟨q0, q1, q2, q3, q4⟩ := q
  exact ⟨q0, q1, q2, KX.same (u := U) (U := U.calling g mk a) rfl q3, q4⟩
section IWR
variable {p : Program} {l : Launch} {e : Env} {R : Room} {s : State} {m : MethodId} {args : Array Value} {below : List Frame} {meth : Method} {c : Code} {D : va_G} {cy : Nat → ClassId} {A : Nat → Prop} {cc : ByteArray} {nL : Nat} {ret : Option FieldType} {own nm : String} {fr lo cb sb : Nat} {Q : State → Prop} {kn : Nat × Nat} {pc : Nat} {L : List (Nat × Value)} {S : List Value} {ws : va_W}
theorem im_start {y : MethodName} {av : List Value} {mc ms : Nat} {ws0 : va_W} {post : (Nat → Nat) → va_W} {rv : Option Value} (hy : plainName y.cls = true) (hlen : Nat.ble (lg_sl av).length nL = true)
    (body : ∀ (p : Program) (e : Env) (R : Room) (s : State) (m : MethodId) (below : List Frame) (meth : Method) (c : Code) (A : Nat → Prop), Ix p R s m av.toArray meth c D cy A cc nL ret y.cls y.name fr lo mc ms → (∀ q, A q ↔ va_A ws0 s.heap.size q) → IW p l e R s m av.toArray below meth c D A nL (MQ below (IQ D s.heap.size ws0 post rv) av.toArray s mc ms A) (0, 0) 0 (lv_args 0 av) [] ws0) : IM l D cy y cc nL ret fr lo mc ms av ws0 post rv := by
  intro sz
  refine Met.ofW (cc := cc) (maxL := nL) (ret := ret) hy rfl ?_
  intro p e s m args below meth c s₁ B hml hv
  obtain ⟨rfl, hsz, hP, hK, hD0⟩ := hv
  subst hsz
  have hts := atoms_spec (ws := Cond.code y cc nL ret :: LW) B.pre
  have hl := lv_entry av (n := nL) (Nat.le_of_ble_eq_true hlen)
  rw [lg_entry_eq]
  exact body p e _ s m below meth c _ ⟨B.exec, B.bytes, hml, B.returns, findClass_of_methodNamed B.named, fun w hw => hts w (List.mem_cons_of_mem _ hw), hK, fun q h => Or.inr h, B.notSynchronized, (name_of_methodNamed B.named B.method).1, Nat.le_refl _, Nat.le_refl _, Nat.le_refl _, Nat.le_refl _⟩ (fun q => Iff.rfl) s.heap [] _ hP hD0.self va_S.rf hl
theorem iw_eq {ws2 : va_W} (h : ws = ws2) (kk : IW p l e R s m args below meth c D A nL Q kn pc L S ws2) : IW p l e R s m args below meth c D A nL Q kn pc L S ws := by rw [h]; exact kk
theorem iw_widen {kn2 : Nat × Nat} (h1 : kn.1 ≤ kn2.1) (h2 : kn.2 ≤ kn2.2) (kk : IW p l e R s m args below meth c D A nL Q kn2 pc L S ws) : IW p l e R s m args below meth c D A nL Q kn pc L S ws :=
  fun H locs ls hP hD hS hl => W.widen h1 h2 (kk H locs ls hP hD hS hl)
theorem iw_aload_n {k : Fin 4} {x : Nat} (hC : Ix p R s m args meth c D cy A cc nL ret own nm fr lo cb sb) (hd : decode cc pc = .ok (.aload_n k, 1)) (hg : gtL L k.val = some (.ref x)) (kk : IW p l e R s m args below meth c D A nL Q kn (pc + 1) L (.ref x :: S) ws) : IW p l e R s m args below meth c D A nL Q kn pc L S ws :=
  fun H locs ls hP hD hS hl => lv_aload_n hC.1 hC.2.1 hd rfl (lv_get hl hg) (kk H locs ls hP hD hS hl)
theorem iw_iload_n {k : Fin 4} {x : Int32} (hC : Ix p R s m args meth c D cy A cc nL ret own nm fr lo cb sb) (hd : decode cc pc = .ok (.iload_n k, 1)) (hg : gtL L k.val = some (.int x)) (kk : IW p l e R s m args below meth c D A nL Q kn (pc + 1) L (.int x :: S) ws) : IW p l e R s m args below meth c D A nL Q kn pc L S ws :=
  fun H locs ls hP hD hS hl => lv_iload_n hC.1 hC.2.1 hd rfl (lv_get hl hg) (kk H locs ls hP hD hS hl)
theorem iw_iconst {n : Int} {v : Int32} (hC : Ix p R s m args meth c D cy A cc nL ret own nm fr lo cb sb) (hd : decode cc pc = .ok (.iconst n, 1)) (hv : Int32.ofInt n = v) (kk : IW p l e R s m args below meth c D A nL Q kn (pc + 1) L (.int v :: S) ws) : IW p l e R s m args below meth c D A nL Q kn pc L S ws :=
  fun H locs ls hP hD hS hl => lv_iconst hC.1 hC.2.1 hd hv (kk H locs ls hP hD hS hl)
theorem iw_bipush {n : Int} {v : Int32} (hC : Ix p R s m args meth c D cy A cc nL ret own nm fr lo cb sb) (hd : decode cc pc = .ok (.bipush n, 2)) (hv : (Int8.ofInt n).toInt32 = v) (kk : IW p l e R s m args below meth c D A nL Q kn (pc + 2) L (.int v :: S) ws) : IW p l e R s m args below meth c D A nL Q kn pc L S ws :=
  fun H locs ls hP hD hS hl => lv_bipush hC.1 hC.2.1 hd hv (kk H locs ls hP hD hS hl)
theorem iw_sipush {n : Int} {v : Int32} (hC : Ix p R s m args meth c D cy A cc nL ret own nm fr lo cb sb) (hd : decode cc pc = .ok (.sipush n, 3)) (hv : (Int16.ofInt n).toInt32 = v) (kk : IW p l e R s m args below meth c D A nL Q kn (pc + 3) L (.int v :: S) ws) : IW p l e R s m args below meth c D A nL Q kn pc L S ws :=
  fun H locs ls hP hD hS hl => lv_sipush hC.1 hC.2.1 hd hv (kk H locs ls hP hD hS hl)
theorem iw_lconst {n : Fin 2} {v : Int64} (hC : Ix p R s m args meth c D cy A cc nL ret own nm fr lo cb sb) (hd : decode cc pc = .ok (.lconst n, 1)) (hv : Int64.ofNat (n : Nat) = v) (kk : IW p l e R s m args below meth c D A nL Q kn (pc + 1) L (.long v :: S) ws) : IW p l e R s m args below meth c D A nL Q kn pc L S ws :=
  fun H locs ls hP hD hS hl => lv_lconst hC.1 hC.2.1 hd hv (kk H locs ls hP hD hS hl)
theorem iw_dup {x : Nat} (hC : Ix p R s m args meth c D cy A cc nL ret own nm fr lo cb sb) (hd : decode cc pc = .ok (.dup, 1)) (kk : IW p l e R s m args below meth c D A nL Q kn (pc + 1) L (.ref x :: .ref x :: S) ws) : IW p l e R s m args below meth c D A nL Q kn pc L (.ref x :: S) ws :=
  fun H locs ls hP hD hS hl => lv_dup hC.1 hC.2.1 hd rfl (kk H locs ls hP hD hS hl)
theorem iw_goto {off : Int} {tgt : Nat} (hC : Ix p R s m args meth c D cy A cc nL ret own nm fr lo cb sb) (hd : decode cc pc = .ok (.goto off, 3)) (ht : (pc : Int) + off = (tgt : Int)) (kk : IW p l e R s m args below meth c D A nL Q kn tgt L S ws) : IW p l e R s m args below meth c D A nL Q kn pc L S ws :=
  fun H locs ls hP hD hS hl => lv_goto hC.1 hC.2.1 hd ht (kk H locs ls hP hD hS hl)
theorem iw_istore_n {k : Fin 4} {x : Int32} (hC : Ix p R s m args meth c D cy A cc nL ret own nm fr lo cb sb) (hd : decode cc pc = .ok (.istore_n k, 1)) (hn : k.val < nL) (kk : IW p l e R s m args below meth c D A nL Q kn (pc + 1) (st1 L k.val (.int x)) S ws) : IW p l e R s m args below meth c D A nL Q kn pc L (.int x :: S) ws :=
  fun H locs ls hP hD hS hl => lv_istore_n hC.1 hC.2.1 hd rfl hl hn rfl (fun ls2 hl2 => kk H locs ls2 hP hD hS (lv_st1 hl2))
theorem iw_new {idx ci N : Nat} {C : String} {T : u_T} {fs : List Value} {ty : Nat → FieldType} (hC : Ix p R s m args meth c D cy A cc nL ret own nm fr lo cb sb) (hd : decode cc pc = .ok (.new idx, 3)) (hin : ∀ w ∈ u_ws C T N, w ∈ LW) (hty : ∀ k, k < N → parseFieldDescriptor (T k).2.2.1 = some (ty k)) (hcl : Cond.classLink own idx C ∈ LW) (hinst : Cond.instantiable C N ∈ LW) (hini : Cond.initialized C ∈ LW) (hc : vwCl[ci]? = some (C, T, N)) (hfs : ∀ j, j < N → defaultValue (ty j) = vp_V fs j) (hk : Nat.ble (kn.1 + 1) cb = true ∧ Nat.ble (kn.2 + N) sb = true)
    (kk : ∀ q, IW p l e R s m args below meth c D A nL Q (kn.1 + 1, kn.2 + N) (pc + 3) L (.ref q :: S) (ws ++ [(q, .inr (ci, fs))])) : IW p l e R s m args below meth c D A nL Q kn pc L S ws :=
  fun H locs ls hP hD hS hl => va_new hC.1 hC.2.1 hC.2.2.2.2.2.1 hin ty hty hC.2.2.2.2.1 (hC.2.2.2.2.2.1 _ hcl) (hC.2.2.2.2.2.1 _ hinst) (hC.2.2.2.2.2.1 _ hini) hC.2.2.2.2.2.2.1.1 hP hD hS hC.2.2.2.2.2.2.2.1 hc hfs (Nat.le_trans (Nat.le_of_ble_eq_true hk.1) hC.2.2.2.2.2.2.2.2.2.2.2.2.1) (Nat.le_trans (Nat.le_of_ble_eq_true hk.2) hC.2.2.2.2.2.2.2.2.2.2.2.2.2) hd (fun q H1 hP1 hD1 hS1 => kk q H1 locs ls hP1 hD1 hS1 hl)
theorem iw_newa {atype : ArrayType} {ty : FieldType} {t N : Nat} {n : Int32} {a0 : vp_A} (hC : Ix p R s m args meth c D cy A cc nL ret own nm fr lo cb sb) (hd : decode cc pc = .ok (.newarray atype, 2)) (harr : Cond.arrayClass (newarray.typeOf atype) ∈ LW) (hty : newarray.typeOf atype = ty) (ht : (tysO cy)[t]? = some (cy t, ty)) (hra : ∀ U cA, va_RA U cA ty → U.vm.findClass ("[" ++ ty.toString) = some cA) (ha : ∀ cA : ClassId, vp_cell cA a0 = arrV cA N (fun _ => defaultValue ty)) (hn : ¬ n < 0) (hN : n.toNatClampNeg = N) (hbytes : Nat.ble (N * componentBytes ty) 536870912 = true) (hk : Nat.ble (kn.1 + 1) cb = true ∧ Nat.ble (kn.2 + N) sb = true)
    (kk : ∀ q, IW p l e R s m args below meth c D A nL Q (kn.1 + 1, kn.2 + N) (pc + 2) L (.ref q :: S) (ws ++ [(q, .inl (cy t, a0))])) : IW p l e R s m args below meth c D A nL Q kn pc L (.int n :: S) ws := by
  intro H locs ls hP hD hS hl
  refine va_newa hC.1 hC.2.1 (hC.2.2.2.2.2.1 _ harr) hty hC.2.2.2.2.2.2.1.1 hP hD hS hC.2.2.2.2.2.2.2.1 ha hn hN (Nat.le_of_ble_eq_true hbytes) (Nat.le_trans (Nat.le_of_ble_eq_true hk.1) hC.2.2.2.2.2.2.2.2.2.2.2.2.1) (Nat.le_trans (Nat.le_of_ble_eq_true hk.2) hC.2.2.2.2.2.2.2.2.2.2.2.2.2) hd (fun q cA H1 hK1 hP1 hD1 hS1 => ?_)
  have e : cA = cy t := by
    have k1 := hra _ _ (hK1.2 (tysO cy).length (cA, ty) (by rw [List.getElem?_append_right (Nat.le_refl _), Nat.sub_self]; rfl)).2
    have k2 := hra _ _ (hC.2.2.2.2.2.2.1.1.2 t _ ht).2
    exact Option.some.inj (k1.symm.trans k2)
  subst e
  exact kk q H1 locs ls hP1 hD1 hS1 hl
theorem ra_int : ∀ (U : State) (cA : ClassId), va_RA U cA .int → U.vm.findClass ("[" ++ FieldType.int.toString) = some cA := fun _ _ h => h
theorem ra_long : ∀ (U : State) (cA : ClassId), va_RA U cA .long → U.vm.findClass ("[" ++ FieldType.long.toString) = some cA := fun _ _ h => h
theorem ra_byte : ∀ (U : State) (cA : ClassId), va_RA U cA .byte → U.vm.findClass ("[" ++ FieldType.byte.toString) = some cA := fun _ _ h => h
theorem ra_boolean : ∀ (U : State) (cA : ClassId), va_RA U cA .boolean → U.vm.findClass ("[" ++ FieldType.boolean.toString) = some cA := fun _ _ h => h
theorem iw_newq {C : String} {idx t N : Nat} {n : Int32} (hC : Ix p R s m args meth c D cy A cc nL ret own nm fr lo cb sb) (hd : decode cc pc = .ok (.anewarray idx, 3)) (hcl : Cond.classLink own idx C ∈ LW) (hao : va_AO C s) (ht : (tysO cy)[t]? = some (cy t, .object C)) (hn : ¬ n < 0) (hN : n.toNatClampNeg = N) (hbytes : Nat.ble (N * 4) 536870912 = true) (hk : Nat.ble (kn.1 + 1) cb = true ∧ Nat.ble (kn.2 + N) sb = true)
    (kk : ∀ q, IW p l e R s m args below meth c D A nL Q (kn.1 + 1, kn.2 + N) (pc + 3) L (.ref q :: S) (ws ++ [(q, .inl (cy t, N, .inr (.inr (.inr (.inr (fun _ => none))))))])) : IW p l e R s m args below meth c D A nL Q kn pc L (.int n :: S) ws := by
  intro H locs ls hP hD hS hl
  refine va_newq hC.1 hC.2.1 hC.2.2.2.2.1 (hC.2.2.2.2.2.1 _ hcl) hao hC.2.2.2.2.2.2.1.1 hP hD hS hC.2.2.2.2.2.2.2.1 hn hN (Nat.le_of_ble_eq_true hbytes) (Nat.le_trans (Nat.le_of_ble_eq_true hk.1) hC.2.2.2.2.2.2.2.2.2.2.2.2.1) (Nat.le_trans (Nat.le_of_ble_eq_true hk.2) hC.2.2.2.2.2.2.2.2.2.2.2.2.2) hd (fun q cA H1 hK1 hP1 hD1 hS1 => ?_)
  have e : cA = cy t := by
    obtain ⟨_, _, -, -, -, k1⟩ := (hK1.2 (tysO cy).length (cA, .object C) (by rw [List.getElem?_append_right (Nat.le_refl _), Nat.sub_self]; rfl)).2
    obtain ⟨_, _, -, -, -, k2⟩ := (hC.2.2.2.2.2.2.1.1.2 t _ ht).2
    exact Option.some.inj (k1.symm.trans k2)
  subst e
  exact kk q H1 locs ls hP1 hD1 hS1 hl
theorem iw_put {idx ci k q0 a : Nat} {v : Value} {ty : FieldType} {fs : List Value} (hC : Ix p R s m args meth c D cy A cc nL ret own nm fr lo cb sb) (hd : decode cc pc = .ok (.putfield idx, 3)) (hf : FG own idx ci k) (hp : FP ci k ty) (he : ws[q0]? = some (a, .inr (ci, fs))) (hn : narrow ty v = v) (hfit : fits ty v = true) (hl : Nat.ble (k + 1) fs.length = true) (kk : IW p l e R s m args below meth c D A nL Q kn (pc + 3) L S (ws.set q0 (a, .inr (ci, fs.set k v)))) : IW p l e R s m args below meth c D A nL Q kn pc L (v :: .ref a :: S) ws := by
  intro H locs ls hP hD hS hl2
  obtain ⟨C, T, N, ty0, hcl, hN, hk, hlink, hin, hty, hnm⟩ := hf
  obtain ⟨C2, T2, N2, hcl2, hfin, hpd⟩ := hp
  have hee : (C2, T2, N2) = (C, T, N) := Option.some.inj (hcl2.symm.trans hcl)
  cases hee
  exact va_put hC.1 hC.2.1 hC.2.2.2.2.2.1 hin ty0 hty hnm hC.2.2.2.2.1 hC.2.2.2.2.2.2.1.1 hP hD hS q0 he hcl k hk (hC.2.2.2.2.2.1 _ hlink) (fun _ h9 => h9) hfin hpd hn hfit (Nat.le_of_ble_eq_true hl) hd (fun H1 locs1 hP1 hD1 hS1 => kk H1 locs1 ls hP1 hD1 hS1 hl2)
/-- a final field, set by its class's own constructor -/
def FPF (own : String) (ci k : Nat) (ty : FieldType) : Prop := ∃ (C : String) (T : u_T) (N : Nat), vwCl[ci]? = some (C, T, N) ∧ (T k).2.2.2 = true ∧ (T k).1 = own ∧ parseFieldDescriptor (T k).2.2.1 = some ty
theorem iw_putF {idx ci k q0 a : Nat} {v : Value} {ty : FieldType} {fs : List Value} (hC : Ix p R s m args meth c D cy A cc nL ret own nm fr lo cb sb) (hd : decode cc pc = .ok (.putfield idx, 3)) (hf : FG own idx ci k) (hp : FPF own ci k ty) (hnm0 : nm = "<init>") (he : ws[q0]? = some (a, .inr (ci, fs))) (hn : narrow ty v = v) (hfit : fits ty v = true) (hl : Nat.ble (k + 1) fs.length = true) (kk : IW p l e R s m args below meth c D A nL Q kn (pc + 3) L S (ws.set q0 (a, .inr (ci, fs.set k v)))) : IW p l e R s m args below meth c D A nL Q kn pc L (v :: .ref a :: S) ws := by
  intro H locs ls hP hD hS hl2
  obtain ⟨C, T, N, ty0, hcl, hN, hk, hlink, hin, hty, hnm⟩ := hf
  obtain ⟨C2, T2, N2, hcl2, hfin, hown, hpd⟩ := hp
  have hee : (C2, T2, N2) = (C, T, N) := Option.some.inj (hcl2.symm.trans hcl)
  cases hee
  exact va_putF hC.1 hC.2.1 hC.2.2.2.2.2.1 hin ty0 hty hnm hC.2.2.2.2.1 hC.2.2.2.2.2.2.1.1 hP hD hS q0 he hcl k hk (hC.2.2.2.2.2.1 _ hlink) (fun _ h9 => h9) hfin (hC.2.2.2.2.2.2.2.2.2.1.trans hnm0) hown hpd hn hfit (Nat.le_of_ble_eq_true hl) hd (fun H1 locs1 hP1 hD1 hS1 => kk H1 locs1 ls hP1 hD1 hS1 hl2)
theorem iw_get {idx ci k q0 a : Nat} {v : Value} {fs : List Value} (hC : Ix p R s m args meth c D cy A cc nL ret own nm fr lo cb sb) (hd : decode cc pc = .ok (.getfield idx, 3)) (hf : FG own idx ci k) (he : ws[q0]? = some (a, .inr (ci, fs))) (hv : fs[k]? = some v) (kk : IW p l e R s m args below meth c D A nL Q kn (pc + 3) L (v :: S) ws) : IW p l e R s m args below meth c D A nL Q kn pc L (.ref a :: S) ws := by
  intro H locs ls hP hD hS hl
  obtain ⟨C, T, N, ty0, hcl, hN, hk, hlink, hin, -, -⟩ := hf
  exact va_get hC.1 hC.2.1 hC.2.2.2.2.2.1 hin hC.2.2.2.2.1 hC.2.2.2.2.2.2.1.1 hP q0 he hcl k hk (hC.2.2.2.2.2.1 _ hlink) (fun _ h9 => h9) hv hd (kk H locs ls hP hD hS hl)
theorem iw_objInit {idx a : Nat} (hC : Ix p R s m args meth c D cy A cc nL ret own nm fr lo cb sb) (hd : decode cc pc = .ok (.invokespecial idx, 3)) (hlink : Cond.methodLink own idx Lib.objectInit ∈ LW) (hinst : Cond.instanceMethod Lib.objectInit ∈ LW) (hcode : Cond.code Lib.objectInit ⟨#[0xb1]⟩ 1 none ∈ LW) (hfr : Nat.ble 1 fr = true) (hlo : Nat.ble ((S.map fun v => v.category).sum + 12) lo = true) (kk : IW p l e R s m args below meth c D A nL Q kn (pc + 3) L S ws) : IW p l e R s m args below meth c D A nL Q kn pc L (.ref a :: S) ws := by
  intro H locs ls hP hD hS hl
  refine W.objInit hC.1 hC.2.1 hC.2.2.2.2.1 (hC.2.2.2.2.2.1 _ hlink) (hC.2.2.2.2.2.1 _ hinst) (hC.2.2.2.2.2.1 _ hcode) rfl (hl.1.trans hC.2.2.1.symm) rfl hd (Nat.le_trans (Nat.le_of_ble_eq_true hfr) hC.2.2.2.2.2.2.2.2.2.2.1) ?_ (kk H locs ls hP hD hS hl)
  refine Nat.le_trans ?_ (Nat.le_trans (Nat.le_of_ble_eq_true hlo) hC.2.2.2.2.2.2.2.2.2.2.2.1)
  exact Nat.le_of_eq (by show 2 * 0 + _ + 12 = _; omega)
theorem iw_vret {mc ms : Nat} {ws0 : va_W} {post : (Nat → Nat) → va_W} (f : Nat → Nat) (hC : Ix p R s m args meth c D cy A cc nL ret own nm fr lo cb sb) (hA : ∀ q, A q ↔ va_A ws0 s.heap.size q) (hd : decode cc pc = .ok (.return_, 1)) (hr0 : ret = none) (hmc : Nat.ble kn.1 mc = true) (hms : Nat.ble kn.2 ms = true) (hw : ws = post f) : IW p l e R s m args below meth c D A nL (MQ below (IQ D s.heap.size ws0 post none) args s mc ms A) kn pc L [] ws := by
  intro H locs ls hP hD hS hl
  subst hw
  have hAA : A = va_A ws0 s.heap.size := funext fun q => propext (hA q)
  subst hAA
  exact W.widen (Nat.le_of_ble_eq_true hmc) (Nat.le_of_ble_eq_true hms) (W.vret hC.1 hC.2.1 (hC.2.2.2.1.trans hr0) (fun t ht _ => ⟨rfl, ⟨f, by rw [ht]; exact hP, hD⟩, hS.F ht⟩) hS.2.2 hd hC.2.2.2.2.2.2.2.2.1)
theorem nd_range : ∀ (n a : Nat), va_nd (List.range' a n) = true := by
  intro n
  induction n with
  | zero => intro a; rfl
  | succ n ih =>
    intro a
    rw [List.range'_succ]
    unfold va_nd
    rw [ih (a + 1), Bool.and_true, decide_eq_true_eq]
    intro h
    have := (List.mem_range'_1.mp h).1
    omega
theorem iw_callI {idx n mL fr2 lo2 mc2 ms2 b : Nat} {y : MethodName} {bytes : ByteArray} {As ST : List Value} {wr : va_W} {x : Nat × va_E} {post : (Nat → Nat) → va_W} (hC : Ix p R s m args meth c D cy A cc nL ret own nm fr lo cb sb) (hd : decode cc pc = .ok (.invokespecial idx, 3)) (hM : IM l D cy y bytes mL none fr2 lo2 mc2 ms2 (.ref b :: As) [x] post none)
    (hcw : (Cond.methodLink own idx y ∈ LW) ∨ ∃ host, Cond.methodLinkNest own idx y host ∈ NLI) (hini : Cond.initialized y.cls ∈ LW) (hcode : Cond.code y bytes mL none ∈ LW) (hinst : Cond.instanceMethod y ∈ LW) (hy1 : y.name = "<init>") (hyd : y.cls ≠ "java/lang/invoke/MethodHandle" ∧ y.cls ≠ "java/lang/invoke/VarHandle" ∧ (parseMethodDescriptor y.desc).map (fun d => d.parameters.length) = some n) (hn : As.length = n) (hST : ST = As.reverse ++ .ref b :: S) (hW : Nat.ble ((S.map fun v => v.category).sum) 8 = true) (hf : Nat.ble (fr2 + 1) fr = true) (hlo : Nat.ble (8 + (mL + 11) + lo2) lo = true) (hk : Nat.ble (kn.1 + mc2) cb = true ∧ Nat.ble (kn.2 + ms2) sb = true) (hws : ws = wr ++ [x])
    (kk : ∀ f, IW p l e R s m args below meth c D A nL Q (kn.1 + mc2, kn.2 + ms2) (pc + 3) L S (wr ++ post f)) : IW p l e R s m args below meth c D A nL Q kn pc L ST ws := by
  intro H locs ls hP hD hS hl
  subst hws
  have hR1 := Nat.le_trans (Nat.le_of_ble_eq_true hf) hC.2.2.2.2.2.2.2.2.2.2.1
  have hR2 := Nat.le_trans (Nat.le_of_ble_eq_true hlo) hC.2.2.2.2.2.2.2.2.2.2.2.1
  have hR3 := Nat.le_trans (Nat.le_of_ble_eq_true hk.1) hC.2.2.2.2.2.2.2.2.2.2.2.2.1
  have hR4 := Nat.le_trans (Nat.le_of_ble_eq_true hk.2) hC.2.2.2.2.2.2.2.2.2.2.2.2.2
  have hts := hC.2.2.2.2.2.1
  have eC : [wr.length].map (fun i => (wr ++ [x])[i]?) = [x].map some := by
    simp
  have eR : (List.range' 0 wr.length).map (fun i => (wr ++ [x])[i]?) = wr.map some := by
    refine List.ext_getElem? fun i => ?_
    rw [List.getElem?_map, List.getElem?_map]
    by_cases q : i < wr.length
    · rw [List.getElem?_range' q, Option.map_some, List.getElem?_append_left (by omega), List.getElem?_eq_getElem (by omega)]
      simp only [Nat.zero_add, Nat.one_mul, Option.map_some]
      rw [List.getElem?_eq_getElem q]
      rfl
    · rw [List.getElem?_eq_none (by rw [List.length_range']; omega), List.getElem?_eq_none (by omega)]
      rfl
  have hPc : va_P D vwCl [x] H := hP.sub [wr.length] (by simp)
  have hDc : va_D A [x] := hD.sub [wr.length] rfl eC
  have hFc : ∀ q, va_A [x] H.size q → A q := va_free hD hS hC.2.2.2.2.2.2.2.1 [wr.length] eC
  have hpre : PreS s H (va_Pc (.ref b :: As) (IP D cy H.size [x])) (.ref b :: As) := ⟨IP_blind, fun U hU hW => ⟨rfl, by rw [hU], by rw [hU]; exact hPc, KX.warm hW hC.2.2.2.2.2.2.1, hDc.weaken (fun _ _ _ _ => trivial)⟩⟩
  have hrun : va_Run p l e R s m args below meth c H locs kn.1 kn.2 mc2 ms2 (F0 m pc ls ST) S (IQ D H.size [x] post none (Value.ref b :: As).toArray) (va_A [x] H.size) := by
    rcases hcw with h | ⟨host, h⟩
    · exact va_runI (As := As) (rest := S) ⟨hC.1, hC.2.1, hC.2.2.1, hC.2.2.2.2.1, hts⟩ (hM H.size) (cwI n hts (GL hcode) rfl rfl rfl (hts _ hini) (hts _ h) (hts _ hinst) hy1 hyd ⟨hR1, hR2⟩) hpre rfl hn hl.1 hST (lv_room (Nat.le_of_ble_eq_true hW)) hd ⟨hR3, hR4⟩
    · exact va_runIN (As := As) (rest := S) ⟨hC.1, hC.2.1, hC.2.2.1, hC.2.2.2.2.1, hts⟩ (hM H.size) ⟨va_cnB n hts (GL hcode) rfl rfl rfl (hC.2.2.2.2.2.2.1.2.2.2.2 _ h) (hts _ hini) hyd ⟨hR1, hR2⟩, hy1, hts _ hinst⟩ hpre rfl hn hl.1 hST (lv_room (Nat.le_of_ble_eq_true hW)) hd ⟨hR3, hR4⟩
  intro T hT X0
  obtain ⟨v, st₀, t, T', L2, h0, X', hL, e1, e2, ⟨q1, ⟨f, q2, q3⟩, q4⟩, st⟩ := hrun T hT X0
  cases q1
  obtain ⟨z, k1⟩ := q4
  rw [h0] at z k1
  have hS2 : va_S A s.heap T'.heap (locs ++ L2) := ⟨Nat.le_trans hS.1 (by rw [e1]; exact z), fun q h1 h2 => by rw [e1, k1 q (Nat.lt_of_lt_of_le h1 hS.1) (fun z => h2 (hFc q z))]; exact hS.2.1 q h1 h2, fun q hq => by
    rcases List.mem_append.mp hq with h | h
    · exact hS.2.2 q h
    · exact hFc _ (hL q h)⟩
  obtain ⟨j1, j2⟩ := va_join (H1 := T'.heap) (wr := wr) (w1 := post f) hP hD [wr.length] (List.range' 0 wr.length) eC eR (nd_range _ _) (fun i hi => by
    have := (List.mem_range'_1.mp hi).2
    simp only [List.mem_singleton]; omega) (fun q h1 h2 => by rw [e1]; exact k1 q h1 h2) hFc (by rw [e1]; exact q2) q3
  obtain ⟨t2, a1, b1⟩ := kk f T'.heap (locs ++ L2) ls j1 j2 hS2 hl T' rfl X'
  exact ⟨t2, st t2 a1, b1⟩
end IWR
