def cmv (loc : Rf → Nat) (o : Option Nat) : Value := match o with
  | none => .null
  | some k => .ref (loc (9, k, 0))
def oc {τ : Type} (o : Option Nat) (x : τ) (f : Nat → τ) : τ := match o with
  | none => x
  | some k => f k
def cmO (k : Nat) : Int32 := ([0, 1, 2, 3, 4, 5, 6, 7, 8] : List Int32).getD k 0
def cmN (k : Nat) : Int32 := ([1, 1, 0, 0, 1, 1, 0, 0, 0] : List Int32).getD k 0
def cmV (k : Nat) : Int32 := ([1, 0, 1, 1, 1, 0, 0, 0, 1] : List Int32).getD k 0
def txC (k : Nat) : Nat × List Int32 := TXT.getD (k + 3) (0, [])
theorem txC_in {k : Nat} (h : k < 9) : txC k ∈ TXT := (by decide +kernel : ∀ j, j < 9 → txC j ∈ TXT) k h
theorem txC_1 {k : Nat} (h : k < 9) : (txC k).1 = CMT.getD k 0 := (by decide +kernel : ∀ j, j < 9 → (txC j).1 = CMT.getD j 0) k h
def tx167 : Nat × List Int32 := (167, [112, 97, 114, 107])
theorem tx167_in : tx167 ∈ TXT := by decide +kernel
def tx187 : Nat × List Int32 := (187, [98, 97, 99, 107])
theorem tx187_in : tx187 ∈ TXT := by decide +kernel
def tx199 : Nat × List Int32 := (199, [99, 97, 114])
theorem tx199_in : tx199 ∈ TXT := by decide +kernel
theorem tab_out1 {x : Int32} (n : Nat) (hn : Nat.ble (n + 1) 1000 = true) (h : ¬ x = nI 0 → ∀ j, j < n + 1 → ¬ x = nI j) : x.toInt < 1 ∨ (n : Int) < x.toInt := by
  by_cases z : x = nI 0
  · left
    rw [z]
    decide
  · rcases tab_out (n + 1) hn (h z) with q | q
    · left; omega
    · right; omega
theorem inB_sp {i : Int32} {n : Nat} (h : inB i n = true) (hn : n < 2 ^ 31) : ¬ i < 0 ∧ i < Int32.ofNat n := by
  have h0 := inB_vp h
  have hlt := inB_lt h
  have h1 : ¬ i < 0 := fun q => h0 (Or.inl q)
  refine ⟨h1, ?_⟩
  rw [Int32.lt_iff_toInt_lt]
  have e : (Int32.ofNat n).toInt = (n : Int) := nI_toInt (by omega)
  have h2 : (0 : Int) ≤ i.toInt := by
    have := Int32.le_iff_toInt_le.mp (Int32.not_lt.mp h1)
    simpa using this
  have h3 : i.toNatClampNeg = i.toInt.toNat := rfl
  rw [e]
  omega
theorem txt_good : ∀ q ∈ TXT, ∀ b ∈ q.2, ((b &&& 255).toUInt32 % 65536).toInt32 = b ∧ narrow .char (.int b) = .int b := by decide +kernel
theorem txt_len : ∀ q ∈ TXT, q.2.length < 2 ^ 31 := by decide +kernel
section SPC
variable {p : Program} {l : Launch} {e : Env} {R : Room} {s : State} {m : MethodId} {args : Array Value} {below : List Frame} {meth : Method} {c : Code} {D : va_G} {loc : Rf → Nat} {cy : Nat → ClassId} {A : Nat → Prop} {cc : ByteArray} {nL : Nat} {ret : Option FieldType} {own : String} {fr lo cb sb : Nat} {Qof : RR → State → Prop} {α : Type} {RF : α → Option RR} {kn : Nat × Nat} {pc : Nat} {L : List (Nat × Value)} {S : List Value} {h : HD} {X X1 X2 Z : α}
theorem st_txt {U : State} {H : Heap} (h : St loc A U H) {k : Nat} (hk : k < 9) : va_OF "ParkingCircle$Command" "text" "Ljava/lang/String;" (.ref (loc (10, (txC k).1, 0))) (loc (9, k, 0)) A U H := by
  rw [txC_1 hk]
  exact h.2.2.2.2.2.2.2.1 k hk
theorem st_ec {U : State} {H : Heap} (h : St loc A U H) : va_Ec "ParkingCircle$Command" "ParkingCircle$Command" "LParkingCircle$Command;" CMN CMF (fun k => loc (9, k, 0)) A U H := h.2.2.2.2.2.2.1
theorem st_rep {U : State} {H : Heap} (h : St loc A U H) : va_Z "ParkingCircle$Command" "REPEAT" "LParkingCircle$Command;" (.ref (loc (9, 8, 0))) A U H := ((st_ec h).1 8 (by decide)).1
theorem st_inj {U : State} {H : Heap} (h : St loc A U H) {i j : Nat} (hi : i < 9) (hj : j < 9) (e : loc (9, i, 0) = loc (9, j, 0)) : i = j := (st_ec h).2 i j hi hj e
theorem st_O {U : State} {H : Heap} (h : St loc A U H) {k : Nat} (hk : k < 9) : va_O "ParkingCircle$Command" (loc (9, k, 0)) A U H := ((st_ec h).1 k hk).2.1
theorem st_cmO {U : State} {H : Heap} (h : St loc A U H) {k : Nat} (hk : k < 9) : va_OF "java/lang/Enum" "ordinal" "I" (.int (cmO k)) (loc (9, k, 0)) A U H := ((st_ec h).1 k hk).2.2 _ List.mem_cons_self
theorem st_cmN {U : State} {H : Heap} (h : St loc A U H) {k : Nat} (hk : k < 9) : va_OF "ParkingCircle$Command" "takesName" "Z" (.int (cmN k)) (loc (9, k, 0)) A U H := ((st_ec h).1 k hk).2.2 _ (List.mem_cons_of_mem _ List.mem_cons_self)
theorem st_cmV {U : State} {H : Heap} (h : St loc A U H) {k : Nat} (hk : k < 9) : va_OF "ParkingCircle$Command" "takesNumber" "Z" (.int (cmV k)) (loc (9, k, 0)) A U H := ((st_ec h).1 k hk).2.2 _ (List.mem_cons_of_mem _ (List.mem_cons_of_mem _ List.mem_cons_self))
theorem st_all {U : State} {H : Heap} (h : St loc A U H) : va_Z "ParkingCircle$Command" "ALL" "[LParkingCircle$Command;" (.ref (loc (9, 0, 1))) A U H ∧ va_T (.object "ParkingCircle$Command") (loc (9, 0, 1)) 9 (fun k => .ref (loc (9, k, 0))) A U H := ⟨h.2.2.2.2.2.2.2.2.1, h.2.2.2.2.2.2.2.2.2.1⟩
theorem st_swm {U : State} {H : Heap} (h : St loc A U H) : va_Z "ParkingCircle$1" "$SwitchMap$ParkingCircle$Command" "[I" (.ref (loc (9, 0, 2))) A U H ∧ va_T .int (loc (9, 0, 2)) 9 (fun k => .int (SWM.getD k 0)) A U H := ⟨h.2.2.2.2.2.2.2.2.2.2.1, h.2.2.2.2.2.2.2.2.2.2.2.1⟩
theorem st_cs {U : State} {H : Heap} (h : St loc A U H) : va_Z "java/lang/String" "COMPACT_STRINGS" "Z" (.int 1) A U H := h.2.2.2.2.2.2.2.2.2.2.2.2.1
theorem st_sf {U : State} {H : Heap} (h : St loc A U H) : va_Zq "jdk/internal/util/Preconditions" "SIOOBE_FORMATTER" "Ljava/util/function/BiFunction;" A U H := h.2.2.2.2.2.2.2.2.2.2.2.2.2
theorem st_str {U : State} {H : Heap} (h : St loc A U H) {q : Nat × List Int32} (hq : q ∈ TXT) : va_O "java/lang/String" (loc (10, q.1, 0)) A U H ∧ va_OF "java/lang/String" "coder" "B" (.int 0) (loc (10, q.1, 0)) A U H ∧ va_OF "java/lang/String" "value" "[B" (.ref (loc (10, q.1, 1))) (loc (10, q.1, 0)) A U H ∧ va_T .byte (loc (10, q.1, 1)) q.2.length (fun j => .int (q.2.getD j 0)) A U H := (h.2.2.2.2.2.1 q hq).1 0 (by decide)
theorem cx_st (hC : Cx p l e R s m args meth c D loc cy A cc nL ret own fr lo cb sb) : St loc A s s.heap := hC.2.2.2.2.2.2.2.2.2.2.1
theorem aw_ldcS {idx : Nat} {t : String} {q : Nat} (hC : Cx p l e R s m args meth c D loc cy A cc nL ret own fr lo cb sb) (hd : decode cc pc = .ok (.ldc idx, 2)) (hs : (own, idx, t, q) ∈ STR) (kk : AW p l e R s m args below meth c D loc cy A nL Qof RF (kn) (pc + 2) (L) (.ref (loc (10, q, 0)) :: S) (h) (X)) : AW p l e R s m args below meth c D loc cy A nL Qof RF (kn) (pc) (L) (S) (h) (X) :=
  fun rr hr H locs ls hM hS hl => va_ldcS hC.1 hC.2.1 hC.2.2.2.2.1 ((cx_st hC).2.2.2.2.1 _ hs) hd (kk rr hr H locs ls hM hS hl)
theorem aw_gsO {C n d : String} {v : Value} {idx : Nat} (hC : Cx p l e R s m args meth c D loc cy A cc nL ret own fr lo cb sb) (hd : decode cc pc = .ok (.getstatic idx, 3)) (hlk : Cond.fieldLink own idx C n d ∈ LW) (hZ : va_Z C n d v A s s.heap) (kk : AW p l e R s m args below meth c D loc cy A nL Qof RF (kn) (pc + 3) (L) (v :: S) (h) (X)) : AW p l e R s m args below meth c D loc cy A nL Qof RF (kn) (pc) (L) (S) (h) (X) :=
  fun rr hr H locs ls hM hS hl => va_gets hC.1 hC.2.1 hZ hS hC.2.2.2.2.1 (lw_use hC hlk) (fun _ h => h) hd (kk rr hr H locs ls hM hS hl)
theorem aw_gsQ {C n d : String} {idx : Nat} (hC : Cx p l e R s m args meth c D loc cy A cc nL ret own fr lo cb sb) (hd : decode cc pc = .ok (.getstatic idx, 3)) (hlk : Cond.fieldLink own idx C n d ∈ LW) (hZ : va_Zq C n d A s s.heap) (kk : ∀ v : Value, (v = .null ∨ ∃ t, v = .ref t) → AW p l e R s m args below meth c D loc cy A nL Qof RF (kn) (pc + 3) (L) (v :: S) (h) (X)) : AW p l e R s m args below meth c D loc cy A nL Qof RF (kn) (pc) (L) (S) (h) (X) := by
  rcases hZ with hZ | ⟨t, hZ⟩
  · exact aw_gsO hC hd hlk hZ (kk _ (Or.inl rfl))
  · exact aw_gsO hC hd hlk hZ (kk _ (Or.inr ⟨t, rfl⟩))
theorem aw_gfO {C n d : String} {v : Value} {idx q : Nat} (hC : Cx p l e R s m args meth c D loc cy A cc nL ret own fr lo cb sb) (hd : decode cc pc = .ok (.getfield idx, 3)) (hlk : Cond.fieldLink own idx C n d ∈ LW) (hE : va_OF C n d v q A s s.heap) (kk : AW p l e R s m args below meth c D loc cy A nL Qof RF (kn) (pc + 3) (L) (v :: S) (h) (X)) : AW p l e R s m args below meth c D loc cy A nL Qof RF (kn) (pc) (L) (.ref q :: S) (h) (X) :=
  fun rr hr H locs ls hM hS hl => vk_getf hC.1 hC.2.1 hE hS hC.2.2.2.2.1 (lw_use hC hlk) (fun _ h => h) hd (kk rr hr H locs ls hM hS hl)
theorem aw_gfN {C n d host : String} {v : Value} {idx q : Nat} (hC : Cx p l e R s m args meth c D loc cy A cc nL ret own fr lo cb sb) (hd : decode cc pc = .ok (.getfield idx, 3)) (hE : va_OF C n d v q A s s.heap) (hlk : Cond.fieldLinkNest own idx C n d host ∈ NL) (kk : AW p l e R s m args below meth c D loc cy A nL Qof RF (kn) (pc + 3) (L) (v :: S) (h) (X)) : AW p l e R s m args below meth c D loc cy A nL Qof RF (kn) (pc) (L) (.ref q :: S) (h) (X) := by
  intro rr hr H locs ls hM hS hl
  obtain ⟨cf, k, fi, f, cell, h1, h2, h3, h4, h5, h6⟩ := hE.kept hS.2.1
  exact va_Wgetf hC.1 hC.2.1 hC.2.2.2.2.1 (va_Nw.use (A := args) rfl ((cx_st hC).1 _ hlk)) h1 h2 h3 h4 (v := v) h5 rfl rfl hd (kk rr hr H locs ls hM hS hl)
theorem aw_tlen {ty : FieldType} {t N : Nat} {f : Nat → Value} {v : Int32} (hC : Cx p l e R s m args meth c D loc cy A cc nL ret own fr lo cb sb) (hd : decode cc pc = .ok (.arraylength, 1)) (hT : va_T ty t N f A s s.heap) (hv : Int32.ofNat N = v) (kk : AW p l e R s m args below meth c D loc cy A nL Qof RF (kn) (pc + 1) (L) (.int v :: S) (h) (X)) : AW p l e R s m args below meth c D loc cy A nL Qof RF (kn) (pc) (L) (.ref t :: S) (h) (X) :=
  fun rr hr H locs ls hM hS hl => va_tlen hC.1 hC.2.1 hT hS hv hd (kk rr hr H locs ls hM hS hl)
theorem aw_tb {t N : Nat} {f : Nat → Value} {i : Int32} {v : Value} (hC : Cx p l e R s m args meth c D loc cy A cc nL ret own fr lo cb sb) (hd : decode cc pc = .ok (.baload, 1)) (hT : va_T .byte t N f A s s.heap) (hin : inB i N = true) (hv : f i.toNatClampNeg = v) (kk : AW p l e R s m args below meth c D loc cy A nL Qof RF (kn) (pc + 1) (L) (v :: S) (h) (X)) : AW p l e R s m args below meth c D loc cy A nL Qof RF (kn) (pc) (L) (.int i :: .ref t :: S) (h) (X) :=
  fun rr hr H locs ls hM hS hl => va_tb hC.1 hC.2.1 hT hS (inB_vp hin) hv hd (kk rr hr H locs ls hM hS hl)
theorem aw_ti {t N : Nat} {f : Nat → Value} {i : Int32} {v : Value} (hC : Cx p l e R s m args meth c D loc cy A cc nL ret own fr lo cb sb) (hd : decode cc pc = .ok (.iaload, 1)) (hT : va_T .int t N f A s s.heap) (hin : inB i N = true) (hv : f i.toNatClampNeg = v) (kk : AW p l e R s m args below meth c D loc cy A nL Qof RF (kn) (pc + 1) (L) (v :: S) (h) (X)) : AW p l e R s m args below meth c D loc cy A nL Qof RF (kn) (pc) (L) (.int i :: .ref t :: S) (h) (X) :=
  fun rr hr H locs ls hM hS hl => va_ti hC.1 hC.2.1 hT hS (inB_vp hin) hv hd (kk rr hr H locs ls hM hS hl)
theorem aw_allld {i : Int32} (hC : Cx p l e R s m args meth c D loc cy A cc nL ret own fr lo cb sb) (hd : decode cc pc = .ok (.aaload, 1)) (hin : inB i 9 = true) (kk : AW p l e R s m args below meth c D loc cy A nL Qof RF (kn) (pc + 1) (L) (.ref (loc (9, i.toNatClampNeg, 0)) :: S) (h) (X)) : AW p l e R s m args below meth c D loc cy A nL Qof RF (kn) (pc) (L) (.int i :: .ref (loc (9, 0, 1)) :: S) (h) (X) :=
  fun rr hr H locs ls hM hS hl => vb_tq hC.1 hC.2.1 (st_all (cx_st hC)).2 hS (inB_vp hin) rfl hd (kk rr hr H locs ls hM hS hl)
theorem aw_alllen (hC : Cx p l e R s m args meth c D loc cy A cc nL ret own fr lo cb sb) (hd : decode cc pc = .ok (.arraylength, 1)) (kk : AW p l e R s m args below meth c D loc cy A nL Qof RF (kn) (pc + 1) (L) (.int (9 : Int32) :: S) (h) (X)) : AW p l e R s m args below meth c D loc cy A nL Qof RF (kn) (pc) (L) (.ref (loc (9, 0, 1)) :: S) (h) (X) := aw_tlen hC hd (st_all (cx_st hC)).2 (by decide) kk
theorem aw_swm {i : Int32} (hC : Cx p l e R s m args meth c D loc cy A cc nL ret own fr lo cb sb) (hd : decode cc pc = .ok (.iaload, 1)) (hin : inB i 9 = true) (kk : AW p l e R s m args below meth c D loc cy A nL Qof RF (kn) (pc + 1) (L) (.int (SWM.getD i.toNatClampNeg 0) :: S) (h) (X)) : AW p l e R s m args below meth c D loc cy A nL Qof RF (kn) (pc) (L) (.int i :: .ref (loc (9, 0, 2)) :: S) (h) (X) := aw_ti hC hd (st_swm (cx_st hC)).2 hin rfl kk
theorem aw_oc {o : Option Nat} {x : α} {f : Nat → α} (k0 : AW p l e R s m args below meth c D loc cy A nL Qof RF (kn) (pc) (L) (.null :: S) (h) (x)) (k1 : ∀ k, AW p l e R s m args below meth c D loc cy A nL Qof RF (kn) (pc) (L) (.ref (loc (9, k, 0)) :: S) (h) (f k)) : AW p l e R s m args below meth c D loc cy A nL Qof RF (kn) (pc) (L) (cmv loc o :: S) (h) (oc o x f) := by
  cases o with
  | none => exact k0
  | some k => exact k1 k
theorem aw_oald {i : Int32} (hC : Cx p l e R s m args meth c D loc cy A cc nL ret own fr lo cb sb) (hd : decode cc pc = .ok (.aaload, 1)) (hin : inB i 30 = true) (kk : AW p l e R s m args below meth c D loc cy A nL Qof RF (kn) (pc + 1) (L) (cmv loc (gO h i.toNatClampNeg) :: S) (h) (X)) : AW p l e R s m args below meth c D loc cy A nL Qof RF (kn) (pc) (L) (.int i :: .ref (loc (3, 0, 1)) :: S) (h) (X) := by
  intro rr hr H locs ls hM hS hl
  obtain ⟨q, -, hq⟩ := wsl_at (loc := loc) (cy := cy) h (r := (3, 0, 1)) (by decide +kernel)
  have e : cmv loc (gO h i.toNatClampNeg) = va_rf ((h.2.2.2 i.toNatClampNeg).map (fun k => loc (9, k, 0))) := by
    unfold cmv gO
    cases h.2.2.2 i.toNatClampNeg <;> rfl
  rw [e] at kk
  exact va_aldq hC.1 hC.2.1 hC.2.2.2.2.2.2.1 hM.1 q 6 hq rfl (inB_vp hin) hd (kk rr hr H locs ls hM hS hl)
theorem aw_oast {i : Int32} {k : Nat} {F : HD → α} (hC : Cx p l e R s m args meth c D loc cy A cc nL ret own fr lo cb sb) (hd : decode cc pc = .ok (.aastore, 1)) (hk : k < 9) (hin : inB i 30 = true) (kk : ∀ h2, AW p l e R s m args below meth c D loc cy A nL Qof RF (kn) (pc + 1) (L) (S) (h2) (F h2)) : AW p l e R s m args below meth c D loc cy A nL Qof RF (kn) (pc) (L) (.ref (loc (9, k, 0)) :: .int i :: .ref (loc (3, 0, 1)) :: S) (h) (lt (sO h i.toNatClampNeg (some k)) F) := by
  intro rr hr H locs ls hM hS hl
  obtain ⟨q, hq0, hq⟩ := wsl_at (loc := loc) (cy := cy) h (r := (3, 0, 1)) (by decide +kernel)
  obtain ⟨cell, c1, c2, c3, -⟩ := (st_O (cx_st hC) hk).kept hS.2.1
  refine vb_astq hC.1 hC.2.1 hC.2.2.2.2.2.2.1 hM.1 (wsl_D hC.2.2.2.2.2.2.2.1 hC.2.2.2.2.2.2.2.2.1 h) hS q 6 hq rfl ⟨cell, c1, c2, c3⟩ vb_asgS (inB_vp hin) hd (fun H1 locs1 hP1 _ hS1 => ?_)
  refine kk (sO h i.toNatClampNeg (some k)) rr hr H1 locs1 ls (sim_put hq0 ?_ (fun r2 hr2 hn => ent_sO_ne hr2 hn) hM.2.1 (fun j k2 hj => ?_) hP1) hS1 hl
  · refine congrArg (fun f => Sum.inl (cy 6, 30, Sum.inr (Sum.inr (Sum.inr (Sum.inr f))))) (funext fun j => ?_)
    unfold sO
    by_cases e : j = i.toNatClampNeg <;> simp [e, va_up]
  · unfold gO sO
    by_cases e : j = i.toNatClampNeg
    · simp only [e, if_true]
      intro z
      cases z
      exact hk
    · simp only [e, if_false]
      exact hM.2.2 j k2 hj
theorem aw_acmpne {i j : Nat} {off : Int} {tgt : Nat} (hC : Cx p l e R s m args meth c D loc cy A cc nL ret own fr lo cb sb) (hd : decode cc pc = .ok (.if_acmp .ne off, 3)) (ht : (pc : Int) + off = (tgt : Int)) (hi : i < 9) (hj : j < 9) (kt : AW p l e R s m args below meth c D loc cy A nL Qof RF (kn) (tgt) (L) (S) (h) (X1)) (kf : AW p l e R s m args below meth c D loc cy A nL Qof RF (kn) (pc + 3) (L) (S) (h) (X2)) : AW p l e R s m args below meth c D loc cy A nL Qof RF (kn) (pc) (L) (.ref (loc (9, j, 0)) :: .ref (loc (9, i, 0)) :: S) (h) (if i = j then X2 else X1) := by
  intro rr hr H locs ls hM hS hl
  refine lv_acmp_ne hC.1 hC.2.1 (rx := some (loc (9, i, 0))) (ry := some (loc (9, j, 0))) hd ht (fun q => ?_) (fun q => ?_)
  · rw [if_neg (fun e => q (by rw [e]))] at hr
    exact kt rr hr H locs ls hM hS hl
  · have e : i = j := st_inj (cx_st hC) hi hj (Option.some.inj q)
    rw [if_pos e] at hr
    exact kf rr hr H locs ls hM hS hl
theorem aw_acmpeq {i j : Nat} {off : Int} {tgt : Nat} (hC : Cx p l e R s m args meth c D loc cy A cc nL ret own fr lo cb sb) (hd : decode cc pc = .ok (.if_acmp .eq off, 3)) (ht : (pc : Int) + off = (tgt : Int)) (hi : i < 9) (hj : j < 9) (kt : AW p l e R s m args below meth c D loc cy A nL Qof RF (kn) (tgt) (L) (S) (h) (X1)) (kf : AW p l e R s m args below meth c D loc cy A nL Qof RF (kn) (pc + 3) (L) (S) (h) (X2)) : AW p l e R s m args below meth c D loc cy A nL Qof RF (kn) (pc) (L) (.ref (loc (9, j, 0)) :: .ref (loc (9, i, 0)) :: S) (h) (if i = j then X1 else X2) := by
  intro rr hr H locs ls hM hS hl
  refine lv_acmp_eq hC.1 hC.2.1 (rx := some (loc (9, i, 0))) (ry := some (loc (9, j, 0))) hd ht (fun q => ?_) (fun q => ?_)
  · have e : i = j := st_inj (cx_st hC) hi hj (Option.some.inj q)
    rw [if_pos e] at hr
    exact kt rr hr H locs ls hM hS hl
  · rw [if_neg (fun e => q (by rw [e]))] at hr
    exact kf rr hr H locs ls hM hS hl
theorem aw_acmpneN {j : Nat} {off : Int} {tgt : Nat} (hC : Cx p l e R s m args meth c D loc cy A cc nL ret own fr lo cb sb) (hd : decode cc pc = .ok (.if_acmp .ne off, 3)) (ht : (pc : Int) + off = (tgt : Int)) (kt : AW p l e R s m args below meth c D loc cy A nL Qof RF (kn) (tgt) (L) (S) (h) (X)) : AW p l e R s m args below meth c D loc cy A nL Qof RF (kn) (pc) (L) (.ref (loc (9, j, 0)) :: .null :: S) (h) (X) := by
  intro rr hr H locs ls hM hS hl
  exact lv_acmp_ne hC.1 hC.2.1 (rx := none) (ry := some (loc (9, j, 0))) hd ht (fun _ => kt rr hr H locs ls hM hS hl) (fun q => by first | exact absurd q (by simp) | exact absurd (fun z => by cases z) q)
theorem aw_ifnull {x : Nat} {off : Int} (hC : Cx p l e R s m args meth c D loc cy A cc nL ret own fr lo cb sb) (hd : decode cc pc = .ok (.ifnull off, 3)) (kk : AW p l e R s m args below meth c D loc cy A nL Qof RF (kn) (pc + 3) (L) (S) (h) (X)) : AW p l e R s m args below meth c D loc cy A nL Qof RF (kn) (pc) (L) (.ref x :: S) (h) (X) := fun rr hr H locs ls hM hS hl => lv_ifnull hC.1 hC.2.1 hd (kk rr hr H locs ls hM hS hl)
theorem aw_ifnonnull {x : Nat} {off : Int} {tgt : Nat} (hC : Cx p l e R s m args meth c D loc cy A cc nL ret own fr lo cb sb) (hd : decode cc pc = .ok (.ifnonnull off, 3)) (ht : (pc : Int) + off = (tgt : Int)) (kk : AW p l e R s m args below meth c D loc cy A nL Qof RF (kn) (tgt) (L) (S) (h) (X)) : AW p l e R s m args below meth c D loc cy A nL Qof RF (kn) (pc) (L) (.ref x :: S) (h) (X) := fun rr hr H locs ls hM hS hl => lv_ifnonnull hC.1 hC.2.1 hd ht (kk rr hr H locs ls hM hS hl)
theorem aw_ifnullN {off : Int} {tgt : Nat} (hC : Cx p l e R s m args meth c D loc cy A cc nL ret own fr lo cb sb) (hd : decode cc pc = .ok (.ifnull off, 3)) (ht : (pc : Int) + off = (tgt : Int)) (kk : AW p l e R s m args below meth c D loc cy A nL Qof RF (kn) (tgt) (L) (S) (h) (X)) : AW p l e R s m args below meth c D loc cy A nL Qof RF (kn) (pc) (L) (.null :: S) (h) (X) := fun rr hr H locs ls hM hS hl => lv_ifnullN hC.1 hC.2.1 hd ht (kk rr hr H locs ls hM hS hl)
theorem aw_ifnonnullN {off : Int} (hC : Cx p l e R s m args meth c D loc cy A cc nL ret own fr lo cb sb) (hd : decode cc pc = .ok (.ifnonnull off, 3)) (kk : AW p l e R s m args below meth c D loc cy A nL Qof RF (kn) (pc + 3) (L) (S) (h) (X)) : AW p l e R s m args below meth c D loc cy A nL Qof RF (kn) (pc) (L) (.null :: S) (h) (X) := fun rr hr H locs ls hM hS hl => lv_ifnonnullN hC.1 hC.2.1 hd (kk rr hr H locs ls hM hS hl)
theorem aw_aload_nN {k : Fin 4} (hC : Cx p l e R s m args meth c D loc cy A cc nL ret own fr lo cb sb) (hd : decode cc pc = .ok (.aload_n k, 1)) (hg : gtL L k.val = some .null) (kk : AW p l e R s m args below meth c D loc cy A nL Qof RF (kn) (pc + 1) (L) (.null :: S) (h) (X)) : AW p l e R s m args below meth c D loc cy A nL Qof RF (kn) (pc) (L) (S) (h) (X) := fun rr hr H locs ls hM hS hl => lv_aload_nN hC.1 hC.2.1 hd rfl (lv_get hl hg) (kk rr hr H locs ls hM hS hl)
theorem aw_aloadN {i : Nat} (hC : Cx p l e R s m args meth c D loc cy A cc nL ret own fr lo cb sb) (hd : decode cc pc = .ok (.aload i, 2)) (hg : gtL L i = some .null) (kk : AW p l e R s m args below meth c D loc cy A nL Qof RF (kn) (pc + 2) (L) (.null :: S) (h) (X)) : AW p l e R s m args below meth c D loc cy A nL Qof RF (kn) (pc) (L) (S) (h) (X) := fun rr hr H locs ls hM hS hl => lv_aloadN hC.1 hC.2.1 hd (lv_get hl hg) (kk rr hr H locs ls hM hS hl)
theorem aw_astore_nN {k : Fin 4} (hC : Cx p l e R s m args meth c D loc cy A cc nL ret own fr lo cb sb) (hd : decode cc pc = .ok (.astore_n k, 1)) (hn : k.val < nL) (kk : AW p l e R s m args below meth c D loc cy A nL Qof RF (kn) (pc + 1) ((st1 L k.val .null)) (S) (h) (X)) : AW p l e R s m args below meth c D loc cy A nL Qof RF (kn) (pc) (L) (.null :: S) (h) (X) := fun rr hr H locs ls hM hS hl => lv_astore_nN hC.1 hC.2.1 hd rfl hl hn rfl (fun ls2 hl2 => kk rr hr H locs ls2 hM hS (lv_st1 hl2))
theorem aw_astoreN {i : Nat} (hC : Cx p l e R s m args meth c D loc cy A cc nL ret own fr lo cb sb) (hd : decode cc pc = .ok (.astore i, 2)) (hn : i < nL) (kk : AW p l e R s m args below meth c D loc cy A nL Qof RF (kn) (pc + 2) ((st1 L i .null)) (S) (h) (X)) : AW p l e R s m args below meth c D loc cy A nL Qof RF (kn) (pc) (L) (.null :: S) (h) (X) := fun rr hr H locs ls hM hS hl => lv_astoreN hC.1 hC.2.1 hd hl hn rfl (fun ls2 hl2 => kk rr hr H locs ls2 hM hS (lv_st1 hl2))
theorem aw_i2c {x v : Int32} (hC : Cx p l e R s m args meth c D loc cy A cc nL ret own fr lo cb sb) (hd : decode cc pc = .ok (.i2c, 1)) (hv : (x.toUInt32 % 65536).toInt32 = v) (kk : AW p l e R s m args below meth c D loc cy A nL Qof RF (kn) (pc + 1) (L) (.int v :: S) (h) (X)) : AW p l e R s m args below meth c D loc cy A nL Qof RF (kn) (pc) (L) (.int x :: S) (h) (X) := fun rr hr H locs ls hM hS hl => lv_i2c hC.1 hC.2.1 hd hv (kk rr hr H locs ls hM hS hl)
theorem aw_nret {v : Int32} {ty : FieldType} (hC : Cx p l e R s m args meth c D loc cy A cc nL ret own fr lo cb sb) (hd : decode cc pc = .ok (.ireturn, 1)) (hr0 : ret = some ty) (hn : narrow ty (.int v) = .int v) (hX : RF X = some (.inr (some (.int v)), h)) : AW p l e R s m args below meth c D loc cy A nL (QM below D loc cy A args s) RF ((0, 0)) (pc) (L) ([.int v]) (h) (X) := by
  intro rr hr H locs ls hM hS hl
  rw [hX] at hr
  cases hr
  exact W.zret hC.1 hC.2.1 (hC.2.2.2.1.trans hr0) hn (fun t ht _ => ⟨_, rfl, rfl, by rw [ht]; exact hM, hS.F ht⟩) hS.2.2 hd hC.2.2.2.2.2.2.2.2.2.2.2.1
theorem aw_callB {idx n mL fr2 lo2 : Nat} {y : MethodName} {bytes : ByteArray} {rt : Option FieldType} {rr : RR} {rv : Option Value} {As ST : List Value} {b : Nat} (hC : Cx p l e R s m args meth c D loc cy A cc nL ret own fr lo cb sb) (hd : decode cc pc = .ok (.invokevirtual idx, 3)) (hv : CV own idx y bytes mL rt n) (hb : va_O y.cls b A s s.heap) (hA : AM l D loc cy y bytes mL rt fr2 lo2 (.ref b :: As) h (some rr)) (hn : As.length = n) (hST : ST = As.reverse ++ .ref b :: S) (hW : Nat.ble ((S.map fun v => v.category).sum) 8 = true) (hf : Nat.ble (fr2 + 1) fr = true) (hlo : Nat.ble (8 + (mL + 11) + lo2) lo = true) (hk : Nat.ble kn.1 cb = true ∧ Nat.ble kn.2 sb = true) (hrv : rr.1 = .inr rv) (kk : AW p l e R s m args below meth c D loc cy A nL Qof RF (kn) (pc + 3) (L) (rv.toList ++ S) (rr.2) (X)) : AW p l e R s m args below meth c D loc cy A nL Qof RF (kn) (pc) (L) (ST) (h) (X) := by
  refine aw_run hC hrv (fun H locs ls hM hS hl => va_runV (As := As) (b := b) (rest := S) ⟨hC.1, hC.2.1, hC.2.2.1, hC.2.2.2.2.1, hC.2.2.2.2.2.1⟩ (hA rr rfl H.size) (cv_of hC hv 0 0 hf hlo) ⟨Wd_blind, ?_, fun U hU hW => ⟨rfl, wd_call hC hM hS U hU hW⟩⟩ rfl hn hl.1 hST (lv_room (Nat.le_of_ble_eq_true hW)) hd ⟨Nat.le_trans (Nat.le_of_ble_eq_true hk.1) hC.2.2.2.2.2.2.2.2.2.2.2.2.2.2.2.1, Nat.le_trans (Nat.le_of_ble_eq_true hk.2) hC.2.2.2.2.2.2.2.2.2.2.2.2.2.2.2.2⟩) kk
  obtain ⟨cell, c1, c2, c3, -⟩ := hb.kept hS.2.1
  exact ⟨cell, c1, c2, c3⟩
theorem aw_callU {idx n mL fr2 lo2 : Nat} {y : MethodName} {bytes : ByteArray} {rt : Option FieldType} {rr : RR} {rv : Option Value} {As ST : List Value} {b : Nat} {x : MethodName} {C owner : String} (hC : Cx p l e R s m args meth c D loc cy A cc nL ret own fr lo cb sb) (hd : decode cc pc = .ok (.invokevirtual idx, 3)) (hyx : y = ⟨owner, x.name, x.desc⟩) (hw : ∀ z, z ∈ va_wsU own idx C owner x y (Cond.code y bytes mL rt :: LW) → z ∈ LW) (ho : owner ≠ "java/lang/invoke/MethodHandle" ∧ owner ≠ "java/lang/invoke/VarHandle" ∧ (parseMethodDescriptor x.desc).map (fun d => d.parameters.length) = some n) (hb : va_O C b A s s.heap) (hA : AM l D loc cy y bytes mL rt fr2 lo2 (.ref b :: As) h (some rr)) (hn : As.length = n) (hST : ST = As.reverse ++ .ref b :: S) (hW : Nat.ble ((S.map fun v => v.category).sum) 8 = true) (hf : Nat.ble (fr2 + 1) fr = true) (hlo : Nat.ble (8 + (mL + 11) + lo2) lo = true) (hk : Nat.ble kn.1 cb = true ∧ Nat.ble kn.2 sb = true) (hrv : rr.1 = .inr rv) (kk : AW p l e R s m args below meth c D loc cy A nL Qof RF (kn) (pc + 3) (L) (rv.toList ++ S) (rr.2) (X)) : AW p l e R s m args below meth c D loc cy A nL Qof RF (kn) (pc) (L) (ST) (h) (X) := by
  have hR := hC.2.2.2.2.2.2.2.2.2.2.2.2.2
  refine aw_run hC hrv (fun H locs ls hM hS hl => va_runU (As := As) (b := b) (rest := S) ⟨hC.1, hC.2.1, hC.2.2.1, hC.2.2.2.2.1, hC.2.2.2.2.2.1⟩ (hA rr rfl H.size) (va_cwU (owner := owner) (C := C) (x := x) n hC.2.2.2.2.2.1 (goodIn_sub hw (List.all_eq_true.mpr fun z hz => LW_good z (hw z hz))) rfl rfl rfl hyx ho ⟨Nat.le_trans (Nat.le_of_ble_eq_true hf) hR.1, Nat.le_trans (Nat.le_of_ble_eq_true hlo) hR.2.1⟩) ⟨Wd_blind, ?_, fun U hU hW => ⟨rfl, wd_call hC hM hS U hU hW⟩⟩ rfl hn hl.1 hST (lv_room (Nat.le_of_ble_eq_true hW)) hd ⟨Nat.le_trans (Nat.le_of_ble_eq_true hk.1) hR.2.2.1, Nat.le_trans (Nat.le_of_ble_eq_true hk.2) hR.2.2.2⟩) kk
  obtain ⟨cell, c1, c2, c3, -⟩ := hb.kept hS.2.1
  exact ⟨cell, c1, c2, c3⟩
theorem aw_cVo {idx n mL fr2 lo2 : Nat} {y : MethodName} {bytes : ByteArray} {rt : Option FieldType} {As ST : List Value} {h2 : HD} {v : Option Nat} {ci i : Nat} {T : u_T} {N : Nat} (hC : Cx p l e R s m args meth c D loc cy A cc nL ret own fr lo cb sb) (hd : decode cc pc = .ok (.invokevirtual idx, 3)) (hv : CV own idx y bytes mL rt n) (hcl : vwCl[ci]? = some (y.cls, T, N)) (hr0 : (ci, i, 0) ∈ refs) (hA : AM l D loc cy y bytes mL rt fr2 lo2 (.ref (loc (ci, i, 0)) :: As) h (some (.inr (some (cmv loc v)), h2))) (hn : As.length = n) (hST : ST = As.reverse ++ .ref (loc (ci, i, 0)) :: S) (hW : Nat.ble ((S.map fun v => v.category).sum) 8 = true) (hf : Nat.ble (fr2 + 1) fr = true) (hlo : Nat.ble (8 + (mL + 11) + lo2) lo = true) (hk : Nat.ble kn.1 cb = true ∧ Nat.ble kn.2 sb = true) (kk : AW p l e R s m args below meth c D loc cy A nL Qof RF (kn) (pc + 3) (L) (cmv loc v :: S) (h2) (X)) : AW p l e R s m args below meth c D loc cy A nL Qof RF (kn) (pc) (L) (ST) (h) (X) := aw_callV hC hd hv hcl hr0 hA hn hST hW hf hlo hk rfl kk
theorem aw_cSo {idx n mL fr2 lo2 : Nat} {y : MethodName} {bytes : ByteArray} {rt : Option FieldType} {As ST : List Value} {h2 : HD} {v : Option Nat} (hC : Cx p l e R s m args meth c D loc cy A cc nL ret own fr lo cb sb) (hd : decode cc pc = .ok (.invokestatic idx, 3)) (hv : CS own idx y bytes mL rt n) (hA : AM l D loc cy y bytes mL rt fr2 lo2 As h (some (.inr (some (cmv loc v)), h2))) (hn : As.length = n) (hST : ST = As.reverse ++ S) (hW : Nat.ble ((S.map fun v => v.category).sum) 8 = true) (hf : Nat.ble (fr2 + 1) fr = true) (hlo : Nat.ble (8 + (mL + 11) + lo2) lo = true) (hk : Nat.ble kn.1 cb = true ∧ Nat.ble kn.2 sb = true) (kk : AW p l e R s m args below meth c D loc cy A nL Qof RF (kn) (pc + 3) (L) (cmv loc v :: S) (h2) (X)) : AW p l e R s m args below meth c D loc cy A nL Qof RF (kn) (pc) (L) (ST) (h) (X) := aw_callS hC hd hv hA hn hST hW hf hlo hk rfl kk
end SPC
theorem cv_RJ0_335 : CV RJ0 335 yJ0_coder_7d493 cJ0_coder_7d493 1 (some .byte) 0 := ⟨tw4_125, tw4_126, tw4_127, tw1_14, tw4_128, by decide, by decide, by decide +kernel⟩
theorem cv_RJ0_492 : CV RJ0 492 yJ0_isLatin1_aae02 cJ0_isLatin1_aae02 1 (some .boolean) 0 := ⟨tw4_135, tw4_136, tw4_137, tw1_14, tw4_138, by decide, by decide, by decide +kernel⟩
theorem cv_RJ0_495 : CS RJ0 495 yJ1_charAt_3b067 cJ1_charAt_3b067 2 (some .char) 2 := ⟨tw4_139, tw4_140, tw1_15, tw4_141, by decide, by decide, by decide +kernel⟩
theorem cv_RJ1_9 : CS RJ1 9 yJ0_checkIndex_df160 cJ0_checkIndex_df160 2 (none) 2 := ⟨tw4_142, tw4_143, tw1_14, tw4_144, by decide, by decide, by decide +kernel⟩
theorem cv_RJ0_1059 : CS RJ0 1059 yJ3_checkIndex_8e157 cJ3_checkIndex_8e157 3 (some .int) 3 := ⟨tw4_147, tw4_148, tw1_16, tw4_149, by decide, by decide, by decide +kernel⟩
theorem dJ0_length_8abf5_0 : decode cJ0_length_8abf5 0 = .ok (.aload_n 0, 1) := by decide +kernel
theorem dJ0_length_8abf5_1 : decode cJ0_length_8abf5 1 = .ok (.getfield 9, 3) := by decide +kernel
theorem dJ0_length_8abf5_4 : decode cJ0_length_8abf5 4 = .ok (.arraylength, 1) := by decide +kernel
theorem dJ0_length_8abf5_5 : decode cJ0_length_8abf5 5 = .ok (.aload_n 0, 1) := by decide +kernel
theorem dJ0_length_8abf5_6 : decode cJ0_length_8abf5 6 = .ok (.invokevirtual 335, 3) := by decide +kernel
theorem dJ0_length_8abf5_9 : decode cJ0_length_8abf5 9 = .ok (.ishr, 1) := by decide +kernel
theorem dJ0_length_8abf5_10 : decode cJ0_length_8abf5 10 = .ok (.ireturn, 1) := by decide +kernel
theorem dJ0_charAt_5068e_0 : decode cJ0_charAt_5068e 0 = .ok (.aload_n 0, 1) := by decide +kernel
theorem dJ0_charAt_5068e_1 : decode cJ0_charAt_5068e 1 = .ok (.invokevirtual 492, 3) := by decide +kernel
theorem dJ0_charAt_5068e_4 : decode cJ0_charAt_5068e 4 = .ok (.ifCond .eq 12, 3) := by decide +kernel
theorem dJ0_charAt_5068e_7 : decode cJ0_charAt_5068e 7 = .ok (.aload_n 0, 1) := by decide +kernel
theorem dJ0_charAt_5068e_8 : decode cJ0_charAt_5068e 8 = .ok (.getfield 9, 3) := by decide +kernel
theorem dJ0_charAt_5068e_11 : decode cJ0_charAt_5068e 11 = .ok (.iload_n 1, 1) := by decide +kernel
theorem dJ0_charAt_5068e_12 : decode cJ0_charAt_5068e 12 = .ok (.invokestatic 495, 3) := by decide +kernel
theorem dJ0_charAt_5068e_15 : decode cJ0_charAt_5068e 15 = .ok (.ireturn, 1) := by decide +kernel
theorem dJ0_charAt_5068e_16 : decode cJ0_charAt_5068e 16 = .ok (.aload_n 0, 1) := by decide +kernel
theorem dJ0_charAt_5068e_17 : decode cJ0_charAt_5068e 17 = .ok (.getfield 9, 3) := by decide +kernel
theorem dJ0_charAt_5068e_20 : decode cJ0_charAt_5068e 20 = .ok (.iload_n 1, 1) := by decide +kernel
theorem dJ0_charAt_5068e_21 : decode cJ0_charAt_5068e 21 = .ok (.invokestatic 498, 3) := by decide +kernel
theorem dJ0_charAt_5068e_24 : decode cJ0_charAt_5068e 24 = .ok (.ireturn, 1) := by decide +kernel
theorem dJ0_coder_7d493_0 : decode cJ0_coder_7d493 0 = .ok (.getstatic 38, 3) := by decide +kernel
theorem dJ0_coder_7d493_3 : decode cJ0_coder_7d493 3 = .ok (.ifCond .eq 10, 3) := by decide +kernel
theorem dJ0_coder_7d493_6 : decode cJ0_coder_7d493 6 = .ok (.aload_n 0, 1) := by decide +kernel
theorem dJ0_coder_7d493_7 : decode cJ0_coder_7d493 7 = .ok (.getfield 15, 3) := by decide +kernel
theorem dJ0_coder_7d493_10 : decode cJ0_coder_7d493 10 = .ok (.goto 4, 3) := by decide +kernel
theorem dJ0_coder_7d493_13 : decode cJ0_coder_7d493 13 = .ok (.iconst 1, 1) := by decide +kernel
theorem dJ0_coder_7d493_14 : decode cJ0_coder_7d493 14 = .ok (.ireturn, 1) := by decide +kernel
theorem dJ0_isLatin1_aae02_0 : decode cJ0_isLatin1_aae02 0 = .ok (.getstatic 38, 3) := by decide +kernel
theorem dJ0_isLatin1_aae02_3 : decode cJ0_isLatin1_aae02 3 = .ok (.ifCond .eq 14, 3) := by decide +kernel
theorem dJ0_isLatin1_aae02_6 : decode cJ0_isLatin1_aae02 6 = .ok (.aload_n 0, 1) := by decide +kernel
theorem dJ0_isLatin1_aae02_7 : decode cJ0_isLatin1_aae02 7 = .ok (.getfield 15, 3) := by decide +kernel
theorem dJ0_isLatin1_aae02_10 : decode cJ0_isLatin1_aae02 10 = .ok (.ifCond .ne 7, 3) := by decide +kernel
theorem dJ0_isLatin1_aae02_13 : decode cJ0_isLatin1_aae02 13 = .ok (.iconst 1, 1) := by decide +kernel
theorem dJ0_isLatin1_aae02_14 : decode cJ0_isLatin1_aae02 14 = .ok (.goto 4, 3) := by decide +kernel
theorem dJ0_isLatin1_aae02_17 : decode cJ0_isLatin1_aae02 17 = .ok (.iconst 0, 1) := by decide +kernel
theorem dJ0_isLatin1_aae02_18 : decode cJ0_isLatin1_aae02 18 = .ok (.ireturn, 1) := by decide +kernel
theorem dJ0_checkIndex_df160_0 : decode cJ0_checkIndex_df160 0 = .ok (.iload_n 0, 1) := by decide +kernel
theorem dJ0_checkIndex_df160_1 : decode cJ0_checkIndex_df160 1 = .ok (.iload_n 1, 1) := by decide +kernel
theorem dJ0_checkIndex_df160_2 : decode cJ0_checkIndex_df160 2 = .ok (.getstatic 1053, 3) := by decide +kernel
theorem dJ0_checkIndex_df160_5 : decode cJ0_checkIndex_df160 5 = .ok (.invokestatic 1059, 3) := by decide +kernel
theorem dJ0_checkIndex_df160_8 : decode cJ0_checkIndex_df160 8 = .ok (.pop, 1) := by decide +kernel
theorem dJ0_checkIndex_df160_9 : decode cJ0_checkIndex_df160 9 = .ok (.return_, 1) := by decide +kernel
theorem dJ1_charAt_3b067_0 : decode cJ1_charAt_3b067 0 = .ok (.iload_n 1, 1) := by decide +kernel
theorem dJ1_charAt_3b067_1 : decode cJ1_charAt_3b067 1 = .ok (.aload_n 0, 1) := by decide +kernel
theorem dJ1_charAt_3b067_2 : decode cJ1_charAt_3b067 2 = .ok (.arraylength, 1) := by decide +kernel
theorem dJ1_charAt_3b067_3 : decode cJ1_charAt_3b067 3 = .ok (.invokestatic 9, 3) := by decide +kernel
theorem dJ1_charAt_3b067_6 : decode cJ1_charAt_3b067 6 = .ok (.aload_n 0, 1) := by decide +kernel
theorem dJ1_charAt_3b067_7 : decode cJ1_charAt_3b067 7 = .ok (.iload_n 1, 1) := by decide +kernel
theorem dJ1_charAt_3b067_8 : decode cJ1_charAt_3b067 8 = .ok (.baload, 1) := by decide +kernel
theorem dJ1_charAt_3b067_9 : decode cJ1_charAt_3b067 9 = .ok (.sipush 255, 3) := by decide +kernel
theorem dJ1_charAt_3b067_12 : decode cJ1_charAt_3b067 12 = .ok (.iand, 1) := by decide +kernel
theorem dJ1_charAt_3b067_13 : decode cJ1_charAt_3b067 13 = .ok (.i2c, 1) := by decide +kernel
theorem dJ1_charAt_3b067_14 : decode cJ1_charAt_3b067 14 = .ok (.ireturn, 1) := by decide +kernel
theorem dJ3_checkIndex_8e157_0 : decode cJ3_checkIndex_8e157 0 = .ok (.iload_n 0, 1) := by decide +kernel
theorem dJ3_checkIndex_8e157_1 : decode cJ3_checkIndex_8e157 1 = .ok (.ifCond .lt 8, 3) := by decide +kernel
theorem dJ3_checkIndex_8e157_4 : decode cJ3_checkIndex_8e157 4 = .ok (.iload_n 0, 1) := by decide +kernel
theorem dJ3_checkIndex_8e157_5 : decode cJ3_checkIndex_8e157 5 = .ok (.iload_n 1, 1) := by decide +kernel
theorem dJ3_checkIndex_8e157_6 : decode cJ3_checkIndex_8e157 6 = .ok (.if_icmp .lt 10, 3) := by decide +kernel
theorem dJ3_checkIndex_8e157_9 : decode cJ3_checkIndex_8e157 9 = .ok (.aload_n 2, 1) := by decide +kernel
theorem dJ3_checkIndex_8e157_10 : decode cJ3_checkIndex_8e157 10 = .ok (.iload_n 0, 1) := by decide +kernel
theorem dJ3_checkIndex_8e157_11 : decode cJ3_checkIndex_8e157 11 = .ok (.iload_n 1, 1) := by decide +kernel
theorem dJ3_checkIndex_8e157_12 : decode cJ3_checkIndex_8e157 12 = .ok (.invokestatic 95, 3) := by decide +kernel
theorem dJ3_checkIndex_8e157_15 : decode cJ3_checkIndex_8e157 15 = .ok (.athrow, 1) := by decide +kernel
theorem dJ3_checkIndex_8e157_16 : decode cJ3_checkIndex_8e157 16 = .ok (.iload_n 0, 1) := by decide +kernel
theorem dJ3_checkIndex_8e157_17 : decode cJ3_checkIndex_8e157 17 = .ok (.ireturn, 1) := by decide +kernel
theorem dJx29ce0_ordinal_8abf5_0 : decode cJx29ce0_ordinal_8abf5 0 = .ok (.aload_n 0, 1) := by decide +kernel
theorem dJx29ce0_ordinal_8abf5_1 : decode cJx29ce0_ordinal_8abf5 1 = .ok (.getfield 7, 3) := by decide +kernel
theorem dJx29ce0_ordinal_8abf5_4 : decode cJx29ce0_ordinal_8abf5 4 = .ok (.ireturn, 1) := by decide +kernel
theorem A_coder (l : Launch) (hl0 : l.stackTraces = false) (D : va_G) (loc : Rf → Nat) (cy : Nat → ClassId) {q : Nat × List Int32} (hq : q ∈ TXT) (h : HD) : AM l D loc cy yJ0_coder_7d493 cJ0_coder_7d493 1 (some .byte) 0 16 [.ref (loc (10, q.1, 0))] h (some (.inr (some (.int 0)), h)) := by
  refine am_start (RF := fun (_ : Unit) => some (.inr (some (.int 0)), h)) (x := ()) hl0 (by decide +kernel) rfl ?_
  intro p e R s m below meth c A hC
  refine aw_gsO hC dJ0_coder_7d493_0 tw4_129 (st_cs (cx_st hC)) ?_
  refine aw_if_eq_f hC dJ0_coder_7d493_3 (tgt := 13) (by decide) (by decide) ?_
  refine aw_aload_n hC dJ0_coder_7d493_6 rfl ?_
  refine aw_gfO hC dJ0_coder_7d493_7 tw10_36 (st_str (cx_st hC) hq).2.1 ?_
  refine aw_goto hC dJ0_coder_7d493_10 (tgt := 14) (by decide) ?_
  exact aw_nret hC dJ0_coder_7d493_14 rfl (by decide) rfl
theorem A_isLatin1 (l : Launch) (hl0 : l.stackTraces = false) (D : va_G) (loc : Rf → Nat) (cy : Nat → ClassId) {q : Nat × List Int32} (hq : q ∈ TXT) (h : HD) : AM l D loc cy yJ0_isLatin1_aae02 cJ0_isLatin1_aae02 1 (some .boolean) 0 16 [.ref (loc (10, q.1, 0))] h (some (.inr (some (.int 1)), h)) := by
  refine am_start (RF := fun (_ : Unit) => some (.inr (some (.int 1)), h)) (x := ()) hl0 (by decide +kernel) rfl ?_
  intro p e R s m below meth c A hC
  refine aw_gsO hC dJ0_isLatin1_aae02_0 tw4_129 (st_cs (cx_st hC)) ?_
  refine aw_if_eq_f hC dJ0_isLatin1_aae02_3 (tgt := 17) (by decide) (by decide) ?_
  refine aw_aload_n hC dJ0_isLatin1_aae02_6 rfl ?_
  refine aw_gfO hC dJ0_isLatin1_aae02_7 tw10_36 (st_str (cx_st hC) hq).2.1 ?_
  refine aw_if_ne_f hC dJ0_isLatin1_aae02_10 (tgt := 17) (by decide) (by decide) ?_
  refine aw_iconst hC dJ0_isLatin1_aae02_13 (v := 1) (by decide) ?_
  refine aw_goto hC dJ0_isLatin1_aae02_14 (tgt := 18) (by decide) ?_
  exact aw_nret hC dJ0_isLatin1_aae02_18 rfl (by decide) rfl
theorem A_strlen (l : Launch) (hl0 : l.stackTraces = false) (D : va_G) (loc : Rf → Nat) (cy : Nat → ClassId) {q : Nat × List Int32} (hq : q ∈ TXT) (h : HD) : AM l D loc cy yJ0_length_8abf5 cJ0_length_8abf5 1 (some .int) 1 40 [.ref (loc (10, q.1, 0))] h (some (.inr (some (.int (Int32.ofNat q.2.length))), h)) := by
  refine am_start (RF := fun (_ : Unit) => some (.inr (some (.int (Int32.ofNat q.2.length))), h)) (x := ()) hl0 (by decide +kernel) rfl ?_
  intro p e R s m below meth c A hC
  refine aw_aload_n hC dJ0_length_8abf5_0 rfl ?_
  refine aw_gfO hC dJ0_length_8abf5_1 tw10_35 (st_str (cx_st hC) hq).2.2.1 ?_
  refine aw_tlen hC dJ0_length_8abf5_4 (st_str (cx_st hC) hq).2.2.2 rfl ?_
  refine aw_aload_n hC dJ0_length_8abf5_5 rfl ?_
  refine aw_callB hC dJ0_length_8abf5_6 cv_RJ0_335 (st_str (cx_st hC) hq).1 (A_coder l (hC.2.2.2.2.2.2.2.2.2.2.2.2.1) D loc cy hq h) rfl rfl rfl rfl rfl ⟨rfl, rfl⟩ rfl ?_
  refine aw_ishr hC dJ0_length_8abf5_9 ?_
  refine aw_iret hC dJ0_length_8abf5_10 rfl ?_
  show some _ = some _
  rw [show ((0 : Int32) &&& 31) = 0 from rfl, show ∀ x : Int32, x >>> (0 : Int32) = x from fun x => by apply Int32.toBitVec_inj.mp; simp [Int32.toBitVec_shiftRight]]
theorem A_pcheck (l : Launch) (hl0 : l.stackTraces = false) (D : va_G) (loc : Rf → Nat) (cy : Nat → ClassId) {i n : Int32} (h1 : ¬ i < 0) (h2 : i < n) {v : Value} (hv : v = .null ∨ ∃ t, v = .ref t) (h : HD) : AM l D loc cy yJ3_checkIndex_8e157 cJ3_checkIndex_8e157 3 (some .int) 0 16 [.int i, .int n, v] h (some (.inr (some (.int i)), h)) := by
  refine am_start (RF := fun (_ : Unit) => some (.inr (some (.int i)), h)) (x := ()) hl0 (by decide +kernel) (by rcases hv with rfl | ⟨t, rfl⟩ <;> rfl) ?_
  intro p e R s m below meth c A hC
  refine aw_iload_n hC dJ3_checkIndex_8e157_0 (by rcases hv with rfl | ⟨t, rfl⟩ <;> rfl) ?_
  refine aw_if_lt_f hC dJ3_checkIndex_8e157_1 (tgt := 9) (by decide) h1 ?_
  refine aw_iload_n hC dJ3_checkIndex_8e157_4 (by rcases hv with rfl | ⟨t, rfl⟩ <;> rfl) ?_
  refine aw_iload_n hC dJ3_checkIndex_8e157_5 (by rcases hv with rfl | ⟨t, rfl⟩ <;> rfl) ?_
  refine aw_icmp_lt_t hC dJ3_checkIndex_8e157_6 (tgt := 16) (by decide) h2 ?_
  refine aw_iload_n hC dJ3_checkIndex_8e157_16 (by rcases hv with rfl | ⟨t, rfl⟩ <;> rfl) ?_
  exact aw_iret hC dJ3_checkIndex_8e157_17 rfl rfl
theorem A_scheck (l : Launch) (hl0 : l.stackTraces = false) (D : va_G) (loc : Rf → Nat) (cy : Nat → ClassId) {i n : Int32} (h1 : ¬ i < 0) (h2 : i < n) (h : HD) : AM l D loc cy yJ0_checkIndex_df160 cJ0_checkIndex_df160 2 (none) 1 40 [.int i, .int n] h (some (.inr (none), h)) := by
  refine am_start (RF := fun (_ : Unit) => some (.inr (none), h)) (x := ()) hl0 (by decide +kernel) rfl ?_
  intro p e R s m below meth c A hC
  refine aw_iload_n hC dJ0_checkIndex_df160_0 rfl ?_
  refine aw_iload_n hC dJ0_checkIndex_df160_1 rfl ?_
  refine aw_gsQ hC dJ0_checkIndex_df160_2 tw4_145 (st_sf (cx_st hC)) (fun v hv => ?_)
  refine aw_callS hC dJ0_checkIndex_df160_5 cv_RJ0_1059 (A_pcheck l (hC.2.2.2.2.2.2.2.2.2.2.2.2.1) D loc cy h1 h2 hv h) rfl rfl rfl rfl rfl ⟨rfl, rfl⟩ rfl ?_
  refine aw_pop hC dJ0_checkIndex_df160_8 rfl ?_
  exact aw_vret hC dJ0_checkIndex_df160_9 rfl rfl
theorem A_lchar (l : Launch) (hl0 : l.stackTraces = false) (D : va_G) (loc : Rf → Nat) (cy : Nat → ClassId) {q : Nat × List Int32} (hq : q ∈ TXT) {i : Int32} (hi : inB i q.2.length = true) (h : HD) : AM l D loc cy yJ1_charAt_3b067 cJ1_charAt_3b067 2 (some .char) 2 70 [.ref (loc (10, q.1, 1)), .int i] h (some (.inr (some (.int (q.2.getD i.toNatClampNeg 0))), h)) := by
  refine am_start (RF := fun (_ : Unit) => some (.inr (some (.int (q.2.getD i.toNatClampNeg 0))), h)) (x := ()) hl0 (by decide +kernel) rfl ?_
  intro p e R s m below meth c A hC
  have hlt := inB_lt hi
  have hmem : q.2.getD i.toNatClampNeg 0 ∈ q.2 := by rw [List.getD_eq_getElem?_getD, List.getElem?_eq_getElem hlt]; exact List.getElem_mem hlt
  obtain ⟨g1, g2⟩ := txt_good q hq _ hmem
  obtain ⟨v1, v2⟩ := inB_sp hi (txt_len q hq)
  refine aw_iload_n hC dJ1_charAt_3b067_0 rfl ?_
  refine aw_aload_n hC dJ1_charAt_3b067_1 rfl ?_
  refine aw_tlen hC dJ1_charAt_3b067_2 (st_str (cx_st hC) hq).2.2.2 rfl ?_
  refine aw_callS hC dJ1_charAt_3b067_3 cv_RJ1_9 (A_scheck l (hC.2.2.2.2.2.2.2.2.2.2.2.2.1) D loc cy v1 v2 h) rfl rfl rfl rfl rfl ⟨rfl, rfl⟩ rfl ?_
  refine aw_aload_n hC dJ1_charAt_3b067_6 rfl ?_
  refine aw_iload_n hC dJ1_charAt_3b067_7 rfl ?_
  refine aw_tb hC dJ1_charAt_3b067_8 (st_str (cx_st hC) hq).2.2.2 hi rfl ?_
  refine aw_sipush hC dJ1_charAt_3b067_9 (v := 255) (by decide) ?_
  refine aw_iand hC dJ1_charAt_3b067_12 ?_
  refine aw_i2c hC dJ1_charAt_3b067_13 g1 ?_
  exact aw_nret hC dJ1_charAt_3b067_14 rfl g2 rfl
theorem A_schar (l : Launch) (hl0 : l.stackTraces = false) (D : va_G) (loc : Rf → Nat) (cy : Nat → ClassId) {q : Nat × List Int32} (hq : q ∈ TXT) {i : Int32} (hi : inB i q.2.length = true) (h : HD) : AM l D loc cy yJ0_charAt_5068e cJ0_charAt_5068e 2 (some .char) 3 100 [.ref (loc (10, q.1, 0)), .int i] h (some (.inr (some (.int (q.2.getD i.toNatClampNeg 0))), h)) := by
  refine am_start (RF := fun (_ : Unit) => some (.inr (some (.int (q.2.getD i.toNatClampNeg 0))), h)) (x := ()) hl0 (by decide +kernel) rfl ?_
  intro p e R s m below meth c A hC
  have hlt := inB_lt hi
  have hmem : q.2.getD i.toNatClampNeg 0 ∈ q.2 := by rw [List.getD_eq_getElem?_getD, List.getElem?_eq_getElem hlt]; exact List.getElem_mem hlt
  obtain ⟨g1, g2⟩ := txt_good q hq _ hmem
  refine aw_aload_n hC dJ0_charAt_5068e_0 rfl ?_
  refine aw_callB hC dJ0_charAt_5068e_1 cv_RJ0_492 (st_str (cx_st hC) hq).1 (A_isLatin1 l (hC.2.2.2.2.2.2.2.2.2.2.2.2.1) D loc cy hq h) rfl rfl rfl rfl rfl ⟨rfl, rfl⟩ rfl ?_
  refine aw_if_eq_f hC dJ0_charAt_5068e_4 (tgt := 16) (by decide) (by decide) ?_
  refine aw_aload_n hC dJ0_charAt_5068e_7 rfl ?_
  refine aw_gfO hC dJ0_charAt_5068e_8 tw10_35 (st_str (cx_st hC) hq).2.2.1 ?_
  refine aw_iload_n hC dJ0_charAt_5068e_11 rfl ?_
  refine aw_callS hC dJ0_charAt_5068e_12 cv_RJ0_495 (A_lchar l (hC.2.2.2.2.2.2.2.2.2.2.2.2.1) D loc cy hq hi h) rfl rfl rfl rfl rfl ⟨rfl, rfl⟩ rfl ?_
  exact aw_nret hC dJ0_charAt_5068e_15 rfl g2 rfl
theorem A_ordinal (l : Launch) (hl0 : l.stackTraces = false) (D : va_G) (loc : Rf → Nat) (cy : Nat → ClassId) {k : Nat} (hk : k < 9) (h : HD) : AM l D loc cy yJx29ce0_ordinal_8abf5 cJx29ce0_ordinal_8abf5 1 (some .int) 0 16 [.ref (loc (9, k, 0))] h (some (.inr (some (.int (cmO k))), h)) := by
  refine am_start (RF := fun (_ : Unit) => some (.inr (some (.int (cmO k))), h)) (x := ()) hl0 (by decide +kernel) rfl ?_
  intro p e R s m below meth c A hC
  refine aw_aload_n hC dJx29ce0_ordinal_8abf5_0 rfl ?_
  refine aw_gfO hC dJx29ce0_ordinal_8abf5_1 tw10_40 (st_cmO (cx_st hC) hk) ?_
  exact aw_iret hC dJx29ce0_ordinal_8abf5_4 rfl rfl
section SPD
variable {p : Program} {l : Launch} {e : Env} {R : Room} {s : State} {m : MethodId} {args : Array Value} {below : List Frame} {meth : Method} {c : Code} {D : va_G} {loc : Rf → Nat} {cy : Nat → ClassId} {A : Nat → Prop} {cc : ByteArray} {nL : Nat} {ret : Option FieldType} {own : String} {fr lo cb sb : Nat} {Qof : RR → State → Prop} {α : Type} {RF : α → Option RR} {kn : Nat × Nat} {pc : Nat} {L : List (Nat × Value)} {S : List Value} {h : HD} {X X1 X2 Z : α}
theorem aw_slen {idx : Nat} {q : Nat × List Int32} (hC : Cx p l e R s m args meth c D loc cy A cc nL ret own fr lo cb sb) (hd : decode cc pc = .ok (.invokevirtual idx, 3)) (hq : q ∈ TXT) (hlk : Cond.methodLink own idx yJ0_length_8abf5 ∈ LW) (hW : Nat.ble ((S.map fun v => v.category).sum) 8 = true) (hf : Nat.ble (1 + 1) fr = true) (hlo : Nat.ble (8 + (1 + 11) + 40) lo = true) (hk : Nat.ble kn.1 cb = true ∧ Nat.ble kn.2 sb = true) (kk : AW p l e R s m args below meth c D loc cy A nL Qof RF (kn) (pc + 3) (L) (.int (Int32.ofNat q.2.length) :: S) (h) (X)) : AW p l e R s m args below meth c D loc cy A nL Qof RF (kn) (pc) (L) (.ref (loc (10, q.1, 0)) :: S) (h) (X) :=
  aw_callB (As := []) hC hd ⟨hlk, tw4_122, tw4_123, tw1_14, tw4_124, by decide, by decide, by decide +kernel⟩ (st_str (cx_st hC) hq).1 (A_strlen l (hC.2.2.2.2.2.2.2.2.2.2.2.2.1) D loc cy hq h) rfl rfl hW hf hlo hk rfl kk
theorem aw_schar {idx : Nat} {i : Int32} {q : Nat × List Int32} (hC : Cx p l e R s m args meth c D loc cy A cc nL ret own fr lo cb sb) (hd : decode cc pc = .ok (.invokevirtual idx, 3)) (hq : q ∈ TXT) (hi : inB i q.2.length = true) (hlk : Cond.methodLink own idx yJ0_charAt_5068e ∈ LW) (hW : Nat.ble ((S.map fun v => v.category).sum) 8 = true) (hf : Nat.ble (3 + 1) fr = true) (hlo : Nat.ble (8 + (2 + 11) + 100) lo = true) (hk : Nat.ble kn.1 cb = true ∧ Nat.ble kn.2 sb = true) (kk : AW p l e R s m args below meth c D loc cy A nL Qof RF (kn) (pc + 3) (L) (.int (q.2.getD i.toNatClampNeg 0) :: S) (h) (X)) : AW p l e R s m args below meth c D loc cy A nL Qof RF (kn) (pc) (L) (.int i :: .ref (loc (10, q.1, 0)) :: S) (h) (X) :=
  aw_callB (n := 1) (As := [.int i]) hC hd ⟨hlk, tw4_132, tw4_133, tw1_14, tw4_134, by decide, by decide, by decide +kernel⟩ (st_str (cx_st hC) hq).1 (A_schar l (hC.2.2.2.2.2.2.2.2.2.2.2.2.1) D loc cy hq hi h) rfl rfl hW hf hlo hk rfl kk
def yOrd : MethodName := ⟨"ParkingCircle$Command", "ordinal", "()I"⟩
theorem aw_sord {idx k : Nat} (hC : Cx p l e R s m args meth c D loc cy A cc nL ret own fr lo cb sb) (hd : decode cc pc = .ok (.invokevirtual idx, 3)) (hk9 : k < 9) (hlk : Cond.methodLink own idx yOrd ∈ LW) (hW : Nat.ble ((S.map fun v => v.category).sum) 8 = true) (hf : Nat.ble (0 + 1) fr = true) (hlo : Nat.ble (8 + (1 + 11) + 16) lo = true) (hk : Nat.ble kn.1 cb = true ∧ Nat.ble kn.2 sb = true) (kk : AW p l e R s m args below meth c D loc cy A nL Qof RF (kn) (pc + 3) (L) (.int (cmO k) :: S) (h) (X)) : AW p l e R s m args below meth c D loc cy A nL Qof RF (kn) (pc) (L) (.ref (loc (9, k, 0)) :: S) (h) (X) := by
  refine aw_callU (As := []) (x := yOrd) (C := "ParkingCircle$Command") (owner := "java/lang/Enum") hC hd rfl (fun z hz => ?_) (by decide +kernel) (st_O (cx_st hC) hk9) (A_ordinal l (hC.2.2.2.2.2.2.2.2.2.2.2.2.1) D loc cy hk9 h) rfl rfl hW hf hlo hk rfl kk
  unfold va_wsU at hz
  simp only [List.mem_cons, List.mem_append, List.not_mem_nil, or_false] at hz
  rcases hz with hz | hz
  · rcases hz with rfl | rfl | rfl | rfl | rfl
    · exact hlk
    · exact tw5_86
    · exact tw5_88
    · exact tw5_89
    · exact tw1_19
  · rcases hz with rfl | hz
    · exact tw5_90
    · exact hz
end SPD
