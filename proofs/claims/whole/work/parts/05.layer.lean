/-! THE LAYER: the machine's walk over abstract heaps. AW at a place: from every heap that holds the picture the walk goes on to the result x. -/
/-- a result: a class of exception (0 IllegalState, 1 IllegalArgument, 2 IndexOutOfBounds) or a value; the heap then -/
abbrev RR : Type := (Nat ⊕ Option Value) × HD
def lt {α β : Type} (x : α) (f : α → β) : β := f x
def b2i (b : Bool) : Int32 := bif b then 1 else 0
def inB (i : Int32) (n : Nat) : Bool := (! decide (i < 0)) && decide (i.toNatClampNeg < n)
theorem inB_vp {i : Int32} {n : Nat} (h : inB i n = true) : vp_in i n := by
  unfold inB at h
  simp only [Bool.and_eq_true, Bool.not_eq_true', decide_eq_false_iff_not, decide_eq_true_eq] at h
  rintro (q | q)
  · exact h.1 q
  · exact absurd h.2 (Nat.not_lt.mpr q)
/-- the locals: by place, in order -/
def gtL : List (Nat × Value) → Nat → Option Value
  | [], _ => none
  | q :: t, i => bif Nat.beq q.1 i then some q.2 else gtL t i
/-- without place i, and without a long that ends in it -/
def rmL : List (Nat × Value) → Nat → List (Nat × Value)
  | [], _ => []
  | q :: t, i => bif Nat.beq q.1 i then rmL t i else bif Nat.beq (q.1 + 1) i && Nat.beq q.2.category 2 then rmL t i else q :: rmL t i
def inL : List (Nat × Value) → Nat → Value → List (Nat × Value)
  | [], i, v => [(i, v)]
  | q :: t, i, v => bif Nat.ble i q.1 then (i, v) :: q :: t else q :: inL t i v
def st1 (L : List (Nat × Value)) (i : Nat) (v : Value) : List (Nat × Value) := inL (rmL L i) i v
def rmX : List (Nat × Value) → Nat → List (Nat × Value)
  | [], _ => []
  | q :: t, i => bif Nat.beq q.1 i then rmX t i else q :: rmX t i
def st2 (L : List (Nat × Value)) (i : Nat) (v : Value) : List (Nat × Value) := inL (rmX (rmL L i) (i + 1)) i v
/-- the listed places alone -/
def pkL (L : List (Nat × Value)) : List Nat → List (Nat × Value)
  | [] => []
  | i :: t => match gtL L i with
    | some v => (i, v) :: pkL L t
    | none => pkL L t
theorem gtL_mem {L : List (Nat × Value)} {i : Nat} {v : Value} (h : gtL L i = some v) : (i, v) ∈ L := by
  induction L with
  | nil => cases h
  | cons q t ih =>
    unfold gtL at h
    cases hb : Nat.beq q.1 i with
    | true =>
      rw [hb] at h
      have h1 : q.1 = i := Nat.eq_of_beq_eq_true hb
      have h2 : q.2 = v := Option.some.inj h
      subst h1; subst h2
      exact List.mem_cons_self
    | false =>
      rw [hb] at h
      exact List.mem_cons_of_mem _ (ih h)
theorem rmL_mem {L : List (Nat × Value)} {i : Nat} {q : Nat × Value} (h : q ∈ rmL L i) : q ∈ L ∧ q.1 ≠ i ∧ ¬ (q.1 + 1 = i ∧ q.2.category = 2) := by
  induction L with
  | nil => cases h
  | cons a t ih =>
    unfold rmL at h
    cases hb : Nat.beq a.1 i with
    | true =>
      rw [hb] at h
      have := ih h
      exact ⟨List.mem_cons_of_mem _ this.1, this.2⟩
    | false =>
      rw [hb] at h
      cases hc : (Nat.beq (a.1 + 1) i && Nat.beq a.2.category 2) with
      | true =>
        rw [hc] at h
        have := ih h
        exact ⟨List.mem_cons_of_mem _ this.1, this.2⟩
      | false =>
        rw [hc] at h
        rcases List.mem_cons.mp h with rfl | h
        · refine ⟨List.mem_cons_self, fun e => ?_, fun e => ?_⟩
          · rw [e, Nat.beq_refl] at hb
            cases hb
          · rw [e.1, e.2] at hc
            simp at hc
        · have := ih h
          exact ⟨List.mem_cons_of_mem _ this.1, this.2⟩
theorem rmX_mem {L : List (Nat × Value)} {i : Nat} {q : Nat × Value} (h : q ∈ rmX L i) : q ∈ L ∧ q.1 ≠ i := by
  induction L with
  | nil => cases h
  | cons a t ih =>
    unfold rmX at h
    cases hb : Nat.beq a.1 i with
    | true =>
      rw [hb] at h
      have := ih h
      exact ⟨List.mem_cons_of_mem _ this.1, this.2⟩
    | false =>
      rw [hb] at h
      rcases List.mem_cons.mp h with rfl | h
      · refine ⟨List.mem_cons_self, fun e => ?_⟩
        rw [e, Nat.beq_refl] at hb
        cases hb
      · have := ih h
        exact ⟨List.mem_cons_of_mem _ this.1, this.2⟩
theorem inL_mem {L : List (Nat × Value)} {i : Nat} {v : Value} {q : Nat × Value} (h : q ∈ inL L i v) : q = (i, v) ∨ q ∈ L := by
  induction L with
  | nil => exact Or.inl (List.mem_singleton.mp h)
  | cons a t ih =>
    unfold inL at h
    cases hb : Nat.ble i a.1 with
    | true =>
      rw [hb] at h
      rcases List.mem_cons.mp h with h | h
      · exact Or.inl h
      · exact Or.inr h
    | false =>
      rw [hb] at h
      rcases List.mem_cons.mp h with rfl | h
      · exact Or.inr List.mem_cons_self
      · rcases ih h with h | h
        · exact Or.inl h
        · exact Or.inr (List.mem_cons_of_mem _ h)
theorem pkL_mem {L : List (Nat × Value)} {ks : List Nat} {q : Nat × Value} (h : q ∈ pkL L ks) : q ∈ L := by
  induction ks with
  | nil => cases h
  | cons i t ih =>
    unfold pkL at h
    split at h
    · next v hv =>
      rcases List.mem_cons.mp h with rfl | h
      · exact gtL_mem hv
      · exact ih h
    · exact ih h
theorem lv_get {ls : Array Slot} {nL : Nat} {L : List (Nat × Value)} {i : Nat} {v : Value} (h : lv_has ls nL L) (hg : gtL L i = some v) : ls[i]? = some (.val v) := h.2.2 (i, v) (gtL_mem hg)
theorem lv_st1 {ls : Array Slot} {nL : Nat} {L : List (Nat × Value)} {i : Nat} {v : Value} (h : lv_has ls nL ((i, v) :: L.filter (fun q => !(q.1 == i) && !(q.1 + 1 == i && q.2.category == 2)))) : lv_has ls nL (st1 L i v) := by
  refine ⟨h.1, h.2.1, fun q hq => h.2.2 q ?_⟩
  rcases inL_mem hq with rfl | hq
  · exact List.mem_cons_self
  · obtain ⟨h1, h2, h3⟩ := rmL_mem hq
    refine List.mem_cons_of_mem _ (List.mem_filter.mpr ⟨h1, ?_⟩)
    simp only [Bool.and_eq_true, Bool.not_eq_true', beq_eq_false_iff_ne, ne_eq, Bool.and_eq_false_iff]
    refine ⟨h2, ?_⟩
    by_cases e : q.1 + 1 = i
    · exact Or.inr (fun z => h3 ⟨e, z⟩)
    · exact Or.inl e
theorem lv_st2 {ls : Array Slot} {nL : Nat} {L : List (Nat × Value)} {i : Nat} {v : Value} (h : lv_has ls nL ((i, v) :: L.filter (fun q => !(q.1 == i) && (!(q.1 == i + 1) && !(q.1 + 1 == i && q.2.category == 2))))) : lv_has ls nL (st2 L i v) := by
  refine ⟨h.1, h.2.1, fun q hq => h.2.2 q ?_⟩
  rcases inL_mem hq with rfl | hq
  · exact List.mem_cons_self
  · obtain ⟨hq, h4⟩ := rmX_mem hq
    obtain ⟨h1, h2, h3⟩ := rmL_mem hq
    refine List.mem_cons_of_mem _ (List.mem_filter.mpr ⟨h1, ?_⟩)
    simp only [Bool.and_eq_true, Bool.not_eq_true', beq_eq_false_iff_ne, ne_eq, Bool.and_eq_false_iff]
    refine ⟨h2, h4, ?_⟩
    by_cases e : q.1 + 1 = i
    · exact Or.inr (fun z => h3 ⟨e, z⟩)
    · exact Or.inl e
/-- what holds of an activation -/
def Cx (p : Program) (l : Launch) (e : Env) (R : Room) (s : State) (m : MethodId) (args : Array Value) (meth : Method) (c : Code) (D : va_G) (loc : Rf → Nat) (cy : Nat → ClassId) (A : Nat → Prop) (cc : ByteArray) (nL : Nat) (ret : Option FieldType) (own : String) (fr lo cb sb : Nat) : Prop :=
  p.tables.exec = Jvm.exec ∧ c.code = cc ∧ c.maxLocals = nL ∧ meth.sig.returnType = ret ∧ s.vm.findClass own = some m.cls ∧ (∀ w ∈ LW, w.before args s = true) ∧ va_K D vwCl (tysO cy) s ∧ Inj loc ∧ (∀ r, r ∈ refs → A (loc r)) ∧ (∀ q, s.heap.size ≤ q → A q) ∧ St loc A s s.heap ∧ meth.locks = false ∧ l.stackTraces = false ∧ fr ≤ R.frames ∧ lo ≤ R.locals ∧ cb ≤ R.cells ∧ sb ≤ R.slots
def AW (p : Program) (l : Launch) (e : Env) (R : Room) (s : State) (m : MethodId) (args : Array Value) (below : List Frame) (meth : Method) (c : Code) (D : va_G) (loc : Rf → Nat) (cy : Nat → ClassId) (A : Nat → Prop) (nL : Nat) (Qof : RR → State → Prop) {α : Type} (RF : α → Option RR) (kn : Nat × Nat) (pc : Nat) (L : List (Nat × Value)) (S : List Value) (h : HD) (x : α) : Prop :=
  ∀ rr, RF x = some rr → ∀ (H : Heap) (locs : List Loc) (ls : Array Slot), Sim D loc cy h H → va_S A s.heap H locs → lv_has ls nL L → W p l e R s m args below meth c H locs kn.1 kn.2 (Qof rr) (F0 m pc ls S)
section LAY
variable {p : Program} {l : Launch} {e : Env} {R : Room} {s : State} {m : MethodId} {args : Array Value} {below : List Frame} {meth : Method} {c : Code} {D : va_G} {loc : Rf → Nat} {cy : Nat → ClassId} {A : Nat → Prop} {cc : ByteArray} {nL : Nat} {ret : Option FieldType} {own : String} {Qof : RR → State → Prop} {α : Type} {RF : α → Option RR} {kn : Nat × Nat} {pc : Nat} {L : List (Nat × Value)} {S : List Value} {h : HD} {X : α}
theorem aw_none (hN : RF X = none) : AW p l e R s m args below meth c D loc cy A nL Qof RF kn pc L S h X := by
  intro rr hr
  rw [hN] at hr
  cases hr
theorem aw_let {β : Type} {x : β} {F : β → α} (kk : ∀ y, AW p l e R s m args below meth c D loc cy A nL Qof RF kn pc L S h (F y)) : AW p l e R s m args below meth c D loc cy A nL Qof RF kn pc L S h (lt x F) := kk x
theorem aw_sub (ks : List Nat) (kk : AW p l e R s m args below meth c D loc cy A nL Qof RF kn pc (pkL L ks) S h X) : AW p l e R s m args below meth c D loc cy A nL Qof RF kn pc L S h X :=
  fun rr hr H locs ls hM hS hl => kk rr hr H locs ls hM hS ⟨hl.1, hl.2.1, fun q hq => hl.2.2 q (pkL_mem hq)⟩
theorem aw_widen {kn2 : Nat × Nat} (h1 : kn.1 ≤ kn2.1) (h2 : kn.2 ≤ kn2.2) (kk : AW p l e R s m args below meth c D loc cy A nL Qof RF kn2 pc L S h X) : AW p l e R s m args below meth c D loc cy A nL Qof RF kn pc L S h X :=
  fun rr hr H locs ls hM hS hl => W.widen h1 h2 (kk rr hr H locs ls hM hS hl)
end LAY
