/-! THE ABSTRACT HEAP. A reference is a triple: class (its place in vwCl; 8 the law's own row, 9 enum constants, 10 strings), number, part (0 the object, others its rows). -/
abbrev Rf : Type := Nat × Nat × Nat
/-- ints by cell and place; longs; the kept row; the script's commands -/
abbrev HD : Type := (Rf → Nat → Int32) × (Rf → Nat → Int64) × (Nat → Nat) × (Nat → Option Nat)
def gI (h : HD) (r : Rf) (k : Nat) : Int32 := h.1 r k
def gJ (h : HD) (r : Rf) (k : Nat) : Int64 := h.2.1 r k
def gK (h : HD) (k : Nat) : Nat := h.2.2.1 k
def gO (h : HD) (k : Nat) : Option Nat := h.2.2.2 k
def sI (h : HD) (r : Rf) (k : Nat) (v : Int32) : HD := (fun q j => if q = r ∧ j = k then v else h.1 q j, h.2)
def sJ (h : HD) (r : Rf) (k : Nat) (v : Int64) : HD := (h.1, fun q j => if q = r ∧ j = k then v else h.2.1 q j, h.2.2)
def sK (h : HD) (k v : Nat) : HD := (h.1, h.2.1, fun j => if j = k then v else h.2.2.1 j, h.2.2.2)
def sO (h : HD) (k : Nat) (v : Option Nat) : HD := (h.1, h.2.1, h.2.2.1, fun j => if j = k then v else h.2.2.2 j)
def cpI (h : HD) (src dst : Rf) (sp dp n : Nat) : HD := (fun q j => if q = dst ∧ dp ≤ j ∧ j < dp + n then h.1 src (sp + (j - dp)) else h.1 q j, h.2)
def cpJ (h : HD) (src dst : Rf) (sp dp n : Nat) : HD := (h.1, fun q j => if q = dst ∧ dp ≤ j ∧ j < dp + n then h.2.1 src (sp + (j - dp)) else h.2.1 q j, h.2.2)
/-- the kinds of a class's fields in the order of the slots: 0 int, 1 long, 2 a reference that never changes -/
def hkK : Nat → List Nat
  | 0 => [2, 0]
  | 1 => [2, 2, 0, 0]
  | 2 => [2, 2, 2, 2, 0, 0, 0, 0, 0]
  | 3 => [2, 2, 2, 2, 2, 0, 0]
  | 4 => [2, 0, 0, 0, 1, 0, 0, 0, 0]
  | 5 => [2, 2, 2, 2, 2, 2, 0, 0, 0]
  | 6 => [2, 2, 2, 2, 2, 2, 2, 2, 2, 2, 2, 2, 2, 0, 0, 0, 0, 0, 0]
  | 7 => [0, 2, 0, 0, 0, 0, 0, 0, 0, 0, 0, 0, 1, 2, 2, 2, 2, 2, 2, 2, 2, 2, 2, 0, 0, 2, 0, 2, 2, 2, 2, 2, 2, 2, 2, 2, 2, 2, 0, 2, 2, 2, 2, 2, 2, 0, 0, 0, 2, 0, 0]
  | _ => []
/-- what its reference fields lead to -/
def hkT (i : Nat) : Nat → List Rf
  | 0 => [(0,i,1)]
  | 1 => [(1,i,1), (1,i,2)]
  | 2 => [(2,i,1), (2,i,2), (2,i,3), (2,i,4)]
  | 3 => [(3,0,1), (3,0,2), (3,0,3), (3,0,4), (3,0,5)]
  | 4 => [(0,0,0)]
  | 5 => [(5,0,1), (5,0,2), (5,0,3), (5,0,4), (5,0,5), (5,0,6)]
  | 6 => [(4,0,0), (0,0,0), (0,1,0), (3,0,0), (1,0,0), (1,1,0), (1,2,0), (1,3,0), (6,0,1), (2,0,0), (2,1,0), (5,0,0), (6,0,2)]
  | 7 => [(0,0,0), (7,0,1), (0,0,0), (0,0,0), (0,0,0), (0,0,0), (0,0,0), (0,0,0), (0,0,0), (0,0,0), (0,0,0), (0,0,0), (0,0,0), (7,0,2), (7,0,3), (7,0,4), (7,0,5), (7,0,6), (7,0,7), (7,0,8), (7,0,9), (7,0,10), (7,0,11), (0,0,0), (0,0,0), (7,0,12), (0,0,0), (7,0,13), (7,0,14), (7,0,15), (7,0,16), (7,0,17), (7,0,18), (7,0,19), (7,0,20), (7,0,21), (7,0,22), (7,0,23), (0,0,0), (7,0,24), (7,0,25), (7,0,26), (7,0,27), (7,0,28), (7,0,29), (0,0,0), (0,0,0), (0,0,0), (7,0,30), (0,0,0), (0,0,0)]
  | _ => []
/-- its rows: kind (0 byte 1 int 2 long 3 boolean 4 rows of ints 5 Cars 6 Command), length -/
def hkA (i : Nat) : Nat → List (Nat × Nat)
  | 0 => [(0, bif Nat.beq i 0 then 400 else 120)]
  | 1 => [(2, 11), (1, 11)]
  | 2 => [(1, 11), (1, 11), (1, 11), (1, 12)]
  | 3 => [(6, 30), (2, 30), (1, 30), (1, 30), (1, 2)]
  | 5 => [(1, 11), (1, 11), (1, 11), (3, 11), (1, 12), (4, 12)]
  | 6 => [(5, 6), (1, 5)]
  | 7 => [(1, 400), (1, 13), (1, 13), (1, 13), (1, 13), (1, 78), (2, 11), (2, 11), (2, 11), (2, 11), (2, 66), (1, 5), (1, 12), (1, 11), (1, 11), (1, 12), (1, 11), (1, 12), (1, 11), (1, 11), (1, 12), (1, 11), (3, 12), (3, 11), (1, 60), (1, 60), (1, 2), (1, 2), (2, 60), (1, 200)]
  | 8 => [(2, 1)]
  | _ => []
def fval (loc : Rf → Nat) (h : HD) (ci i k : Nat) : Value := match (hkK ci).getD k 0 with
  | 0 => .int (h.1 (ci, i, 0) k)
  | 1 => .long (h.2.1 (ci, i, 0) k)
  | _ => .ref (loc ((hkT i ci).getD k (0, 0, 0)))
def flds (loc : Rf → Nat) (h : HD) (ci i : Nat) : List Value := (List.range (hkK ci).length).map (fval loc h ci i)
def arrC (loc : Rf → Nat) (h : HD) (r : Rf) : Nat → ((Nat → Int32) ⊕ (Nat → Int64) ⊕ (Nat → UInt32) ⊕ (Nat → UInt64) ⊕ (Nat → Option Nat))
  | 2 => .inr (.inl (h.2.1 r))
  | 4 => .inr (.inr (.inr (.inr (fun j => some (loc (5, j, 7))))))
  | 5 => .inr (.inr (.inr (.inr (fun j => some (loc (1, h.2.2.1 j, 0))))))
  | 6 => .inr (.inr (.inr (.inr (fun j => (h.2.2.2 j).map (fun k => loc (9, k, 0))))))
  | _ => .inl (h.1 r)
def arrT (r : Rf) : Nat × Nat := bif Nat.beq r.2.2 7 && Nat.beq r.1 5 then (1, 12) else (hkA r.2.1 r.1).getD (r.2.2 - 1) (1, 0)
def ent (loc : Rf → Nat) (cy : Nat → ClassId) (h : HD) (r : Rf) : va_E := bif Nat.beq r.2.2 0 then .inr (r.1, flds loc h r.1 r.2.1) else .inl (cy (arrT r).1, (arrT r).2, arrC loc h r (arrT r).1)
def refs : List Rf := [(0, 0, 0), (0, 0, 1), (0, 1, 0), (0, 1, 1), (1, 0, 0), (1, 0, 1), (1, 0, 2), (1, 1, 0), (1, 1, 1), (1, 1, 2), (1, 2, 0), (1, 2, 1), (1, 2, 2), (1, 3, 0), (1, 3, 1), (1, 3, 2), (1, 4, 0), (1, 4, 1), (1, 4, 2), (1, 5, 0), (1, 5, 1), (1, 5, 2), (1, 6, 0), (1, 6, 1), (1, 6, 2), (1, 7, 0), (1, 7, 1), (1, 7, 2), (1, 8, 0), (1, 8, 1), (1, 8, 2), (1, 9, 0), (1, 9, 1), (1, 9, 2), (2, 0, 0), (2, 0, 1), (2, 0, 2), (2, 0, 3), (2, 0, 4), (2, 1, 0), (2, 1, 1), (2, 1, 2), (2, 1, 3), (2, 1, 4), (3, 0, 0), (3, 0, 1), (3, 0, 2), (3, 0, 3), (3, 0, 4), (3, 0, 5), (4, 0, 0), (5, 0, 0), (5, 0, 1), (5, 0, 2), (5, 0, 3), (5, 0, 4), (5, 0, 5), (5, 0, 6), (5, 0, 7), (5, 1, 7), (5, 2, 7), (5, 3, 7), (5, 4, 7), (5, 5, 7), (5, 6, 7), (5, 7, 7), (5, 8, 7), (5, 9, 7), (5, 10, 7), (5, 11, 7), (6, 0, 0), (6, 0, 1), (6, 0, 2), (7, 0, 0), (7, 0, 1), (7, 0, 2), (7, 0, 3), (7, 0, 4), (7, 0, 5), (7, 0, 6), (7, 0, 7), (7, 0, 8), (7, 0, 9), (7, 0, 10), (7, 0, 11), (7, 0, 12), (7, 0, 13), (7, 0, 14), (7, 0, 15), (7, 0, 16), (7, 0, 17), (7, 0, 18), (7, 0, 19), (7, 0, 20), (7, 0, 21), (7, 0, 22), (7, 0, 23), (7, 0, 24), (7, 0, 25), (7, 0, 26), (7, 0, 27), (7, 0, 28), (7, 0, 29), (7, 0, 30), (8, 0, 1)]
def wsl (loc : Rf → Nat) (cy : Nat → ClassId) (h : HD) : va_W := refs.map (fun r => (loc r, ent loc cy h r))
def tysO (cy : Nat → ClassId) : List (ClassId × FieldType) := [(cy 0, .byte), (cy 1, .int), (cy 2, .long), (cy 3, .boolean), (cy 4, .array .int), (cy 5, .object "ParkingCircle$Cars"), (cy 6, .object "ParkingCircle$Command")]
/-- the heap holds the picture -/
def Sim (D : va_G) (loc : Rf → Nat) (cy : Nat → ClassId) (h : HD) (H : Heap) : Prop := va_P D vwCl (wsl loc cy h) H ∧ (∀ k, k < 6 → gK h k < 10) ∧ (∀ k j, k < 30 → gO h k = some j → j < 9)
def Inj (loc : Rf → Nat) : Prop := ∀ r r2, r ∈ refs → r2 ∈ refs → loc r = loc r2 → r = r2
/-- the cells that a method of the system may write: the picture's, and new ones -/
def Aof (loc : Rf → Nat) (sz : Nat) : Nat → Prop := fun q => (∃ r, r ∈ refs ∧ loc r = q) ∨ sz ≤ q
def NL : List Cond := [.methodLinkNest RX1 23 ⟨RX8, "letterOf", "(JI)I"⟩ "ParkingCircle", .methodLinkNest RX1 31 ⟨RX8, "isLetter", "(I)Z"⟩ "ParkingCircle", .methodLinkNest RX1 35 ⟨RX8, "withLetter", "(JII)J"⟩ "ParkingCircle", .methodLinkNest RX2 55 ⟨RX8, "wrapped", "(II)I"⟩ "ParkingCircle", .methodLinkNest RX3 64 ⟨RX8, "wordOf", "(Ljava/lang/String;)J"⟩ "ParkingCircle", .methodLinkNest RX4 83 ⟨RX8, "wrapped", "(II)I"⟩ "ParkingCircle", .methodLinkNest RX6 54 ⟨RX8, "isLetter", "(I)Z"⟩ "ParkingCircle", .methodLinkNest RX6 61 ⟨RX8, "isDigit", "(I)Z"⟩ "ParkingCircle", .methodLinkNest RX6 67 ⟨RX8, "withLetter", "(JII)J"⟩ "ParkingCircle", .methodLinkNest RX6 71 ⟨RX8, "wordOf", "(Ljava/lang/String;)J"⟩ "ParkingCircle", .methodLinkNest RX7 62 ⟨RX8, "wrapped", "(II)I"⟩ "ParkingCircle", .fieldLinkNest RX5 83 "ParkingCircle$Command" "takesName" "Z" "ParkingCircle", .fieldLinkNest RX5 90 "ParkingCircle$Command" "takesNumber" "Z" "ParkingCircle", .castable "java/lang/IllegalStateException" "java/lang/IllegalStateException", .castable "java/lang/IllegalArgumentException" "java/lang/IllegalArgumentException", .castable "java/lang/IndexOutOfBoundsException" "java/lang/IndexOutOfBoundsException", .declares (Bundle.initS "java/lang/RuntimeException"), .declares (Bundle.initS "java/lang/Exception"), .declares (Bundle.initS Bundle.tN)]
/-- string constants: their class, place in its pool, text, number -/
def STR : List (String × Nat × String × Nat) := [("ParkingCircle", 106, "the buffer would exceed 400 bytes", 106), ("ParkingCircle", 116, "no such length of the buffer", 116), ("ParkingCircle", 132, "the text is no system", 132), ("ParkingCircle", 145, "the text is no script", 145), ("ParkingCircle", 167, "park", 167), ("ParkingCircle", 187, "back", 187), ("ParkingCircle", 199, "car", 199), ("ParkingCircle", 268, "a car has no such number", 268), ("ParkingCircle", 329, "there is no such setting", 329), ("ParkingCircle", 336, "there is no such car", 336), ("ParkingCircle", 342, "there is no such spot", 342), ("ParkingCircle", 344, "a preference is a spot", 344), ("ParkingCircle", 349, "back is 0 to 5", 349), ("ParkingCircle", 358, "so many cars do not come", 358), ("ParkingCircle", 403, "there is no such node", 403), ("ParkingCircle", 438, "the circle is turned by 0 to 99", 438), ("ParkingCircle", 449, "a preference is a spot that there is then", 449), ("ParkingCircle", 511, "there is no such account", 511), ("ParkingCircle", 519, "the report has no such byte", 519), ("ParkingCircle", 524, "nothing was saved", 524)]
/-- texts that are read: number, bytes -/
def TXT : List (Nat × List Int32) := [(167, [112, 97, 114, 107]), (187, [98, 97, 99, 107]), (199, [99, 97, 114]), (1071, [112, 114, 101, 102, 101, 114]), (1077, [115, 119, 97, 112]), (1080, [116, 117, 114, 110]), (1083, [98, 97, 99, 107]), (1086, [99, 111, 109, 101]), (1089, [103, 111]), (1092, [115, 111, 114, 116]), (1095, [114, 101, 118, 101, 114, 115, 101]), (1098, [114, 101, 112, 101, 97, 116])]
def CMN : List String := ["PREFER", "SWAP", "TURN", "BACK", "COME", "GO", "SORT", "REVERSE", "REPEAT"]
def CMF : List (String × String × String × List Int32) := [("java/lang/Enum", "ordinal", "I", [0, 1, 2, 3, 4, 5, 6, 7, 8]), ("ParkingCircle$Command", "takesName", "Z", [1, 1, 0, 0, 1, 1, 0, 0, 0]), ("ParkingCircle$Command", "takesNumber", "Z", [1, 0, 1, 1, 1, 0, 0, 0, 1])]
def CMT : List Nat := [1071, 1077, 1080, 1083, 1086, 1089, 1092, 1095, 1098]
def SWM : List Int32 := [1, 2, 3, 4, 5, 6, 7, 8, 0]
/-- what stays: links, string constants, enum constants and the rows over them -/
def St (loc : Rf → Nat) (A : Nat → Prop) (U : State) (H : Heap) : Prop :=
  (∀ w ∈ NL, va_Nw w U) ∧ va_Nc "java/lang/IllegalArgumentException" "java/lang/IndexOutOfBoundsException" U ∧ vx_Zq Bundle.tN "UNASSIGNED_STACK" Bundle.steD A U H ∧ vx_Zq Bundle.tN "SUPPRESSED_SENTINEL" Bundle.listD A U H ∧
  (∀ q ∈ STR, vk_R q.1 q.2.1 q.2.2.1 (loc (10, q.2.2.2, 0)) U) ∧ (∀ q ∈ TXT, vk_S 1 [q.2.length] [q.2] (fun _ => loc (10, q.1, 0)) (fun _ => loc (10, q.1, 1)) A U H) ∧
  va_Ec "ParkingCircle$Command" "ParkingCircle$Command" "LParkingCircle$Command;" CMN CMF (fun k => loc (9, k, 0)) A U H ∧
  (∀ k, k < 9 → va_OF "ParkingCircle$Command" "text" "Ljava/lang/String;" (.ref (loc (10, CMT.getD k 0, 0))) (loc (9, k, 0)) A U H) ∧
  va_Z "ParkingCircle$Command" "ALL" "[LParkingCircle$Command;" (.ref (loc (9, 0, 1))) A U H ∧ va_T (.object "ParkingCircle$Command") (loc (9, 0, 1)) 9 (fun k => .ref (loc (9, k, 0))) A U H ∧
  va_Z "ParkingCircle$1" "$SwitchMap$ParkingCircle$Command" "[I" (.ref (loc (9, 0, 2))) A U H ∧ va_T .int (loc (9, 0, 2)) 9 (fun k => .int (SWM.getD k 0)) A U H ∧
  va_Z "java/lang/String" "COMPACT_STRINGS" "Z" (.int 1) A U H ∧ va_Zq "jdk/internal/util/Preconditions" "SIOOBE_FORMATTER" "Ljava/util/function/BiFunction;" A U H
theorem St.step {loc : Rf → Nat} {A B : Nat → Prop} {s U : State} {H H1 : Heap} (hW : s.WarmedH U.vm) (hq : ∀ a : Nat, a < H.size → ¬ A a → H1[a]? = H[a]?) (hAB : ∀ q, B q → A q) (h : St loc A s H) : St loc B U H1 := by
  obtain ⟨h1, h0, h2, h3, h4, h5, h6, h7, h8, h9, h10, h11, h12, h13⟩ := h
  have hv := hW.alike
  refine ⟨fun w hw => ?_, h0.moved hv, ((h2.moved hv).kept hq).narrow hAB, ((h3.moved hv).kept hq).narrow hAB, fun q hm => (h4 q hm).warm hW, fun q hm => (((h5 q hm).moved hv).kept hq).narrow hAB, ((h6.moved hv).kept hq).narrow hAB, fun k hk => (((h7 k hk).moved hv).kept hq).narrow hAB, ((h8.moved hv).kept hq).narrow hAB, ((h9.moved hv).kept hq).narrow hAB, ((h10.moved hv).kept hq).narrow hAB, ((h11.moved hv).kept hq).narrow hAB, ((h12.moved hv).kept hq).narrow hAB, ((h13.moved hv).kept hq).narrow hAB⟩
  have hm := hw
  simp only [NL, List.mem_cons, List.not_mem_nil, or_false] at hm
  rcases hm with rfl | rfl | rfl | rfl | rfl | rfl | rfl | rfl | rfl | rfl | rfl | rfl | rfl | rfl | rfl | rfl | rfl | rfl | rfl <;> first | exact va_Nw.warmM hW (h1 _ hw) | exact va_Nw.warmF hW (h1 _ hw) | exact va_Nw.warmC hW (h1 _ hw) | exact va_Nw.warmD hW (h1 _ hw)
theorem St.same {loc : Rf → Nat} {A : Nat → Prop} {u U : State} {H : Heap} (hv : U.vm = u.vm) (h : St loc A u H) : St loc A U H := by
  obtain ⟨h1, h0, h2, h3, h4, h5, h6, h7, h8, h9, h10, h11, h12, h13⟩ := h
  have ha : u.vm.Alike U.vm := by rw [hv]; exact Vm.Alike.refl u.vm
  refine ⟨fun w hw => ?_, h0.moved ha, h2.moved ha, h3.moved ha, fun q hm => (h4 q hm).same hv, fun q hm => (h5 q hm).moved ha, h6.moved ha, fun k hk => (h7 k hk).moved ha, h8.moved ha, h9.moved ha, h10.moved ha, h11.moved ha, h12.moved ha, h13.moved ha⟩
  have hm := hw
  simp only [NL, List.mem_cons, List.not_mem_nil, or_false] at hm
  rcases hm with rfl | rfl | rfl | rfl | rfl | rfl | rfl | rfl | rfl | rfl | rfl | rfl | rfl | rfl | rfl | rfl | rfl | rfl | rfl <;> exact va_tabs rfl hv.symm (h1 _ hw)
/-- the world at a method's start -/
def Wd (D : va_G) (loc : Rf → Nat) (cy : Nat → ClassId) (sz : Nat) (h : HD) (U : State) : Prop := U.heap.size = sz ∧ Sim D loc cy h U.heap ∧ va_K D vwCl (tysO cy) U ∧ Inj loc ∧ St loc (Aof loc sz) U U.heap
theorem refs_nd : ∀ (i j : Nat) (r : Rf), refs[i]? = some r → refs[j]? = some r → i = j := by
  have h : ∀ i, i < refs.length → ∀ j, j < refs.length → refs[i]? = refs[j]? → i = j := by decide +kernel
  intro i j r h1 h2
  obtain ⟨l1, e1⟩ := List.getElem?_eq_some_iff.mp h1
  obtain ⟨l2, e2⟩ := List.getElem?_eq_some_iff.mp h2
  exact h i l1 j l2 (h1.trans h2.symm)
theorem wsl_at {loc : Rf → Nat} {cy : Nat → ClassId} (h : HD) {r : Rf} (hr : r ∈ refs) : ∃ k : Nat, refs[k]? = some r ∧ (wsl loc cy h)[k]? = some (loc r, ent loc cy h r) := by
  obtain ⟨k, hk⟩ := List.getElem?_of_mem hr
  exact ⟨k, hk, by unfold wsl; rw [List.getElem?_map, hk]; rfl⟩
theorem wsl_D {loc : Rf → Nat} {cy : Nat → ClassId} {A : Nat → Prop} (hI : Inj loc) (hA : ∀ r, r ∈ refs → A (loc r)) (h : HD) : va_D A (wsl loc cy h) := by
  have key : ∀ (k : Nat) (q : Nat × va_E), (wsl loc cy h)[k]? = some q → ∃ r, refs[k]? = some r ∧ q = (loc r, ent loc cy h r) := by
    intro k q hq
    unfold wsl at hq
    rw [List.getElem?_map] at hq
    cases hr : refs[k]? with
    | none => rw [hr] at hq; cases hq
    | some r => rw [hr] at hq; exact ⟨r, rfl, (Option.some.inj hq).symm⟩
  refine ⟨fun i j p q hi hj hpq => ?_, fun k q hk => ?_⟩
  · obtain ⟨r, h1, rfl⟩ := key i p hi
    obtain ⟨r2, h2, rfl⟩ := key j q hj
    have e := hI r r2 (List.mem_of_getElem? h1) (List.mem_of_getElem? h2) hpq
    subst e
    exact refs_nd i j r h1 h2
  · obtain ⟨r, h1, rfl⟩ := key k q hk
    exact hA r (List.mem_of_getElem? h1)
/-- one cell changed -/
theorem wsl_set {loc : Rf → Nat} {cy : Nat → ClassId} {h h2 : HD} {k : Nat} {r : Rf} {e : va_E} (hk : refs[k]? = some r) (he : ent loc cy h2 r = e) (ho : ∀ r2, r2 ∈ refs → r2 ≠ r → ent loc cy h2 r2 = ent loc cy h r2) : (wsl loc cy h).set k (loc r, e) = wsl loc cy h2 := by
  apply List.ext_getElem?
  intro j
  unfold wsl
  rw [List.getElem?_set, List.getElem?_map, List.getElem?_map, List.length_map]
  have hl := (List.getElem?_eq_some_iff.mp hk).1
  by_cases hj : k = j
  · subst hj
    rw [if_pos rfl, if_pos hl, hk, ← he]
    rfl
  · rw [if_neg hj]
    cases hr : refs[j]? with
    | none => rfl
    | some r2 =>
      have hne : r2 ≠ r := fun e2 => hj (refs_nd k j r hk (by rw [hr, e2]))
      show some (loc r2, ent loc cy h r2) = some (loc r2, ent loc cy h2 r2)
      rw [ho r2 (List.mem_of_getElem? hr) hne]
theorem fval_sI_ne {loc : Rf → Nat} {h : HD} {r : Rf} {k : Nat} {v : Int32} {ci i j : Nat} (hn : ¬ ((ci, i, 0) = r ∧ j = k)) : fval loc (sI h r k v) ci i j = fval loc h ci i j := by
  unfold fval sI
  split
  · exact congrArg Value.int (if_neg hn)
  · rfl
  · rfl
theorem fval_sJ_ne {loc : Rf → Nat} {h : HD} {r : Rf} {k : Nat} {v : Int64} {ci i j : Nat} (hn : ¬ ((ci, i, 0) = r ∧ j = k)) : fval loc (sJ h r k v) ci i j = fval loc h ci i j := by
  unfold fval sJ
  split
  · rfl
  · exact congrArg Value.long (if_neg hn)
  · rfl
theorem arrC_sI_ne {loc : Rf → Nat} {h : HD} {r r2 : Rf} {k t : Nat} {v : Int32} (hn : r2 ≠ r) : arrC loc (sI h r k v) r2 t = arrC loc h r2 t := by
  have e : (sI h r k v).1 r2 = h.1 r2 := funext fun j => if_neg (fun q => hn q.1)
  unfold arrC
  split <;> first | rfl | exact congrArg Sum.inl e
theorem arrC_sJ_ne {loc : Rf → Nat} {h : HD} {r r2 : Rf} {k t : Nat} {v : Int64} (hn : r2 ≠ r) : arrC loc (sJ h r k v) r2 t = arrC loc h r2 t := by
  have e : (sJ h r k v).2.1 r2 = h.2.1 r2 := funext fun j => if_neg (fun q => hn q.1)
  unfold arrC
  split <;> first | rfl | exact congrArg (fun z => Sum.inr (Sum.inl z)) e
theorem flds_congr {loc : Rf → Nat} {h h2 : HD} {ci i : Nat} (he : ∀ j, fval loc h2 ci i j = fval loc h ci i j) : flds loc h2 ci i = flds loc h ci i := List.map_congr_left fun j _ => he j
theorem ent_obj {loc : Rf → Nat} {cy : Nat → ClassId} {h : HD} {ci i : Nat} : ent loc cy h (ci, i, 0) = .inr (ci, flds loc h ci i) := rfl
theorem ent_ne {loc : Rf → Nat} {cy : Nat → ClassId} {h h2 : HD} {r2 : Rf} (h1 : ∀ j, r2.2.2 = 0 → fval loc h2 r2.1 r2.2.1 j = fval loc h r2.1 r2.2.1 j) (hA : ∀ t, arrC loc h2 r2 t = arrC loc h r2 t) : ent loc cy h2 r2 = ent loc cy h r2 := by
  unfold ent
  by_cases e : r2.2.2 = 0
  · rw [e]
    show Sum.inr _ = Sum.inr _
    rw [flds_congr (fun j => h1 j e)]
  · have e2 : Nat.beq r2.2.2 0 = false := by
      cases hb : Nat.beq r2.2.2 0 with
      | false => rfl
      | true => exact absurd (Nat.eq_of_beq_eq_true hb) e
    rw [e2]
    show Sum.inl _ = Sum.inl _
    rw [hA]
theorem ent_sI_ne {loc : Rf → Nat} {cy : Nat → ClassId} {h : HD} {r r2 : Rf} {k : Nat} {v : Int32} (hn : r2 ≠ r) : ent loc cy (sI h r k v) r2 = ent loc cy h r2 := by
  refine ent_ne (fun j hp => fval_sI_ne (fun q => hn ?_)) (fun t => arrC_sI_ne hn)
  rw [← q.1, ← hp]
theorem ent_sJ_ne {loc : Rf → Nat} {cy : Nat → ClassId} {h : HD} {r r2 : Rf} {k : Nat} {v : Int64} (hn : r2 ≠ r) : ent loc cy (sJ h r k v) r2 = ent loc cy h r2 := by
  refine ent_ne (fun j hp => fval_sJ_ne (fun q => hn ?_)) (fun t => arrC_sJ_ne hn)
  rw [← q.1, ← hp]
theorem arrT_kept : ∀ r, r ∈ refs → r ≠ (6, 0, 1) → r.2.2 ≠ 0 → (arrT r).1 ≠ 5 := by decide +kernel
theorem arrT_cmds : ∀ r, r ∈ refs → r ≠ (3, 0, 1) → r.2.2 ≠ 0 → (arrT r).1 ≠ 6 := by decide +kernel
theorem ent_sK_ne {loc : Rf → Nat} {cy : Nat → ClassId} {h : HD} {r2 : Rf} {k v : Nat} (hr : r2 ∈ refs) (hn : r2 ≠ (6, 0, 1)) : ent loc cy (sK h k v) r2 = ent loc cy h r2 := by
  unfold ent
  by_cases e : r2.2.2 = 0
  · rw [e]; rfl
  · have e2 : Nat.beq r2.2.2 0 = false := by
      cases hb : Nat.beq r2.2.2 0 with
      | false => rfl
      | true => exact absurd (Nat.eq_of_beq_eq_true hb) e
    rw [e2]
    show Sum.inl _ = Sum.inl _
    have h5 := arrT_kept r2 hr hn e
    unfold arrC
    split <;> first | rfl | contradiction
theorem ent_sO_ne {loc : Rf → Nat} {cy : Nat → ClassId} {h : HD} {r2 : Rf} {k : Nat} {v : Option Nat} (hr : r2 ∈ refs) (hn : r2 ≠ (3, 0, 1)) : ent loc cy (sO h k v) r2 = ent loc cy h r2 := by
  unfold ent
  by_cases e : r2.2.2 = 0
  · rw [e]; rfl
  · have e2 : Nat.beq r2.2.2 0 = false := by
      cases hb : Nat.beq r2.2.2 0 with
      | false => rfl
      | true => exact absurd (Nat.eq_of_beq_eq_true hb) e
    rw [e2]
    show Sum.inl _ = Sum.inl _
    have h5 := arrT_cmds r2 hr hn e
    unfold arrC
    split <;> first | rfl | contradiction
theorem flds_sI {loc : Rf → Nat} {h : HD} {ci i k : Nat} {v : Int32} (hk : k < (hkK ci).length) (h0 : (hkK ci).getD k 0 = 0) : (flds loc h ci i).set k (.int v) = flds loc (sI h (ci, i, 0) k v) ci i := by
  apply List.ext_getElem?
  intro j
  unfold flds
  rw [List.getElem?_set, List.getElem?_map, List.getElem?_map, List.length_map, List.length_range]
  by_cases hj : k = j
  · subst hj
    rw [if_pos rfl, if_pos hk, List.getElem?_range hk]
    show some _ = some _
    unfold fval sI
    rw [h0]
    show _ = some (Value.int (if _ then _ else _))
    rw [if_pos ⟨rfl, rfl⟩]
  · rw [if_neg hj]
    cases hr : (List.range (hkK ci).length)[j]? with
    | none => rfl
    | some j2 =>
      have e : j2 = j := by
        obtain ⟨l1, e1⟩ := List.getElem?_eq_some_iff.mp hr
        rw [List.getElem_range] at e1
        exact e1.symm
      subst e
      show some _ = some _
      rw [fval_sI_ne (fun q => hj q.2.symm)]
theorem flds_sJ {loc : Rf → Nat} {h : HD} {ci i k : Nat} {v : Int64} (hk : k < (hkK ci).length) (h0 : (hkK ci).getD k 0 = 1) : (flds loc h ci i).set k (.long v) = flds loc (sJ h (ci, i, 0) k v) ci i := by
  apply List.ext_getElem?
  intro j
  unfold flds
  rw [List.getElem?_set, List.getElem?_map, List.getElem?_map, List.length_map, List.length_range]
  by_cases hj : k = j
  · subst hj
    rw [if_pos rfl, if_pos hk, List.getElem?_range hk]
    show some _ = some _
    unfold fval sJ
    rw [h0]
    show _ = some (Value.long (if _ then _ else _))
    rw [if_pos ⟨rfl, rfl⟩]
  · rw [if_neg hj]
    cases hr : (List.range (hkK ci).length)[j]? with
    | none => rfl
    | some j2 =>
      have e : j2 = j := by
        obtain ⟨l1, e1⟩ := List.getElem?_eq_some_iff.mp hr
        rw [List.getElem_range] at e1
        exact e1.symm
      subst e
      show some _ = some _
      rw [fval_sJ_ne (fun q => hj q.2.symm)]
theorem flds_get {loc : Rf → Nat} {h : HD} {ci i k : Nat} (hk : k < (hkK ci).length) : (flds loc h ci i)[k]? = some (fval loc h ci i k) := by
  unfold flds
  rw [List.getElem?_map, List.getElem?_range hk]
  rfl
