def evA (s : State) (args : Array Value) (tm : Term) : Nat := match tm.eval args s none [] s with
  | some (.ref a) => a
  | _ => 0
section STO
variable {s : State} {args : Array Value} {A : Nat → Prop}
theorem evA_eq {tm : Term} {a : Nat} (h : tm.eval args s none [] s = some (.ref a)) : evA s args tm = a := by unfold evA; rw [h]
theorem evA_ex {tm : Term} {E : String} (h : (Cond.exactly tm E).before args s = true) : tm.eval args s none [] s = some (.ref (evA s args tm)) := by
  obtain ⟨a, c, cell, k, q1, -⟩ := Cond.exactly_spec h
  rw [evA_eq q1]
  exact q1
/-- an equation read from the right -/
theorem eq_rev {t u : Term} {a : Nat} (h : (Cond.eq t u).before args s = true) (hu : u.eval args s none [] s = some (.ref a)) : t.eval args s none [] s = some (.ref a) := by
  cases hv : t.eval args s none [] s with
  | none => simp [Cond.before, Cond.holds, Cond.value, hv] at h
  | some w =>
    simp only [Cond.before, Cond.holds, Cond.value, hv, hu] at h
    cases w <;> simp_all
/-- the constants of an enum by the addresses that their statics hold (as the kit's va_Ecof) -/
theorem Ec_mk {SC E d : String} {nm : List String} {F : List (String × String × String × List Int32)} (hl : ∀ i, i < nm.length → (Cond.laysStatic SC (nm.getD i "") d).before args s = true) (hini : (Cond.initialized SC).before args s = true)
    (hex : ∀ i, i < nm.length → (Cond.exactly (.static SC (nm.getD i "") d) E).before args s = true) (hf : ∀ q ∈ F, ∀ i, i < nm.length → (Cond.eq (.field (.static SC (nm.getD i "") d) q.1 q.2.1 q.2.2.1) (.int (q.2.2.2.getD i 0))).before args s = true)
    (hd : ∀ i j, i < nm.length → j < nm.length → i ≠ j → (Cond.not (.eq (.static SC (nm.getD i "") d) (.static SC (nm.getD j "") d))).before args s = true ∨ (Cond.not (.eq (.static SC (nm.getD j "") d) (.static SC (nm.getD i "") d))).before args s = true)
    (hA : ∀ a : Nat, a < s.heap.size → ¬ A a) : va_Ec SC E d nm F (fun i => evA s args (.static SC (nm.getD i "") d)) A s s.heap := by
  have had : ∀ i, i < nm.length → (Term.static SC (nm.getD i "") d).eval args s none [] s = some (.ref (evA s args (.static SC (nm.getD i "") d))) ∧ va_O E (evA s args (.static SC (nm.getD i "") d)) A s s.heap := by
    intro i hi
    obtain ⟨a, c, cell, k, q1, q2, q3, q4, q5, q6, -⟩ := Cond.exactly_spec (hex i hi)
    rw [evA_eq q1]
    exact ⟨q1, cell, q3, q5, by rw [q6]; exact q2, hA a (Array.getElem?_eq_some_iff.mp q3).1⟩
  refine ⟨fun i hi => ⟨va_Zref (hl i hi) hini (had i hi).1 hA, (had i hi).2, fun q hq => vk_OFof (had i hi).1 (va_eqt (hf q hq i hi)) hA⟩, fun i j hi hj e => ?_⟩
  by_cases hij : i = j
  · exact hij
  · rcases hd i j hi hj hij with h | h
    · exact absurd e (va_neR h (had i hi).1 (had j hj).1)
    · exact absurd e.symm (va_neR h (had j hj).1 (had i hi).1)
theorem S_mk {n k : Nat} {own : String} {bs : List Int32} {a : Nat} {adK adV : Nat → Nat} (h : vk_S 1 [bs.length] [bs] adK adV A s s.heap) (e : adK 0 = a) : vk_S 1 [bs.length] [bs] (fun _ => a) (fun _ => adV 0) A s s.heap := by
  subst e
  refine ⟨fun i hi => ?_, fun i j hi hj _ => by omega⟩
  obtain rfl : i = 0 := by omega
  exact h.1 0 hi
end STO
def stQ (s : State) (args : Array Value) (va : Nat → Nat) : Rf → Nat := fun r => bif Nat.beq r.1 9 then (bif Nat.beq r.2.2 0 then evA s args (.static "ParkingCircle$Command" (CMN.getD r.2.1 "") "LParkingCircle$Command;") else bif Nat.beq r.2.2 1 then evA s args (.static "ParkingCircle$Command" "ALL" "[LParkingCircle$Command;") else evA s args (.static "ParkingCircle$1" "$SwitchMap$ParkingCircle$Command" "[I")) else bif Nat.beq r.2.2 0 then (bif Nat.ble 1000 r.2.1 then evA s args (.string "ParkingCircle$Command" (r.2.1 - 1000)) else evA s args (.string "ParkingCircle" r.2.1)) else va r.2.1
theorem NL_lw : ∀ w ∈ NL, w ∈ lw_tbl := by decide +kernel
/-- what stays, at the law's own start -/
theorem st_ok {s : State} {args : Array Value} {A : Nat → Prop} (hts : ∀ w ∈ lw_tbl, w.before args s = true) (hg : (Cond.and given_1 narrow_1).before args s = true) (hA : ∀ a : Nat, a < s.heap.size → ¬ A a) : ∃ st : Rf → Nat, ∀ qs, St (locQ qs st) A s s.heap := by
  have q : ∀ w ∈ NWL, w.before args s = true := flat_of_before _ hg
  obtain ⟨k167, v167, a167, b167⟩ := vk_Sof (args := args) (s := s) (A := A) (N := 1) (tm := fun _ => .string "ParkingCircle" 167) (len := [4]) (byt := [[112, 97, 114, 107]]) (fun i hi => match i, hi with | 0, _ => by decide) (fun i hi => match i, hi with | 0, _ => (q _ nw_244)) (fun i hi => match i, hi with | 0, _ => (q _ nw_245)) (fun i hi => match i, hi with | 0, _ => (q _ nw_246)) (fun i hi => match i, hi with | 0, _ => (q _ nw_247)) (fun i hi j hj => match i, hi, j, hj with
    | 0, _, 0, _ => (q _ nw_248)
    | 0, _, 1, _ => (q _ nw_249)
    | 0, _, 2, _ => (q _ nw_250)
    | 0, _, 3, _ => (q _ nw_251)) (fun i j hi hj hij => absurd (show i = j by omega) hij) hA
  obtain ⟨k187, v187, a187, b187⟩ := vk_Sof (args := args) (s := s) (A := A) (N := 1) (tm := fun _ => .string "ParkingCircle" 187) (len := [4]) (byt := [[98, 97, 99, 107]]) (fun i hi => match i, hi with | 0, _ => by decide) (fun i hi => match i, hi with | 0, _ => (q _ nw_252)) (fun i hi => match i, hi with | 0, _ => (q _ nw_253)) (fun i hi => match i, hi with | 0, _ => (q _ nw_254)) (fun i hi => match i, hi with | 0, _ => (q _ nw_255)) (fun i hi j hj => match i, hi, j, hj with
    | 0, _, 0, _ => (q _ nw_256)
    | 0, _, 1, _ => (q _ nw_257)
    | 0, _, 2, _ => (q _ nw_258)
    | 0, _, 3, _ => (q _ nw_259)) (fun i j hi hj hij => absurd (show i = j by omega) hij) hA
  obtain ⟨k199, v199, a199, b199⟩ := vk_Sof (args := args) (s := s) (A := A) (N := 1) (tm := fun _ => .string "ParkingCircle" 199) (len := [3]) (byt := [[99, 97, 114]]) (fun i hi => match i, hi with | 0, _ => by decide) (fun i hi => match i, hi with | 0, _ => (q _ nw_260)) (fun i hi => match i, hi with | 0, _ => (q _ nw_261)) (fun i hi => match i, hi with | 0, _ => (q _ nw_262)) (fun i hi => match i, hi with | 0, _ => (q _ nw_263)) (fun i hi j hj => match i, hi, j, hj with
    | 0, _, 0, _ => (q _ nw_264)
    | 0, _, 1, _ => (q _ nw_265)
    | 0, _, 2, _ => (q _ nw_266)) (fun i j hi hj hij => absurd (show i = j by omega) hij) hA
  obtain ⟨k1071, v1071, a1071, b1071⟩ := vk_Sof (args := args) (s := s) (A := A) (N := 1) (tm := fun _ => .string "ParkingCircle$Command" 71) (len := [6]) (byt := [[112, 114, 101, 102, 101, 114]]) (fun i hi => match i, hi with | 0, _ => by decide) (fun i hi => match i, hi with | 0, _ => (q _ nw_689)) (fun i hi => match i, hi with | 0, _ => (q _ nw_690)) (fun i hi => match i, hi with | 0, _ => (q _ nw_691)) (fun i hi => match i, hi with | 0, _ => (q _ nw_692)) (fun i hi j hj => match i, hi, j, hj with
    | 0, _, 0, _ => (q _ nw_693)
    | 0, _, 1, _ => (q _ nw_694)
    | 0, _, 2, _ => (q _ nw_695)
    | 0, _, 3, _ => (q _ nw_696)
    | 0, _, 4, _ => (q _ nw_697)
    | 0, _, 5, _ => (q _ nw_698)) (fun i j hi hj hij => absurd (show i = j by omega) hij) hA
  obtain ⟨k1077, v1077, a1077, b1077⟩ := vk_Sof (args := args) (s := s) (A := A) (N := 1) (tm := fun _ => .string "ParkingCircle$Command" 77) (len := [4]) (byt := [[115, 119, 97, 112]]) (fun i hi => match i, hi with | 0, _ => by decide) (fun i hi => match i, hi with | 0, _ => (q _ nw_699)) (fun i hi => match i, hi with | 0, _ => (q _ nw_700)) (fun i hi => match i, hi with | 0, _ => (q _ nw_701)) (fun i hi => match i, hi with | 0, _ => (q _ nw_702)) (fun i hi j hj => match i, hi, j, hj with
    | 0, _, 0, _ => (q _ nw_703)
    | 0, _, 1, _ => (q _ nw_704)
    | 0, _, 2, _ => (q _ nw_705)
    | 0, _, 3, _ => (q _ nw_706)) (fun i j hi hj hij => absurd (show i = j by omega) hij) hA
  obtain ⟨k1080, v1080, a1080, b1080⟩ := vk_Sof (args := args) (s := s) (A := A) (N := 1) (tm := fun _ => .string "ParkingCircle$Command" 80) (len := [4]) (byt := [[116, 117, 114, 110]]) (fun i hi => match i, hi with | 0, _ => by decide) (fun i hi => match i, hi with | 0, _ => (q _ nw_707)) (fun i hi => match i, hi with | 0, _ => (q _ nw_708)) (fun i hi => match i, hi with | 0, _ => (q _ nw_709)) (fun i hi => match i, hi with | 0, _ => (q _ nw_710)) (fun i hi j hj => match i, hi, j, hj with
    | 0, _, 0, _ => (q _ nw_711)
    | 0, _, 1, _ => (q _ nw_712)
    | 0, _, 2, _ => (q _ nw_713)
    | 0, _, 3, _ => (q _ nw_714)) (fun i j hi hj hij => absurd (show i = j by omega) hij) hA
  obtain ⟨k1083, v1083, a1083, b1083⟩ := vk_Sof (args := args) (s := s) (A := A) (N := 1) (tm := fun _ => .string "ParkingCircle$Command" 83) (len := [4]) (byt := [[98, 97, 99, 107]]) (fun i hi => match i, hi with | 0, _ => by decide) (fun i hi => match i, hi with | 0, _ => (q _ nw_715)) (fun i hi => match i, hi with | 0, _ => (q _ nw_716)) (fun i hi => match i, hi with | 0, _ => (q _ nw_717)) (fun i hi => match i, hi with | 0, _ => (q _ nw_718)) (fun i hi j hj => match i, hi, j, hj with
    | 0, _, 0, _ => (q _ nw_719)
    | 0, _, 1, _ => (q _ nw_720)
    | 0, _, 2, _ => (q _ nw_721)
    | 0, _, 3, _ => (q _ nw_722)) (fun i j hi hj hij => absurd (show i = j by omega) hij) hA
  obtain ⟨k1086, v1086, a1086, b1086⟩ := vk_Sof (args := args) (s := s) (A := A) (N := 1) (tm := fun _ => .string "ParkingCircle$Command" 86) (len := [4]) (byt := [[99, 111, 109, 101]]) (fun i hi => match i, hi with | 0, _ => by decide) (fun i hi => match i, hi with | 0, _ => (q _ nw_724)) (fun i hi => match i, hi with | 0, _ => (q _ nw_725)) (fun i hi => match i, hi with | 0, _ => (q _ nw_726)) (fun i hi => match i, hi with | 0, _ => (q _ nw_727)) (fun i hi j hj => match i, hi, j, hj with
    | 0, _, 0, _ => (q _ nw_728)
    | 0, _, 1, _ => (q _ nw_729)
    | 0, _, 2, _ => (q _ nw_730)
    | 0, _, 3, _ => (q _ nw_731)) (fun i j hi hj hij => absurd (show i = j by omega) hij) hA
  obtain ⟨k1089, v1089, a1089, b1089⟩ := vk_Sof (args := args) (s := s) (A := A) (N := 1) (tm := fun _ => .string "ParkingCircle$Command" 89) (len := [2]) (byt := [[103, 111]]) (fun i hi => match i, hi with | 0, _ => by decide) (fun i hi => match i, hi with | 0, _ => (q _ nw_732)) (fun i hi => match i, hi with | 0, _ => (q _ nw_733)) (fun i hi => match i, hi with | 0, _ => (q _ nw_734)) (fun i hi => match i, hi with | 0, _ => (q _ nw_735)) (fun i hi j hj => match i, hi, j, hj with
    | 0, _, 0, _ => (q _ nw_736)
    | 0, _, 1, _ => (q _ nw_737)) (fun i j hi hj hij => absurd (show i = j by omega) hij) hA
  obtain ⟨k1092, v1092, a1092, b1092⟩ := vk_Sof (args := args) (s := s) (A := A) (N := 1) (tm := fun _ => .string "ParkingCircle$Command" 92) (len := [4]) (byt := [[115, 111, 114, 116]]) (fun i hi => match i, hi with | 0, _ => by decide) (fun i hi => match i, hi with | 0, _ => (q _ nw_738)) (fun i hi => match i, hi with | 0, _ => (q _ nw_739)) (fun i hi => match i, hi with | 0, _ => (q _ nw_740)) (fun i hi => match i, hi with | 0, _ => (q _ nw_741)) (fun i hi j hj => match i, hi, j, hj with
    | 0, _, 0, _ => (q _ nw_742)
    | 0, _, 1, _ => (q _ nw_743)
    | 0, _, 2, _ => (q _ nw_744)
    | 0, _, 3, _ => (q _ nw_745)) (fun i j hi hj hij => absurd (show i = j by omega) hij) hA
  obtain ⟨k1095, v1095, a1095, b1095⟩ := vk_Sof (args := args) (s := s) (A := A) (N := 1) (tm := fun _ => .string "ParkingCircle$Command" 95) (len := [7]) (byt := [[114, 101, 118, 101, 114, 115, 101]]) (fun i hi => match i, hi with | 0, _ => by decide) (fun i hi => match i, hi with | 0, _ => (q _ nw_746)) (fun i hi => match i, hi with | 0, _ => (q _ nw_747)) (fun i hi => match i, hi with | 0, _ => (q _ nw_748)) (fun i hi => match i, hi with | 0, _ => (q _ nw_749)) (fun i hi j hj => match i, hi, j, hj with
    | 0, _, 0, _ => (q _ nw_750)
    | 0, _, 1, _ => (q _ nw_751)
    | 0, _, 2, _ => (q _ nw_752)
    | 0, _, 3, _ => (q _ nw_753)
    | 0, _, 4, _ => (q _ nw_754)
    | 0, _, 5, _ => (q _ nw_755)
    | 0, _, 6, _ => (q _ nw_756)) (fun i j hi hj hij => absurd (show i = j by omega) hij) hA
  obtain ⟨k1098, v1098, a1098, b1098⟩ := vk_Sof (args := args) (s := s) (A := A) (N := 1) (tm := fun _ => .string "ParkingCircle$Command" 98) (len := [6]) (byt := [[114, 101, 112, 101, 97, 116]]) (fun i hi => match i, hi with | 0, _ => by decide) (fun i hi => match i, hi with | 0, _ => (q _ nw_679)) (fun i hi => match i, hi with | 0, _ => (q _ nw_680)) (fun i hi => match i, hi with | 0, _ => (q _ nw_681)) (fun i hi => match i, hi with | 0, _ => (q _ nw_682)) (fun i hi j hj => match i, hi, j, hj with
    | 0, _, 0, _ => (q _ nw_683)
    | 0, _, 1, _ => (q _ nw_684)
    | 0, _, 2, _ => (q _ nw_685)
    | 0, _, 3, _ => (q _ nw_686)
    | 0, _, 4, _ => (q _ nw_687)
    | 0, _, 5, _ => (q _ nw_688)) (fun i j hi hj hij => absurd (show i = j by omega) hij) hA
  have hini : (Cond.initialized "ParkingCircle$Command").before args s = true := (hts _ (LW_tbl _ tw1_20))
  have hE : va_Ec "ParkingCircle$Command" "ParkingCircle$Command" "LParkingCircle$Command;" CMN CMF (fun i => evA s args (.static "ParkingCircle$Command" (CMN.getD i "") "LParkingCircle$Command;")) A s s.heap := by
    refine Ec_mk (fun i hi => match i, hi with
    | 0, _ => (hts _ tc10_41)
    | 1, _ => (hts _ tc10_42)
    | 2, _ => (hts _ tc10_43)
    | 3, _ => (hts _ tc10_44)
    | 4, _ => (hts _ tc10_45)
    | 5, _ => (hts _ tc10_46)
    | 6, _ => (hts _ tc10_47)
    | 7, _ => (hts _ tc10_48)
    | 8, _ => (hts _ tc5_37)) hini (fun i hi => match i, hi with
    | 0, _ => (q _ nw_40)
    | 1, _ => (q _ nw_46)
    | 2, _ => (q _ nw_53)
    | 3, _ => (q _ nw_61)
    | 4, _ => (q _ nw_70)
    | 5, _ => (q _ nw_80)
    | 6, _ => (q _ nw_91)
    | 7, _ => (q _ nw_103)
    | 8, _ => (q _ nw_23)) (fun qf hqf => ?_) (fun i j hi hj hij => ?_) hA
    · simp only [CMF, List.mem_cons, List.not_mem_nil, or_false] at hqf
      rcases hqf with rfl | rfl | rfl
      · exact (fun i hi => match i, hi with
    | 0, _ => (q _ nw_41)
    | 1, _ => (q _ nw_47)
    | 2, _ => (q _ nw_54)
    | 3, _ => (q _ nw_62)
    | 4, _ => (q _ nw_71)
    | 5, _ => (q _ nw_81)
    | 6, _ => (q _ nw_92)
    | 7, _ => (q _ nw_104)
    | 8, _ => (q _ nw_24))
      · exact (fun i hi => match i, hi with
    | 0, _ => (q _ nw_43)
    | 1, _ => (q _ nw_49)
    | 2, _ => (q _ nw_56)
    | 3, _ => (q _ nw_64)
    | 4, _ => (q _ nw_73)
    | 5, _ => (q _ nw_83)
    | 6, _ => (q _ nw_94)
    | 7, _ => (q _ nw_106)
    | 8, _ => (q _ nw_26))
      · exact (fun i hi => match i, hi with
    | 0, _ => (q _ nw_44)
    | 1, _ => (q _ nw_50)
    | 2, _ => (q _ nw_57)
    | 3, _ => (q _ nw_65)
    | 4, _ => (q _ nw_74)
    | 5, _ => (q _ nw_84)
    | 6, _ => (q _ nw_95)
    | 7, _ => (q _ nw_107)
    | 8, _ => (q _ nw_27))
    · match i, j, hi, hj, hij with
      | 0, 0, _, _, hij => exact absurd rfl hij
      | 0, 1, _, _, _ => exact Or.inl (q _ nw_52)
      | 0, 2, _, _, _ => exact Or.inl (q _ nw_59)
      | 0, 3, _, _, _ => exact Or.inl (q _ nw_67)
      | 0, 4, _, _, _ => exact Or.inl (q _ nw_76)
      | 0, 5, _, _, _ => exact Or.inl (q _ nw_86)
      | 0, 6, _, _, _ => exact Or.inl (q _ nw_97)
      | 0, 7, _, _, _ => exact Or.inl (q _ nw_109)
      | 0, 8, _, _, _ => exact Or.inr (q _ nw_45)
      | 1, 0, _, _, _ => exact Or.inr (q _ nw_52)
      | 1, 1, _, _, hij => exact absurd rfl hij
      | 1, 2, _, _, _ => exact Or.inl (q _ nw_60)
      | 1, 3, _, _, _ => exact Or.inl (q _ nw_68)
      | 1, 4, _, _, _ => exact Or.inl (q _ nw_77)
      | 1, 5, _, _, _ => exact Or.inl (q _ nw_87)
      | 1, 6, _, _, _ => exact Or.inl (q _ nw_98)
      | 1, 7, _, _, _ => exact Or.inl (q _ nw_110)
      | 1, 8, _, _, _ => exact Or.inr (q _ nw_51)
      | 2, 0, _, _, _ => exact Or.inr (q _ nw_59)
      | 2, 1, _, _, _ => exact Or.inr (q _ nw_60)
      | 2, 2, _, _, hij => exact absurd rfl hij
      | 2, 3, _, _, _ => exact Or.inl (q _ nw_69)
      | 2, 4, _, _, _ => exact Or.inl (q _ nw_78)
      | 2, 5, _, _, _ => exact Or.inl (q _ nw_88)
      | 2, 6, _, _, _ => exact Or.inl (q _ nw_99)
      | 2, 7, _, _, _ => exact Or.inl (q _ nw_111)
      | 2, 8, _, _, _ => exact Or.inr (q _ nw_58)
      | 3, 0, _, _, _ => exact Or.inr (q _ nw_67)
      | 3, 1, _, _, _ => exact Or.inr (q _ nw_68)
      | 3, 2, _, _, _ => exact Or.inr (q _ nw_69)
      | 3, 3, _, _, hij => exact absurd rfl hij
      | 3, 4, _, _, _ => exact Or.inl (q _ nw_79)
      | 3, 5, _, _, _ => exact Or.inl (q _ nw_89)
      | 3, 6, _, _, _ => exact Or.inl (q _ nw_100)
      | 3, 7, _, _, _ => exact Or.inl (q _ nw_112)
      | 3, 8, _, _, _ => exact Or.inr (q _ nw_66)
      | 4, 0, _, _, _ => exact Or.inr (q _ nw_76)
      | 4, 1, _, _, _ => exact Or.inr (q _ nw_77)
      | 4, 2, _, _, _ => exact Or.inr (q _ nw_78)
      | 4, 3, _, _, _ => exact Or.inr (q _ nw_79)
      | 4, 4, _, _, hij => exact absurd rfl hij
      | 4, 5, _, _, _ => exact Or.inl (q _ nw_90)
      | 4, 6, _, _, _ => exact Or.inl (q _ nw_101)
      | 4, 7, _, _, _ => exact Or.inl (q _ nw_113)
      | 4, 8, _, _, _ => exact Or.inr (q _ nw_75)
      | 5, 0, _, _, _ => exact Or.inr (q _ nw_86)
      | 5, 1, _, _, _ => exact Or.inr (q _ nw_87)
      | 5, 2, _, _, _ => exact Or.inr (q _ nw_88)
      | 5, 3, _, _, _ => exact Or.inr (q _ nw_89)
      | 5, 4, _, _, _ => exact Or.inr (q _ nw_90)
      | 5, 5, _, _, hij => exact absurd rfl hij
      | 5, 6, _, _, _ => exact Or.inl (q _ nw_102)
      | 5, 7, _, _, _ => exact Or.inl (q _ nw_114)
      | 5, 8, _, _, _ => exact Or.inr (q _ nw_85)
      | 6, 0, _, _, _ => exact Or.inr (q _ nw_97)
      | 6, 1, _, _, _ => exact Or.inr (q _ nw_98)
      | 6, 2, _, _, _ => exact Or.inr (q _ nw_99)
      | 6, 3, _, _, _ => exact Or.inr (q _ nw_100)
      | 6, 4, _, _, _ => exact Or.inr (q _ nw_101)
      | 6, 5, _, _, _ => exact Or.inr (q _ nw_102)
      | 6, 6, _, _, hij => exact absurd rfl hij
      | 6, 7, _, _, _ => exact Or.inl (q _ nw_115)
      | 6, 8, _, _, _ => exact Or.inr (q _ nw_96)
      | 7, 0, _, _, _ => exact Or.inr (q _ nw_109)
      | 7, 1, _, _, _ => exact Or.inr (q _ nw_110)
      | 7, 2, _, _, _ => exact Or.inr (q _ nw_111)
      | 7, 3, _, _, _ => exact Or.inr (q _ nw_112)
      | 7, 4, _, _, _ => exact Or.inr (q _ nw_113)
      | 7, 5, _, _, _ => exact Or.inr (q _ nw_114)
      | 7, 6, _, _, _ => exact Or.inr (q _ nw_115)
      | 7, 7, _, _, hij => exact absurd rfl hij
      | 7, 8, _, _, _ => exact Or.inr (q _ nw_108)
      | 8, 0, _, _, _ => exact Or.inl (q _ nw_45)
      | 8, 1, _, _, _ => exact Or.inl (q _ nw_51)
      | 8, 2, _, _, _ => exact Or.inl (q _ nw_58)
      | 8, 3, _, _, _ => exact Or.inl (q _ nw_66)
      | 8, 4, _, _, _ => exact Or.inl (q _ nw_75)
      | 8, 5, _, _, _ => exact Or.inl (q _ nw_85)
      | 8, 6, _, _, _ => exact Or.inl (q _ nw_96)
      | 8, 7, _, _, _ => exact Or.inl (q _ nw_108)
      | 8, 8, _, _, hij => exact absurd rfl hij
  obtain ⟨tA, eA, hTA⟩ := va_Tof (args := args) (s := s) (tm := .static "ParkingCircle$Command" "ALL" "[LParkingCircle$Command;") (ty := .object "ParkingCircle$Command") (N := 9) (f := fun k => .ref (evA s args (.static "ParkingCircle$Command" (CMN.getD k "") "LParkingCircle$Command;"))) (A := A) (by decide) (q _ nw_11) (va_eqt (q _ nw_12)) (fun j hi => match j, hi with
    | 0, _ => eq_rev (q _ nw_14) (evA_ex (q _ nw_40))
    | 1, _ => eq_rev (q _ nw_15) (evA_ex (q _ nw_46))
    | 2, _ => eq_rev (q _ nw_16) (evA_ex (q _ nw_53))
    | 3, _ => eq_rev (q _ nw_17) (evA_ex (q _ nw_61))
    | 4, _ => eq_rev (q _ nw_18) (evA_ex (q _ nw_70))
    | 5, _ => eq_rev (q _ nw_19) (evA_ex (q _ nw_80))
    | 6, _ => eq_rev (q _ nw_20) (evA_ex (q _ nw_91))
    | 7, _ => eq_rev (q _ nw_21) (evA_ex (q _ nw_103))
    | 8, _ => eq_rev (q _ nw_22) (evA_ex (q _ nw_23))) hA
  obtain ⟨tW, eW, hTW⟩ := va_Tof (args := args) (s := s) (tm := .static "ParkingCircle$1" "$SwitchMap$ParkingCircle$Command" "[I") (ty := .int) (N := 9) (f := fun k => .int (SWM.getD k 0)) (A := A) (by decide) (q _ nw_29) (va_eqt (q _ nw_30)) (fun j hi => match j, hi with
    | 0, _ => va_eqt (q _ nw_31)
    | 1, _ => va_eqt (q _ nw_32)
    | 2, _ => va_eqt (q _ nw_33)
    | 3, _ => va_eqt (q _ nw_34)
    | 4, _ => va_eqt (q _ nw_35)
    | 5, _ => va_eqt (q _ nw_36)
    | 6, _ => va_eqt (q _ nw_37)
    | 7, _ => va_eqt (q _ nw_38)
    | 8, _ => va_eqt (q _ nw_39)) hA
  refine ⟨stQ s args (fun n => bif Nat.beq n 167 then v167 0 else bif Nat.beq n 187 then v187 0 else bif Nat.beq n 199 then v199 0 else bif Nat.beq n 1071 then v1071 0 else bif Nat.beq n 1077 then v1077 0 else bif Nat.beq n 1080 then v1080 0 else bif Nat.beq n 1083 then v1083 0 else bif Nat.beq n 1086 then v1086 0 else bif Nat.beq n 1089 then v1089 0 else bif Nat.beq n 1092 then v1092 0 else bif Nat.beq n 1095 then v1095 0 else bif Nat.beq n 1098 then v1098 0 else 0), fun qs => ⟨fun w hw => va_Nw.of (NL_tab w hw) (hts w (NL_lw w hw)), va_Nc.of (q _ nw_147), vx_Zqof (hts _ tc3_236) (hts _ (LW_tbl _ tw1_9)) (q _ nw_2) hA, vx_Zqof (hts _ tc3_238) (hts _ (LW_tbl _ tw1_9)) (q _ nw_3) hA, ?_, ?_, hE, ?_, ?_, ?_, ?_, ?_, ?_, ?_⟩⟩
  · exact (List.forall_mem_cons.mpr ⟨vk_R.of (hts _ tc4_10) (evA_ex (q _ nw_175)), (List.forall_mem_cons.mpr ⟨vk_R.of (hts _ tc4_57) (evA_ex (q _ nw_212)), (List.forall_mem_cons.mpr ⟨vk_R.of (hts _ tc4_239) (evA_ex (q _ nw_267)), (List.forall_mem_cons.mpr ⟨vk_R.of (hts _ tc5_49) (evA_ex (q _ nw_292)), (List.forall_mem_cons.mpr ⟨vk_R.of (hts _ tc4_83) (evA_ex (q _ nw_244)), (List.forall_mem_cons.mpr ⟨vk_R.of (hts _ tc4_191) (evA_ex (q _ nw_252)), (List.forall_mem_cons.mpr ⟨vk_R.of (hts _ tc4_201) (evA_ex (q _ nw_260)), (List.forall_mem_cons.mpr ⟨vk_R.of (hts _ tc5_218) (evA_ex (q _ nw_369)), (List.forall_mem_cons.mpr ⟨vk_R.of (hts _ tc5_160) (evA_ex (q _ nw_317)), (List.forall_mem_cons.mpr ⟨vk_R.of (hts _ tc5_201) (evA_ex (q _ nw_345)), (List.forall_mem_cons.mpr ⟨vk_R.of (hts _ tc5_230) (evA_ex (q _ nw_397)), (List.forall_mem_cons.mpr ⟨vk_R.of (hts _ tc6_68) (evA_ex (q _ nw_475)), (List.forall_mem_cons.mpr ⟨vk_R.of (hts _ tc6_105) (evA_ex (q _ nw_501)), (List.forall_mem_cons.mpr ⟨vk_R.of (hts _ tc6_16) (evA_ex (q _ nw_422)), (List.forall_mem_cons.mpr ⟨vk_R.of (hts _ tc6_47) (evA_ex (q _ nw_450)), (List.forall_mem_cons.mpr ⟨vk_R.of (hts _ tc6_131) (evA_ex (q _ nw_519)), (List.forall_mem_cons.mpr ⟨vk_R.of (hts _ tc6_146) (evA_ex (q _ nw_554)), (List.forall_mem_cons.mpr ⟨vk_R.of (hts _ tc6_168) (evA_ex (q _ nw_599)), (List.forall_mem_cons.mpr ⟨vk_R.of (hts _ tc6_176) (evA_ex (q _ nw_627)), (List.forall_mem_cons.mpr ⟨vk_R.of (hts _ tc6_185) (evA_ex (q _ nw_658)), (fun _ h => nomatch h)⟩)⟩)⟩)⟩)⟩)⟩)⟩)⟩)⟩)⟩)⟩)⟩)⟩)⟩)⟩)⟩)⟩)⟩)⟩)⟩)
  · exact (List.forall_mem_cons.mpr ⟨S_mk (n := 0) (k := 0) (own := "") a167 (evA_eq (b167 0 (by decide))).symm, (List.forall_mem_cons.mpr ⟨S_mk (n := 0) (k := 0) (own := "") a187 (evA_eq (b187 0 (by decide))).symm, (List.forall_mem_cons.mpr ⟨S_mk (n := 0) (k := 0) (own := "") a199 (evA_eq (b199 0 (by decide))).symm, (List.forall_mem_cons.mpr ⟨S_mk (n := 0) (k := 0) (own := "") a1071 (evA_eq (b1071 0 (by decide))).symm, (List.forall_mem_cons.mpr ⟨S_mk (n := 0) (k := 0) (own := "") a1077 (evA_eq (b1077 0 (by decide))).symm, (List.forall_mem_cons.mpr ⟨S_mk (n := 0) (k := 0) (own := "") a1080 (evA_eq (b1080 0 (by decide))).symm, (List.forall_mem_cons.mpr ⟨S_mk (n := 0) (k := 0) (own := "") a1083 (evA_eq (b1083 0 (by decide))).symm, (List.forall_mem_cons.mpr ⟨S_mk (n := 0) (k := 0) (own := "") a1086 (evA_eq (b1086 0 (by decide))).symm, (List.forall_mem_cons.mpr ⟨S_mk (n := 0) (k := 0) (own := "") a1089 (evA_eq (b1089 0 (by decide))).symm, (List.forall_mem_cons.mpr ⟨S_mk (n := 0) (k := 0) (own := "") a1092 (evA_eq (b1092 0 (by decide))).symm, (List.forall_mem_cons.mpr ⟨S_mk (n := 0) (k := 0) (own := "") a1095 (evA_eq (b1095 0 (by decide))).symm, (List.forall_mem_cons.mpr ⟨S_mk (n := 0) (k := 0) (own := "") a1098 (evA_eq (b1098 0 (by decide))).symm, (fun _ h => nomatch h)⟩)⟩)⟩)⟩)⟩)⟩)⟩)⟩)⟩)⟩)⟩)⟩)
  · exact (fun k hi => match k, hi with
    | 0, _ => vk_OFof (evA_ex (q _ nw_40)) (eq_rev (q _ nw_42) (evA_ex (q _ nw_689))) hA
    | 1, _ => vk_OFof (evA_ex (q _ nw_46)) (eq_rev (q _ nw_48) (evA_ex (q _ nw_699))) hA
    | 2, _ => vk_OFof (evA_ex (q _ nw_53)) (eq_rev (q _ nw_55) (evA_ex (q _ nw_707))) hA
    | 3, _ => vk_OFof (evA_ex (q _ nw_61)) (eq_rev (q _ nw_63) (evA_ex (q _ nw_715))) hA
    | 4, _ => vk_OFof (evA_ex (q _ nw_70)) (eq_rev (q _ nw_72) (evA_ex (q _ nw_724))) hA
    | 5, _ => vk_OFof (evA_ex (q _ nw_80)) (eq_rev (q _ nw_82) (evA_ex (q _ nw_732))) hA
    | 6, _ => vk_OFof (evA_ex (q _ nw_91)) (eq_rev (q _ nw_93) (evA_ex (q _ nw_738))) hA
    | 7, _ => vk_OFof (evA_ex (q _ nw_103)) (eq_rev (q _ nw_105) (evA_ex (q _ nw_746))) hA
    | 8, _ => vk_OFof (evA_ex (q _ nw_23)) (eq_rev (q _ nw_25) (evA_ex (q _ nw_679))) hA)
  · exact va_Zref (hts _ tc5_33) hini (evA_ex (q _ nw_10)) hA
  · rw [← evA_eq eA] at hTA
    exact hTA
  · exact va_Zref (hts _ tc5_84) (hts _ (LW_tbl _ tw1_21)) (by have e := evA_eq eW; rw [← e] at eW; exact eW) hA
  · rw [← evA_eq eW] at hTW
    exact hTW
  · exact va_Zof (hts _ tc4_130) (hts _ (LW_tbl _ tw1_14)) (va_eqi (q _ nw_4)) hA
  · exact va_Zqof (hts _ tc4_146) (hts _ (LW_tbl _ tw1_16)) (q _ nw_5) hA
