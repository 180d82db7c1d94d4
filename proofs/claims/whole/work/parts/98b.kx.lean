section IWR4
variable {p : Program} {l : Launch} {e : Env} {R : Room} {s : State} {m : MethodId} {args : Array Value} {below : List Frame} {meth : Method} {c : Code} {D : va_G} {cy : Nat → ClassId} {A : Nat → Prop} {cc : ByteArray} {nL : Nat} {ret : Option FieldType} {own nm : String} {fr lo cb sb : Nat} {Q : State → Prop} {kn : Nat × Nat} {pc : Nat} {L : List (Nat × Value)} {S : List Value} {ws : va_W}
theorem iw_astore_n {k : Fin 4} {x : Nat} (hC : Ix p R s m args meth c D cy A cc nL ret own nm fr lo cb sb) (hd : decode cc pc = .ok (.astore_n k, 1)) (hn : k.val < nL) (kk : IW p l e R s m args below meth c D A nL Q kn (pc + 1) (st1 L k.val (.ref x)) S ws) : IW p l e R s m args below meth c D A nL Q kn pc L (.ref x :: S) ws :=
  fun H locs ls hP hD hS hl => lv_astore_n hC.1 hC.2.1 hd rfl hl hn rfl (fun ls2 hl2 => kk H locs ls2 hP hD hS (lv_st1 hl2))
theorem iw_istore {i : Nat} {x : Int32} (hC : Ix p R s m args meth c D cy A cc nL ret own nm fr lo cb sb) (hd : decode cc pc = .ok (.istore i, 2)) (hn : i < nL) (kk : IW p l e R s m args below meth c D A nL Q kn (pc + 2) (st1 L i (.int x)) S ws) : IW p l e R s m args below meth c D A nL Q kn pc L (.int x :: S) ws :=
  fun H locs ls hP hD hS hl => lv_istore hC.1 hC.2.1 hd hl hn rfl (fun ls2 hl2 => kk H locs ls2 hP hD hS (lv_st1 hl2))
end IWR4
theorem NLI_tab : ∀ w ∈ NLI, w.onTables = true := by decide +kernel
theorem NLI_lw : ∀ w ∈ NLI, w ∈ lw_tbl := by decide +kernel
theorem kx_ok {s : State} {args : Array Value} (hts : ∀ w ∈ lw_tbl, w.before args s = true) : ∃ (D : va_G) (cy : Nat → ClassId), KX D cy s := by
  have ht2 : ∀ w ∈ LW, w.before args s = true := fun w hw => hts w (LW_tbl w hw)
  obtain ⟨c0, j0, k0⟩ := u_known (T := TX1) (N := 2) ht2 inlX1 (ht2 _ tw1_40)
  obtain ⟨c1, j1, k1⟩ := u_known (T := TX2) (N := 4) ht2 inlX2 (ht2 _ tw1_120)
  obtain ⟨c2, j2, k2⟩ := u_known (T := TX4) (N := 9) ht2 inlX4 (ht2 _ tw1_140)
  obtain ⟨c3, j3, k3⟩ := u_known (T := TX5) (N := 7) ht2 inlX5 (ht2 _ tw1_88)
  obtain ⟨c4, j4, k4⟩ := u_known (T := TX6) (N := 9) ht2 inlX6 (ht2 _ tw1_34)
  obtain ⟨c5, j5, k5⟩ := u_known (T := TX7) (N := 9) ht2 inlX7 (ht2 _ tw1_174)
  obtain ⟨c6, j6, k6⟩ := u_known (T := TX8) (N := 19) ht2 inlX8 (ht2 _ tw1_26)
  obtain ⟨c7, j7, k7⟩ := u_known (T := TX9) (N := 51) ht2 inlX9 (ht2 _ tw6_187)
  obtain ⟨a0, ka0, cp0, f0, g0, e0⟩ := Cond.arrayClass_spec (args := args) (first := s) (o := none) (s := s) (idx := []) (type := .byte) (ht2 _ tw1_52)
  obtain ⟨a1, ka1, cp1, f1, g1, e1⟩ := Cond.arrayClass_spec (args := args) (first := s) (o := none) (s := s) (idx := []) (type := .int) (ht2 _ tw1_118)
  obtain ⟨a2, ka2, cp2, f2, g2, e2⟩ := Cond.arrayClass_spec (args := args) (first := s) (o := none) (s := s) (idx := []) (type := .long) (ht2 _ tw1_117)
  obtain ⟨a3, ka3, cp3, f3, g3, e3⟩ := Cond.arrayClass_spec (args := args) (first := s) (o := none) (s := s) (idx := []) (type := .boolean) (ht2 _ tw1_209)
  have hAOA : AOA s := hts _ tc1_180
  obtain ⟨p4, a4, ka4, q4, r4, t4, u4, -, v4⟩ := AOA.spec hAOA
  obtain ⟨p5, a5, ka5, q5, r5, t5, u5, v5⟩ := Cond.arrayOver_spec (args := args) (first := s) (o := none) (s := s) (idx := []) (n := "ParkingCircle$Cars") (hts _ tc1_138)
  obtain ⟨p6, a6, ka6, q6, r6, t6, u6, v6⟩ := Cond.arrayOver_spec (args := args) (first := s) (o := none) (s := s) (idx := []) (n := "ParkingCircle$Command") (hts _ tc1_94)
  refine ⟨(fun i => match i with
    | 0 => c0
    | 1 => c1
    | 2 => c2
    | 3 => c3
    | 4 => c4
    | 5 => c5
    | 6 => c6
    | _ => c7, fun i => match i with
    | 0 => j0
    | 1 => j1
    | 2 => j2
    | 3 => j3
    | 4 => j4
    | 5 => j5
    | 6 => j6
    | _ => j7), fun i => match i with
    | 0 => a0
    | 1 => a1
    | 2 => a2
    | 3 => a3
    | 4 => a4
    | 5 => a5
    | _ => a6, ⟨fun c q hq => ?_, fun k q hq => ?_⟩, va_AO.of (hts _ tc1_94), va_AO.of (hts _ tc1_138), hAOA, fun w hw => va_Nw.of (NLI_tab w hw) (hts w (NLI_lw w hw))⟩
  · match c, hq with
    | 0, hq => cases hq; exact k0
    | 1, hq => cases hq; exact k1
    | 2, hq => cases hq; exact k2
    | 3, hq => cases hq; exact k3
    | 4, hq => cases hq; exact k4
    | 5, hq => cases hq; exact k5
    | 6, hq => cases hq; exact k6
    | 7, hq => cases hq; exact k7
    | n + 8, hq => rw [List.getElem?_eq_none (by show 8 ≤ n + 8; omega)] at hq; cases hq
  · match k, hq with
    | 0, hq => cases hq; exact ⟨fun n z => ⟨fun k h => (by cases h), ka0, g0, cp0, e0⟩, f0⟩
    | 1, hq => cases hq; exact ⟨fun n z => ⟨fun k h => (by cases h), ka1, g1, cp1, e1⟩, f1⟩
    | 2, hq => cases hq; exact ⟨fun n z => ⟨fun k h => (by cases h), ka2, g2, cp2, e2⟩, f2⟩
    | 3, hq => cases hq; exact ⟨fun n z => ⟨fun k h => (by cases h), ka3, g3, cp3, e3⟩, f3⟩
    | 4, hq => cases hq; exact ⟨fun n z => ⟨fun k h => (by cases h), ka4, t4, p4, u4⟩, v4⟩
    | 5, hq => cases hq; exact ⟨fun n z => ⟨fun k h => (by cases h), ka5, t5, p5, u5⟩, ka5, p5, t5, u5, q5, v5⟩
    | 6, hq => cases hq; exact ⟨fun n z => ⟨fun k h => (by cases h), ka6, t6, p6, u6⟩, ka6, p6, t6, u6, q6, v6⟩
    | n + 7, hq => rw [List.getElem?_eq_none (by show 7 ≤ n + 7; omega)] at hq; cases hq

