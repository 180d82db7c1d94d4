section THROWS
variable {p : Program} {l : Launch} {e : Env} {R : Room} {s : State} {m : MethodId} {args : Array Value} {below : List Frame} {meth : Method} {c : Code} {D : va_G} {loc : Rf → Nat} {cy : Nat → ClassId} {A : Nat → Prop} {cc : ByteArray} {nL : Nat} {ret : Option FieldType} {own : String} {fr lo cb sb : Nat} {Qof : RR → State → Prop} {α : Type} {RF : α → Option RR} {kn : Nat × Nat} {pc : Nat} {L : List (Nat × Value)} {S : List Value} {h : HD} {X : α}
theorem nl_use (hC : Cx p l e R s m args meth c D loc cy A cc nL ret own fr lo cb sb) : ∀ w ∈ NL, w.before args s = true := fun w hw => va_Nw.use (NL_tab w hw) (hC.2.2.2.2.2.2.2.2.2.2.1.1 w hw)
theorem lw_use (hC : Cx p l e R s m args meth c D loc cy A cc nL ret own fr lo cb sb) {w : Cond} (hw : w ∈ LW) : w.before args s = true := hC.2.2.2.2.2.1 w hw
theorem aw_throw0 {is sid mc ms : Nat} {text : String} (hC : Cx p l e R s m args meth c D loc cy A cc nL ret RX8 fr lo cb sb) (hxt : ∀ x, x ∈ c.exceptionTable.toList → False) (d0 : decode cc pc = .ok (.new 104, 3)) (d3 : decode cc (pc + 3) = .ok (.dup, 1)) (d4 : decode cc (pc + 4) = .ok (.ldc is, 2)) (d7 : decode cc (pc + 6) = .ok (.invokespecial 108, 3)) (d10 : decode cc (pc + 9) = .ok (.athrow, 1)) (hk : Cond.classLink RX8 104 "java/lang/IllegalStateException" ∈ LW) (hi : Cond.initialized "java/lang/IllegalStateException" ∈ LW) (hs : (RX8, is, text, sid) ∈ STR) (hfr : Nat.ble 6 fr = true) (hlo : Nat.ble ((S.map fun v => v.category).sum + 82) lo = true) (hcb : Nat.ble (kn.1 + 1) cb = true) (hsb : Nat.ble (kn.2 + 6) sb = true) (hmc : Nat.ble (kn.1 + 1) mc = true) (hms : Nat.ble (kn.2 + 6) ms = true) (hX : RF X = some (.inl 0, h)) : AW p l e R s m args below meth c D loc cy A nL (QX below D loc cy A args s mc ms) RF (kn) (pc) (L) (S) (h) (X) := by
  intro rr hr H locs ls hM hS hl
  rw [hX] at hr
  cases hr
  have hSt := hC.2.2.2.2.2.2.2.2.2.2.1
  have hR := hC.2.2.2.2.2.2.2.2.2.2.2.2.2
  have hat : ∀ w ∈ vx_atS RX8 108 "java/lang/IllegalStateException" ["java/lang/RuntimeException", "java/lang/Exception"], w.before args s = true := vx_hat (fun w hw => hC.2.2.2.2.2.1 w (lwm (at_in0 w hw) (List.mem_filter.mp hw).2)) at_no0 (nl_use hC)
  have h6 := Nat.le_of_ble_eq_true hfr
  have hb1 := Nat.le_of_ble_eq_true hlo
  refine vx_throwS hC.1 hC.2.1 hC.2.2.2.2.2.2.2.2.2.2.2.2.1 hC.2.2.2.2.1 (by decide +kernel) (by decide +kernel) (lw_use hC hk) (lw_use hC hi) (hSt.2.2.2.2.1 _ hs) hat at_ot0 hSt.2.2.1 hSt.2.2.2.1 hS (hl.1.trans hC.2.2.1.symm) d0 d3 d4 d7 d10 (fun x hx => (hxt x hx).elim) (Nat.lt_of_lt_of_le (by decide : 5 < 6) (Nat.le_trans h6 hR.1)) (Nat.le_trans hb1 hR.2.1) (Nat.le_trans (Nat.le_of_ble_eq_true hcb) hR.2.2.1) (Nat.le_trans (Nat.le_of_ble_eq_true hsb) hR.2.2.2) hC.2.2.2.2.2.2.2.2.2.2.2.1 (fun t _ hz hq => ⟨0, rfl, rfl, ⟨hM.1.kept (fun k q hk => hq q.1 (hM.1 k q hk).lt), hM.2⟩, Nat.le_trans hS.1 hz, fun q h1 h2 => (hq q (Nat.lt_of_lt_of_le h1 hS.1)).trans (hS.2.1 q h1 h2)⟩) hS.2.2 (Nat.le_of_ble_eq_true hmc) (Nat.le_of_ble_eq_true hms)
theorem aw_throw0w {is sid mc ms : Nat} {text : String} (hC : Cx p l e R s m args meth c D loc cy A cc nL ret RX8 fr lo cb sb) (hxt : ∀ x, x ∈ c.exceptionTable.toList → False) (d0 : decode cc pc = .ok (.new 104, 3)) (d3 : decode cc (pc + 3) = .ok (.dup, 1)) (d4 : decode cc (pc + 4) = .ok (.ldc_w is, 3)) (d7 : decode cc (pc + 7) = .ok (.invokespecial 108, 3)) (d10 : decode cc (pc + 10) = .ok (.athrow, 1)) (hk : Cond.classLink RX8 104 "java/lang/IllegalStateException" ∈ LW) (hi : Cond.initialized "java/lang/IllegalStateException" ∈ LW) (hs : (RX8, is, text, sid) ∈ STR) (hfr : Nat.ble 6 fr = true) (hlo : Nat.ble ((S.map fun v => v.category).sum + 82) lo = true) (hcb : Nat.ble (kn.1 + 1) cb = true) (hsb : Nat.ble (kn.2 + 6) sb = true) (hmc : Nat.ble (kn.1 + 1) mc = true) (hms : Nat.ble (kn.2 + 6) ms = true) (hX : RF X = some (.inl 0, h)) : AW p l e R s m args below meth c D loc cy A nL (QX below D loc cy A args s mc ms) RF (kn) (pc) (L) (S) (h) (X) := by
  intro rr hr H locs ls hM hS hl
  rw [hX] at hr
  cases hr
  have hSt := hC.2.2.2.2.2.2.2.2.2.2.1
  have hR := hC.2.2.2.2.2.2.2.2.2.2.2.2.2
  have hat : ∀ w ∈ vx_atS RX8 108 "java/lang/IllegalStateException" ["java/lang/RuntimeException", "java/lang/Exception"], w.before args s = true := vx_hat (fun w hw => hC.2.2.2.2.2.1 w (lwm (at_in0 w hw) (List.mem_filter.mp hw).2)) at_no0 (nl_use hC)
  have h6 := Nat.le_of_ble_eq_true hfr
  have hb1 := Nat.le_of_ble_eq_true hlo
  refine vx_throwSW hC.1 hC.2.1 hC.2.2.2.2.2.2.2.2.2.2.2.2.1 hC.2.2.2.2.1 (by decide +kernel) (by decide +kernel) (lw_use hC hk) (lw_use hC hi) (hSt.2.2.2.2.1 _ hs) hat at_ot0 hSt.2.2.1 hSt.2.2.2.1 hS (hl.1.trans hC.2.2.1.symm) d0 d3 d4 d7 d10 (fun x hx => (hxt x hx).elim) (Nat.lt_of_lt_of_le (by decide : 5 < 6) (Nat.le_trans h6 hR.1)) (Nat.le_trans hb1 hR.2.1) (Nat.le_trans (Nat.le_of_ble_eq_true hcb) hR.2.2.1) (Nat.le_trans (Nat.le_of_ble_eq_true hsb) hR.2.2.2) hC.2.2.2.2.2.2.2.2.2.2.2.1 (fun t _ hz hq => ⟨0, rfl, rfl, ⟨hM.1.kept (fun k q hk => hq q.1 (hM.1 k q hk).lt), hM.2⟩, Nat.le_trans hS.1 hz, fun q h1 h2 => (hq q (Nat.lt_of_lt_of_le h1 hS.1)).trans (hS.2.1 q h1 h2)⟩) hS.2.2 (Nat.le_of_ble_eq_true hmc) (Nat.le_of_ble_eq_true hms)
theorem aw_throw1 {is sid mc ms : Nat} {text : String} (hC : Cx p l e R s m args meth c D loc cy A cc nL ret RX8 fr lo cb sb) (hxt : ∀ x, x ∈ c.exceptionTable.toList → False) (d0 : decode cc pc = .ok (.new 114, 3)) (d3 : decode cc (pc + 3) = .ok (.dup, 1)) (d4 : decode cc (pc + 4) = .ok (.ldc is, 2)) (d7 : decode cc (pc + 6) = .ok (.invokespecial 118, 3)) (d10 : decode cc (pc + 9) = .ok (.athrow, 1)) (hk : Cond.classLink RX8 114 "java/lang/IllegalArgumentException" ∈ LW) (hi : Cond.initialized "java/lang/IllegalArgumentException" ∈ LW) (hs : (RX8, is, text, sid) ∈ STR) (hfr : Nat.ble 6 fr = true) (hlo : Nat.ble ((S.map fun v => v.category).sum + 82) lo = true) (hcb : Nat.ble (kn.1 + 1) cb = true) (hsb : Nat.ble (kn.2 + 6) sb = true) (hmc : Nat.ble (kn.1 + 1) mc = true) (hms : Nat.ble (kn.2 + 6) ms = true) (hX : RF X = some (.inl 1, h)) : AW p l e R s m args below meth c D loc cy A nL (QX below D loc cy A args s mc ms) RF (kn) (pc) (L) (S) (h) (X) := by
  intro rr hr H locs ls hM hS hl
  rw [hX] at hr
  cases hr
  have hSt := hC.2.2.2.2.2.2.2.2.2.2.1
  have hR := hC.2.2.2.2.2.2.2.2.2.2.2.2.2
  have hat : ∀ w ∈ vx_atS RX8 118 "java/lang/IllegalArgumentException" ["java/lang/RuntimeException", "java/lang/Exception"], w.before args s = true := vx_hat (fun w hw => hC.2.2.2.2.2.1 w (lwm (at_in1 w hw) (List.mem_filter.mp hw).2)) at_no1 (nl_use hC)
  have h6 := Nat.le_of_ble_eq_true hfr
  have hb1 := Nat.le_of_ble_eq_true hlo
  refine vx_throwS hC.1 hC.2.1 hC.2.2.2.2.2.2.2.2.2.2.2.2.1 hC.2.2.2.2.1 (by decide +kernel) (by decide +kernel) (lw_use hC hk) (lw_use hC hi) (hSt.2.2.2.2.1 _ hs) hat at_ot1 hSt.2.2.1 hSt.2.2.2.1 hS (hl.1.trans hC.2.2.1.symm) d0 d3 d4 d7 d10 (fun x hx => (hxt x hx).elim) (Nat.lt_of_lt_of_le (by decide : 5 < 6) (Nat.le_trans h6 hR.1)) (Nat.le_trans hb1 hR.2.1) (Nat.le_trans (Nat.le_of_ble_eq_true hcb) hR.2.2.1) (Nat.le_trans (Nat.le_of_ble_eq_true hsb) hR.2.2.2) hC.2.2.2.2.2.2.2.2.2.2.2.1 (fun t _ hz hq => ⟨1, rfl, rfl, ⟨hM.1.kept (fun k q hk => hq q.1 (hM.1 k q hk).lt), hM.2⟩, Nat.le_trans hS.1 hz, fun q h1 h2 => (hq q (Nat.lt_of_lt_of_le h1 hS.1)).trans (hS.2.1 q h1 h2)⟩) hS.2.2 (Nat.le_of_ble_eq_true hmc) (Nat.le_of_ble_eq_true hms)
theorem aw_throw1w {is sid mc ms : Nat} {text : String} (hC : Cx p l e R s m args meth c D loc cy A cc nL ret RX8 fr lo cb sb) (hxt : ∀ x, x ∈ c.exceptionTable.toList → False) (d0 : decode cc pc = .ok (.new 114, 3)) (d3 : decode cc (pc + 3) = .ok (.dup, 1)) (d4 : decode cc (pc + 4) = .ok (.ldc_w is, 3)) (d7 : decode cc (pc + 7) = .ok (.invokespecial 118, 3)) (d10 : decode cc (pc + 10) = .ok (.athrow, 1)) (hk : Cond.classLink RX8 114 "java/lang/IllegalArgumentException" ∈ LW) (hi : Cond.initialized "java/lang/IllegalArgumentException" ∈ LW) (hs : (RX8, is, text, sid) ∈ STR) (hfr : Nat.ble 6 fr = true) (hlo : Nat.ble ((S.map fun v => v.category).sum + 82) lo = true) (hcb : Nat.ble (kn.1 + 1) cb = true) (hsb : Nat.ble (kn.2 + 6) sb = true) (hmc : Nat.ble (kn.1 + 1) mc = true) (hms : Nat.ble (kn.2 + 6) ms = true) (hX : RF X = some (.inl 1, h)) : AW p l e R s m args below meth c D loc cy A nL (QX below D loc cy A args s mc ms) RF (kn) (pc) (L) (S) (h) (X) := by
  intro rr hr H locs ls hM hS hl
  rw [hX] at hr
  cases hr
  have hSt := hC.2.2.2.2.2.2.2.2.2.2.1
  have hR := hC.2.2.2.2.2.2.2.2.2.2.2.2.2
  have hat : ∀ w ∈ vx_atS RX8 118 "java/lang/IllegalArgumentException" ["java/lang/RuntimeException", "java/lang/Exception"], w.before args s = true := vx_hat (fun w hw => hC.2.2.2.2.2.1 w (lwm (at_in1 w hw) (List.mem_filter.mp hw).2)) at_no1 (nl_use hC)
  have h6 := Nat.le_of_ble_eq_true hfr
  have hb1 := Nat.le_of_ble_eq_true hlo
  refine vx_throwSW hC.1 hC.2.1 hC.2.2.2.2.2.2.2.2.2.2.2.2.1 hC.2.2.2.2.1 (by decide +kernel) (by decide +kernel) (lw_use hC hk) (lw_use hC hi) (hSt.2.2.2.2.1 _ hs) hat at_ot1 hSt.2.2.1 hSt.2.2.2.1 hS (hl.1.trans hC.2.2.1.symm) d0 d3 d4 d7 d10 (fun x hx => (hxt x hx).elim) (Nat.lt_of_lt_of_le (by decide : 5 < 6) (Nat.le_trans h6 hR.1)) (Nat.le_trans hb1 hR.2.1) (Nat.le_trans (Nat.le_of_ble_eq_true hcb) hR.2.2.1) (Nat.le_trans (Nat.le_of_ble_eq_true hsb) hR.2.2.2) hC.2.2.2.2.2.2.2.2.2.2.2.1 (fun t _ hz hq => ⟨1, rfl, rfl, ⟨hM.1.kept (fun k q hk => hq q.1 (hM.1 k q hk).lt), hM.2⟩, Nat.le_trans hS.1 hz, fun q h1 h2 => (hq q (Nat.lt_of_lt_of_le h1 hS.1)).trans (hS.2.1 q h1 h2)⟩) hS.2.2 (Nat.le_of_ble_eq_true hmc) (Nat.le_of_ble_eq_true hms)
theorem aw_throw2 {is sid mc ms : Nat} {text : String} (hC : Cx p l e R s m args meth c D loc cy A cc nL ret RX8 fr lo cb sb) (hxt : ∀ x, x ∈ c.exceptionTable.toList → False) (d0 : decode cc pc = .ok (.new 334, 3)) (d3 : decode cc (pc + 3) = .ok (.dup, 1)) (d4 : decode cc (pc + 4) = .ok (.ldc is, 2)) (d7 : decode cc (pc + 6) = .ok (.invokespecial 338, 3)) (d10 : decode cc (pc + 9) = .ok (.athrow, 1)) (hk : Cond.classLink RX8 334 "java/lang/IndexOutOfBoundsException" ∈ LW) (hi : Cond.initialized "java/lang/IndexOutOfBoundsException" ∈ LW) (hs : (RX8, is, text, sid) ∈ STR) (hfr : Nat.ble 6 fr = true) (hlo : Nat.ble ((S.map fun v => v.category).sum + 82) lo = true) (hcb : Nat.ble (kn.1 + 1) cb = true) (hsb : Nat.ble (kn.2 + 6) sb = true) (hmc : Nat.ble (kn.1 + 1) mc = true) (hms : Nat.ble (kn.2 + 6) ms = true) (hX : RF X = some (.inl 2, h)) : AW p l e R s m args below meth c D loc cy A nL (QX below D loc cy A args s mc ms) RF (kn) (pc) (L) (S) (h) (X) := by
  intro rr hr H locs ls hM hS hl
  rw [hX] at hr
  cases hr
  have hSt := hC.2.2.2.2.2.2.2.2.2.2.1
  have hR := hC.2.2.2.2.2.2.2.2.2.2.2.2.2
  have hat : ∀ w ∈ vx_atS RX8 338 "java/lang/IndexOutOfBoundsException" ["java/lang/RuntimeException", "java/lang/Exception"], w.before args s = true := vx_hat (fun w hw => hC.2.2.2.2.2.1 w (lwm (at_in2 w hw) (List.mem_filter.mp hw).2)) at_no2 (nl_use hC)
  have h6 := Nat.le_of_ble_eq_true hfr
  have hb1 := Nat.le_of_ble_eq_true hlo
  refine vx_throwS hC.1 hC.2.1 hC.2.2.2.2.2.2.2.2.2.2.2.2.1 hC.2.2.2.2.1 (by decide +kernel) (by decide +kernel) (lw_use hC hk) (lw_use hC hi) (hSt.2.2.2.2.1 _ hs) hat at_ot2 hSt.2.2.1 hSt.2.2.2.1 hS (hl.1.trans hC.2.2.1.symm) d0 d3 d4 d7 d10 (fun x hx => (hxt x hx).elim) (Nat.lt_of_lt_of_le (by decide : 5 < 6) (Nat.le_trans h6 hR.1)) (Nat.le_trans hb1 hR.2.1) (Nat.le_trans (Nat.le_of_ble_eq_true hcb) hR.2.2.1) (Nat.le_trans (Nat.le_of_ble_eq_true hsb) hR.2.2.2) hC.2.2.2.2.2.2.2.2.2.2.2.1 (fun t _ hz hq => ⟨2, rfl, rfl, ⟨hM.1.kept (fun k q hk => hq q.1 (hM.1 k q hk).lt), hM.2⟩, Nat.le_trans hS.1 hz, fun q h1 h2 => (hq q (Nat.lt_of_lt_of_le h1 hS.1)).trans (hS.2.1 q h1 h2)⟩) hS.2.2 (Nat.le_of_ble_eq_true hmc) (Nat.le_of_ble_eq_true hms)
theorem aw_throw2w {is sid mc ms : Nat} {text : String} (hC : Cx p l e R s m args meth c D loc cy A cc nL ret RX8 fr lo cb sb) (hxt : ∀ x, x ∈ c.exceptionTable.toList → False) (d0 : decode cc pc = .ok (.new 334, 3)) (d3 : decode cc (pc + 3) = .ok (.dup, 1)) (d4 : decode cc (pc + 4) = .ok (.ldc_w is, 3)) (d7 : decode cc (pc + 7) = .ok (.invokespecial 338, 3)) (d10 : decode cc (pc + 10) = .ok (.athrow, 1)) (hk : Cond.classLink RX8 334 "java/lang/IndexOutOfBoundsException" ∈ LW) (hi : Cond.initialized "java/lang/IndexOutOfBoundsException" ∈ LW) (hs : (RX8, is, text, sid) ∈ STR) (hfr : Nat.ble 6 fr = true) (hlo : Nat.ble ((S.map fun v => v.category).sum + 82) lo = true) (hcb : Nat.ble (kn.1 + 1) cb = true) (hsb : Nat.ble (kn.2 + 6) sb = true) (hmc : Nat.ble (kn.1 + 1) mc = true) (hms : Nat.ble (kn.2 + 6) ms = true) (hX : RF X = some (.inl 2, h)) : AW p l e R s m args below meth c D loc cy A nL (QX below D loc cy A args s mc ms) RF (kn) (pc) (L) (S) (h) (X) := by
  intro rr hr H locs ls hM hS hl
  rw [hX] at hr
  cases hr
  have hSt := hC.2.2.2.2.2.2.2.2.2.2.1
  have hR := hC.2.2.2.2.2.2.2.2.2.2.2.2.2
  have hat : ∀ w ∈ vx_atS RX8 338 "java/lang/IndexOutOfBoundsException" ["java/lang/RuntimeException", "java/lang/Exception"], w.before args s = true := vx_hat (fun w hw => hC.2.2.2.2.2.1 w (lwm (at_in2 w hw) (List.mem_filter.mp hw).2)) at_no2 (nl_use hC)
  have h6 := Nat.le_of_ble_eq_true hfr
  have hb1 := Nat.le_of_ble_eq_true hlo
  refine vx_throwSW hC.1 hC.2.1 hC.2.2.2.2.2.2.2.2.2.2.2.2.1 hC.2.2.2.2.1 (by decide +kernel) (by decide +kernel) (lw_use hC hk) (lw_use hC hi) (hSt.2.2.2.2.1 _ hs) hat at_ot2 hSt.2.2.1 hSt.2.2.2.1 hS (hl.1.trans hC.2.2.1.symm) d0 d3 d4 d7 d10 (fun x hx => (hxt x hx).elim) (Nat.lt_of_lt_of_le (by decide : 5 < 6) (Nat.le_trans h6 hR.1)) (Nat.le_trans hb1 hR.2.1) (Nat.le_trans (Nat.le_of_ble_eq_true hcb) hR.2.2.1) (Nat.le_trans (Nat.le_of_ble_eq_true hsb) hR.2.2.2) hC.2.2.2.2.2.2.2.2.2.2.2.1 (fun t _ hz hq => ⟨2, rfl, rfl, ⟨hM.1.kept (fun k q hk => hq q.1 (hM.1 k q hk).lt), hM.2⟩, Nat.le_trans hS.1 hz, fun q h1 h2 => (hq q (Nat.lt_of_lt_of_le h1 hS.1)).trans (hS.2.1 q h1 h2)⟩) hS.2.2 (Nat.le_of_ble_eq_true hmc) (Nat.le_of_ble_eq_true hms)
theorem qx_of {mc ms : Nat} {k n : Nat} {rv : Option Value} {pcF : JFrame} {H : Heap} {locs : List Loc} {kn2 : Nat × Nat} (h1 : kn2.1 ≤ mc) (h2 : kn2.2 ≤ ms) (kk : W p l e R s m args below meth c H locs mc ms (MQ below (QC D loc cy A (.inr rv, h)) args s mc ms A) pcF) : W p l e R s m args below meth c H locs kn2.1 kn2.2 (QX below D loc cy A args s mc ms (.inr rv, h)) pcF := W.widen h1 h2 (vx_ret kk)
theorem aw_ireX {v : Int32} {mc ms : Nat} (hC : Cx p l e R s m args meth c D loc cy A cc nL ret own fr lo cb sb) (hd : decode cc pc = .ok (.ireturn, 1)) (hr0 : ret = some .int) (hmc : Nat.ble kn.1 mc = true) (hms : Nat.ble kn.2 ms = true) (hX : RF X = some (.inr (some (.int v)), h)) : AW p l e R s m args below meth c D loc cy A nL (QX below D loc cy A args s mc ms) RF (kn) (pc) (L) ([.int v]) (h) (X) := by
  intro rr hr H locs ls hM hS hl
  rw [hX] at hr
  cases hr
  exact W.widen (Nat.le_of_ble_eq_true hmc) (Nat.le_of_ble_eq_true hms) (vx_ret (W.iret hC.1 hC.2.1 (hC.2.2.2.1.trans hr0) (fun t ht _ => ⟨_, rfl, rfl, by rw [ht]; exact hM, hS.F ht⟩) hS.2.2 hd hC.2.2.2.2.2.2.2.2.2.2.2.1))
theorem aw_lreX {v : Int64} {mc ms : Nat} (hC : Cx p l e R s m args meth c D loc cy A cc nL ret own fr lo cb sb) (hd : decode cc pc = .ok (.lreturn, 1)) (hr0 : ret = some .long) (hmc : Nat.ble kn.1 mc = true) (hms : Nat.ble kn.2 ms = true) (hX : RF X = some (.inr (some (.long v)), h)) : AW p l e R s m args below meth c D loc cy A nL (QX below D loc cy A args s mc ms) RF (kn) (pc) (L) ([.long v]) (h) (X) := by
  intro rr hr H locs ls hM hS hl
  rw [hX] at hr
  cases hr
  exact W.widen (Nat.le_of_ble_eq_true hmc) (Nat.le_of_ble_eq_true hms) (vx_ret (W.lret hC.1 hC.2.1 (hC.2.2.2.1.trans hr0) (fun t ht _ => ⟨_, rfl, rfl, by rw [ht]; exact hM, hS.F ht⟩) hS.2.2 hd hC.2.2.2.2.2.2.2.2.2.2.2.1))
theorem aw_freX {v : UInt32} {mc ms : Nat} (hC : Cx p l e R s m args meth c D loc cy A cc nL ret own fr lo cb sb) (hd : decode cc pc = .ok (.freturn, 1)) (hr0 : ret = some .float) (hmc : Nat.ble kn.1 mc = true) (hms : Nat.ble kn.2 ms = true) (hX : RF X = some (.inr (some (.float v)), h)) : AW p l e R s m args below meth c D loc cy A nL (QX below D loc cy A args s mc ms) RF (kn) (pc) (L) ([.float v]) (h) (X) := by
  intro rr hr H locs ls hM hS hl
  rw [hX] at hr
  cases hr
  exact W.widen (Nat.le_of_ble_eq_true hmc) (Nat.le_of_ble_eq_true hms) (vx_ret (W.fret hC.1 hC.2.1 (hC.2.2.2.1.trans hr0) (fun t ht _ => ⟨_, rfl, rfl, by rw [ht]; exact hM, hS.F ht⟩) hS.2.2 hd hC.2.2.2.2.2.2.2.2.2.2.2.1))
theorem aw_dreX {v : UInt64} {mc ms : Nat} (hC : Cx p l e R s m args meth c D loc cy A cc nL ret own fr lo cb sb) (hd : decode cc pc = .ok (.dreturn, 1)) (hr0 : ret = some .double) (hmc : Nat.ble kn.1 mc = true) (hms : Nat.ble kn.2 ms = true) (hX : RF X = some (.inr (some (.double v)), h)) : AW p l e R s m args below meth c D loc cy A nL (QX below D loc cy A args s mc ms) RF (kn) (pc) (L) ([.double v]) (h) (X) := by
  intro rr hr H locs ls hM hS hl
  rw [hX] at hr
  cases hr
  exact W.widen (Nat.le_of_ble_eq_true hmc) (Nat.le_of_ble_eq_true hms) (vx_ret (W.dret hC.1 hC.2.1 (hC.2.2.2.1.trans hr0) (fun t ht _ => ⟨_, rfl, rfl, by rw [ht]; exact hM, hS.F ht⟩) hS.2.2 hd hC.2.2.2.2.2.2.2.2.2.2.2.1))
theorem aw_zreX {v : Int32} {b : Bool} {mc ms : Nat} (hC : Cx p l e R s m args meth c D loc cy A cc nL ret own fr lo cb sb) (hd : decode cc pc = .ok (.ireturn, 1)) (hr0 : ret = some .boolean) (hb : v = b2i b) (hmc : Nat.ble kn.1 mc = true) (hms : Nat.ble kn.2 ms = true) (hX : RF X = some (.inr (some (.int (b2i b))), h)) : AW p l e R s m args below meth c D loc cy A nL (QX below D loc cy A args s mc ms) RF (kn) (pc) (L) ([.int v]) (h) (X) := by
  intro rr hr H locs ls hM hS hl
  rw [hX] at hr
  cases hr
  subst hb
  exact W.widen (Nat.le_of_ble_eq_true hmc) (Nat.le_of_ble_eq_true hms) (vx_ret (W.zret hC.1 hC.2.1 (hC.2.2.2.1.trans hr0) (by cases b <;> decide) (fun t ht _ => ⟨_, rfl, rfl, by rw [ht]; exact hM, hS.F ht⟩) hS.2.2 hd hC.2.2.2.2.2.2.2.2.2.2.2.1))
theorem aw_vreX {mc ms : Nat} (hC : Cx p l e R s m args meth c D loc cy A cc nL ret own fr lo cb sb) (hd : decode cc pc = .ok (.return_, 1)) (hr0 : ret = none) (hmc : Nat.ble kn.1 mc = true) (hms : Nat.ble kn.2 ms = true) (hX : RF X = some (.inr none, h)) : AW p l e R s m args below meth c D loc cy A nL (QX below D loc cy A args s mc ms) RF (kn) (pc) (L) ([]) (h) (X) := by
  intro rr hr H locs ls hM hS hl
  rw [hX] at hr
  cases hr
  exact W.widen (Nat.le_of_ble_eq_true hmc) (Nat.le_of_ble_eq_true hms) (vx_ret (W.vret hC.1 hC.2.1 (hC.2.2.2.1.trans hr0) (fun t ht _ => ⟨_, rfl, rfl, by rw [ht]; exact hM, hS.F ht⟩) hS.2.2 hd hC.2.2.2.2.2.2.2.2.2.2.2.1))
theorem aw_areX {v : Value} {rt : FieldType} {mc ms : Nat} (hC : Cx p l e R s m args meth c D loc cy A cc nL ret own fr lo cb sb) (hd : decode cc pc = .ok (.areturn, 1)) (hr0 : ret = some rt) (hrt : (∃ n, rt = .object n) ∨ ∃ t, rt = .array t) (hv : v = .null ∨ ∃ a, v = .ref a) (hmc : Nat.ble kn.1 mc = true) (hms : Nat.ble kn.2 ms = true) (hX : RF X = some (.inr (some v), h)) : AW p l e R s m args below meth c D loc cy A nL (QX below D loc cy A args s mc ms) RF (kn) (pc) (L) ([v]) (h) (X) := by
  intro rr hr H locs ls hM hS hl
  rw [hX] at hr
  cases hr
  exact W.widen (Nat.le_of_ble_eq_true hmc) (Nat.le_of_ble_eq_true hms) (vx_ret (W.aret hC.1 hC.2.1 (hC.2.2.2.1.trans hr0) hrt hv (fun t ht _ => ⟨_, rfl, rfl, by rw [ht]; exact hM, hS.F ht⟩) hS.2.2 hd hC.2.2.2.2.2.2.2.2.2.2.2.1))
/-- a call of what may throw: it returns, or it throws on to the caller's own caller -/
theorem aw_runX {rr : RR} {ST : List Value} {a : Array Value} {mc ms mc2 ms2 : Nat} (hC : Cx p l e R s m args meth c D loc cy A cc nL ret own fr lo cb sb) (hxt : ∀ x, x ∈ c.exceptionTable.toList → False)
    (hr : ∀ (H : Heap) (locs : List Loc) (ls : Array Slot), Sim D loc cy h H → va_S A s.heap H locs → lv_has ls nL L → vx_Run p l e R s m args below meth c H locs kn.1 kn.2 mc2 ms2 (F0 m pc ls ST) S (QC D loc cy (Aof loc H.size) rr a) (XQ D loc cy (Aof loc H.size) rr) (Aof loc H.size))
    (h1 : Nat.ble (kn.1 + mc2) mc = true) (h2 : Nat.ble (kn.2 + ms2) ms = true)
    (kx : ∀ n, rr.1 = .inl n → RF X = some (.inl n, rr.2))
    (kk : ∀ rv, rr.1 = .inr rv → AW p l e R s m args below meth c D loc cy A nL (QX below D loc cy A args s mc ms) RF (kn.1 + mc2, kn.2 + ms2) (pc + 3) L (rv.toList ++ S) rr.2 X) : AW p l e R s m args below meth c D loc cy A nL (QX below D loc cy A args s mc ms) RF kn pc L ST h X := by
  intro r9 hr9 H locs ls hM hS hl T hT X0
  have hAA := aof_call hC hS
  have key : ∀ (t T' : State) (L2 : List Loc) (st₀ : State), st₀.heap = H → va_F (Aof loc H.size) st₀ t → T'.heap = t.heap → (∀ q ∈ L2, Aof loc H.size q.base) → va_S A s.heap T'.heap (locs ++ L2) := by
    intro t T' L2 st₀ h0 q4 e1 hL
    obtain ⟨z, k1⟩ := q4
    rw [h0] at z k1
    exact ⟨Nat.le_trans hS.1 (by rw [e1]; exact z), fun q h1 h2 => by rw [e1, k1 q (Nat.lt_of_lt_of_le h1 hS.1) (fun z => h2 (hAA q z))]; exact hS.2.1 q h1 h2, fun q hq => by
      rcases List.mem_append.mp hq with h | h
      · exact hS.2.2 q h
      · exact hAA _ (hL q h)⟩
  rcases hr H locs ls hM hS hl T hT X0 with ⟨v, st₀, t, T', L2, h0, X', hL, e1, e2, ⟨rv2, q1, q2, q3, q4⟩, st⟩ | ⟨q, st₀, t, T', L2, E, ce, h0, X', hL, e1, e2, ⟨n, q1, q2, q3, q4⟩, hce, hcv, hcl, st⟩
  · cases q2
    obtain ⟨t2, a1, b1⟩ := kk v q1 r9 hr9 T'.heap (locs ++ L2) ls (by rw [e1]; exact q3) (key t T' L2 st₀ h0 q4 e1 hL) hl T' rfl X'
    exact ⟨t2, st t2 a1, b1⟩
  · have hS2 := key t T' L2 st₀ h0 q4 e1 hL
    rw [kx n q1] at hr9
    cases hr9
    have ko : vx_W p l e R s m args below meth c T'.heap (locs ++ L2) (kn.1 + mc2) (kn.2 + ms2) (QX below D loc cy A args s mc ms (.inl n, rr.2)) (F0 m pc ls S) q :=
      vx_out (fun x hx => (hxt x hx).elim) hC.2.2.2.2.2.2.2.2.2.2.2.1 (by rw [e1]; exact hce) hcv hcl (fun t9 ht9 _ => ⟨n, rfl, q2, by rw [ht9, e1]; exact q3, hS2.F ht9⟩) hS2.2.2 (Nat.le_of_ble_eq_true h1) (Nat.le_of_ble_eq_true h2)
    obtain ⟨t2, a1, b1⟩ := ko T' rfl X'
    exact ⟨t2, st.trans a1, b1⟩
theorem aw_callXV {idx n mL fr2 lo2 : Nat} {y : MethodName} {bytes : ByteArray} {rt : Option FieldType} {rr : RR} {As ST : List Value} {mc ms mc2 ms2 : Nat} {ci i : Nat} {T : u_T} {N : Nat} (hC : Cx p l e R s m args meth c D loc cy A cc nL ret own fr lo cb sb) (hxt : ∀ x, x ∈ c.exceptionTable.toList → False) (hd : decode cc pc = .ok (.invokevirtual idx, 3)) (hv : CV own idx y bytes mL rt n) (hcl : vwCl[ci]? = some (y.cls, T, N)) (hr0 : (ci, i, 0) ∈ refs) (hA : AX l D loc cy y (Cond.code y bytes mL rt :: LW) fr2 lo2 mc2 ms2 (.ref (loc (ci, i, 0)) :: As) h (some rr)) (hn : As.length = n) (hST : ST = As.reverse ++ .ref (loc (ci, i, 0)) :: S) (hW : Nat.ble ((S.map fun v => v.category).sum) 8 = true) (hf : Nat.ble (fr2 + 1) fr = true) (hlo : Nat.ble (8 + (mL + 11) + lo2) lo = true) (hk : Nat.ble (kn.1 + mc2) cb = true ∧ Nat.ble (kn.2 + ms2) sb = true) (h1 : Nat.ble (kn.1 + mc2) mc = true) (h2 : Nat.ble (kn.2 + ms2) ms = true) (kx : ∀ n, rr.1 = .inl n → RF X = some (.inl n, rr.2)) (kk : ∀ rv, rr.1 = .inr rv → AW p l e R s m args below meth c D loc cy A nL (QX below D loc cy A args s mc ms) RF ((kn.1 + mc2, kn.2 + ms2)) (pc + 3) (L) (rv.toList ++ S) (rr.2) (X)) : AW p l e R s m args below meth c D loc cy A nL (QX below D loc cy A args s mc ms) RF (kn) (pc) (L) (ST) (h) (X) := by
  refine aw_runX hC hxt (fun H locs ls hM hS hl => vx_runV (As := As) (b := loc (ci, i, 0)) (rest := S) ⟨hC.1, hC.2.1, hC.2.2.1, hC.2.2.2.2.1, hC.2.2.2.2.2.1⟩ (hA rr rfl H.size) (cv_of hC hv mc2 ms2 hf hlo) ⟨Wd_blind, rcv_of hC hM hr0 hcl, fun U hU hW => ⟨rfl, wd_call hC hM hS U hU hW⟩⟩ rfl hn hl.1 hST (lv_room (Nat.le_of_ble_eq_true hW)) hd ⟨Nat.le_trans (Nat.le_of_ble_eq_true hk.1) hC.2.2.2.2.2.2.2.2.2.2.2.2.2.2.2.1, Nat.le_trans (Nat.le_of_ble_eq_true hk.2) hC.2.2.2.2.2.2.2.2.2.2.2.2.2.2.2.2⟩) h1 h2 kx kk
theorem aw_mmax {idx : Nat} {x y : Int32} (hC : Cx p l e R s m args meth c D loc cy A cc nL ret own fr lo cb sb) (hd : decode cc pc = .ok (.invokestatic idx, 3)) (h1 : Cond.methodLink own idx Lib.Math.max.name ∈ LW) (h2 : Cond.static Lib.Math.max.name ∈ LW) (h3 : Cond.initialized "java/lang/Math" ∈ LW) (h4 : Cond.code Lib.Math.max.name Lib.Math.max.code 2 (some .int) ∈ LW) (hfr : Nat.ble 1 fr = true) (hlo : Nat.ble ((S.map fun v => v.category).sum + 13) lo = true) (hk : Nat.ble kn.1 cb = true ∧ Nat.ble kn.2 sb = true) (kk : AW p l e R s m args below meth c D loc cy A nL Qof RF (kn) (pc + 3) (L) (.int (if x < y then y else x) :: S) (h) (X)) : AW p l e R s m args below meth c D loc cy A nL Qof RF (kn) (pc) (L) (.int y :: .int x :: S) (h) (X) :=
  fun rr hr H locs ls hM hS hl => va_mmax hC.1 hC.2.1 (hC.2.2.1.trans hl.1.symm) hC.2.2.2.2.1 (lw_use hC h1) (lw_use hC h2) (lw_use hC h3) (lw_use hC h4) (Nat.le_trans (Nat.le_of_ble_eq_true hfr) hC.2.2.2.2.2.2.2.2.2.2.2.2.2.1) (Nat.le_trans (Nat.le_of_ble_eq_true hlo) hC.2.2.2.2.2.2.2.2.2.2.2.2.2.2.1) (Nat.le_trans (Nat.le_of_ble_eq_true hk.1) hC.2.2.2.2.2.2.2.2.2.2.2.2.2.2.2.1) (Nat.le_trans (Nat.le_of_ble_eq_true hk.2) hC.2.2.2.2.2.2.2.2.2.2.2.2.2.2.2.2) hd (kk rr hr H locs ls hM hS hl)
theorem aw_mmin {idx : Nat} {x y : Int32} (hC : Cx p l e R s m args meth c D loc cy A cc nL ret own fr lo cb sb) (hd : decode cc pc = .ok (.invokestatic idx, 3)) (h1 : Cond.methodLink own idx Lib.Math.min.name ∈ LW) (h2 : Cond.static Lib.Math.min.name ∈ LW) (h3 : Cond.initialized "java/lang/Math" ∈ LW) (h4 : Cond.code Lib.Math.min.name Lib.Math.min.code 2 (some .int) ∈ LW) (hfr : Nat.ble 1 fr = true) (hlo : Nat.ble ((S.map fun v => v.category).sum + 13) lo = true) (hk : Nat.ble kn.1 cb = true ∧ Nat.ble kn.2 sb = true) (kk : AW p l e R s m args below meth c D loc cy A nL Qof RF (kn) (pc + 3) (L) (.int (if y < x then y else x) :: S) (h) (X)) : AW p l e R s m args below meth c D loc cy A nL Qof RF (kn) (pc) (L) (.int y :: .int x :: S) (h) (X) :=
  fun rr hr H locs ls hM hS hl => va_mmin hC.1 hC.2.1 (hC.2.2.1.trans hl.1.symm) hC.2.2.2.2.1 (lw_use hC h1) (lw_use hC h2) (lw_use hC h3) (lw_use hC h4) (Nat.le_trans (Nat.le_of_ble_eq_true hfr) hC.2.2.2.2.2.2.2.2.2.2.2.2.2.1) (Nat.le_trans (Nat.le_of_ble_eq_true hlo) hC.2.2.2.2.2.2.2.2.2.2.2.2.2.2.1) (Nat.le_trans (Nat.le_of_ble_eq_true hk.1) hC.2.2.2.2.2.2.2.2.2.2.2.2.2.2.2.1) (Nat.le_trans (Nat.le_of_ble_eq_true hk.2) hC.2.2.2.2.2.2.2.2.2.2.2.2.2.2.2.2) hd (kk rr hr H locs ls hM hS hl)
theorem aw_mabs {idx : Nat} {x : Int32} (hC : Cx p l e R s m args meth c D loc cy A cc nL ret own fr lo cb sb) (hd : decode cc pc = .ok (.invokestatic idx, 3)) (h1 : Cond.methodLink own idx Lib.Math.abs.name ∈ LW) (h2 : Cond.static Lib.Math.abs.name ∈ LW) (h3 : Cond.initialized "java/lang/Math" ∈ LW) (h4 : Cond.code Lib.Math.abs.name Lib.Math.abs.code 1 (some .int) ∈ LW) (hfr : Nat.ble 1 fr = true) (hlo : Nat.ble ((S.map fun v => v.category).sum + 13) lo = true) (hk : Nat.ble kn.1 cb = true ∧ Nat.ble kn.2 sb = true) (kk : AW p l e R s m args below meth c D loc cy A nL Qof RF (kn) (pc + 3) (L) (.int (if 0 ≤ x then x else 0 - x) :: S) (h) (X)) : AW p l e R s m args below meth c D loc cy A nL Qof RF (kn) (pc) (L) (.int x :: S) (h) (X) :=
  fun rr hr H locs ls hM hS hl => va_mabs hC.1 hC.2.1 (hC.2.2.1.trans hl.1.symm) hC.2.2.2.2.1 (lw_use hC h1) (lw_use hC h2) (lw_use hC h3) (lw_use hC h4) (Nat.le_trans (Nat.le_of_ble_eq_true hfr) hC.2.2.2.2.2.2.2.2.2.2.2.2.2.1) (Nat.le_trans (Nat.le_of_ble_eq_true hlo) hC.2.2.2.2.2.2.2.2.2.2.2.2.2.2.1) (Nat.le_trans (Nat.le_of_ble_eq_true hk.1) hC.2.2.2.2.2.2.2.2.2.2.2.2.2.2.2.1) (Nat.le_trans (Nat.le_of_ble_eq_true hk.2) hC.2.2.2.2.2.2.2.2.2.2.2.2.2.2.2.2) hd (kk rr hr H locs ls hM hS hl)
theorem ent_cpI_ne {r r2 : Rf} {a b n : Nat} {rs : Rf} (hp : Nat.beq r.2.2 0 = false) (hn : r2 ≠ r) : ent loc cy (cpI h rs r a b n) r2 = ent loc cy h r2 := by
  refine ent_ne (fun j h0 => ?_) (fun t => ?_)
  · unfold fval cpI
    split
    · exact congrArg Value.int (if_neg (fun q => by rw [← q.1] at hp; cases hp))
    · rfl
    · rfl
  · have e : (cpI h rs r a b n).1 r2 = h.1 r2 := funext fun j => if_neg (fun q => hn q.1)
    unfold arrC
    split <;> first | rfl | exact congrArg Sum.inl e | exact congrArg (fun z => Sum.inr (Sum.inl z)) e
theorem aw_copyI {idx : Nat} {r rs : Rf} {n0 n1 a b k : Nat} {sp dp n : Int32} {F : HD → α} (hC : Cx p l e R s m args meth c D loc cy A cc nL ret own fr lo cb sb) (hd : decode cc pc = .ok (.invokestatic idx, 3)) (h1 : Cond.methodLink own idx arraycopyName ∈ LW) (h2 : Cond.native arraycopyName ∈ LW) (h3 : Cond.static arraycopyName ∈ LW) (h4 : Cond.initialized "java/lang/System" ∈ LW) (hrs : rs ∈ refs) (hps : Nat.beq rs.2.2 0 = false) (hts : arrT rs = (1, n0)) (hr0 : r ∈ refs) (hp : Nat.beq r.2.2 0 = false) (ht : arrT r = (1, n1)) (g1 : ¬ sp < 0) (g2 : ¬ dp < 0) (g3 : ¬ n < 0) (ea : sp.toNatClampNeg = a) (eb : dp.toNatClampNeg = b) (ek : n.toNatClampNeg = k) (g4 : a + k ≤ n0) (g5 : b + k ≤ n1) (hfr : Nat.ble 1 fr = true) (hlo : Nat.ble ((S.map fun v => v.category).sum + (nativeFrameWords "java/lang/System" "arraycopy" 5 + 11)) lo = true) (kk : ∀ h2, AW p l e R s m args below meth c D loc cy A nL Qof RF (kn) (pc + 3) (L) (S) (h2) (F h2)) : AW p l e R s m args below meth c D loc cy A nL Qof RF (kn) (pc) (L) (.int n :: .int dp :: .ref (loc r) :: .int sp :: .ref (loc rs) :: S) (h) (lt (cpI h rs r a b k) F) := by
  intro rr hr H locs ls hM hS hl
  obtain ⟨q, -, hq⟩ := wsl_at (loc := loc) (cy := cy) h hrs
  obtain ⟨q2, hq0, hq2⟩ := wsl_at (loc := loc) (cy := cy) h hr0
  rw [ent_arr hps hts] at hq
  have hq3 := hq2
  rw [ent_arr hp ht] at hq3
  subst ea; subst eb; subst ek
  refine va_copyi hC.1 hC.2.1 (hC.2.2.1.trans hl.1.symm) hC.2.2.2.2.1 (lw_use hC h1) (lw_use hC h2) (lw_use hC h3) (lw_use hC h4) hC.2.2.2.2.2.2.1 hM.1 (wsl_D hC.2.2.2.2.2.2.2.1 hC.2.2.2.2.2.2.2.2.1 h) hS q q2 1 1 hq hq3 rfl rfl rfl g1 g2 g3 g4 g5 (fun i _ => rfl) (Nat.le_trans (Nat.le_of_ble_eq_true hfr) hC.2.2.2.2.2.2.2.2.2.2.2.2.2.1) (Nat.le_trans (Nat.le_of_ble_eq_true hlo) hC.2.2.2.2.2.2.2.2.2.2.2.2.2.2.1) hd (fun H1 locs1 hP1 _ hS1 => ?_)
  refine kk (cpI h rs r _ _ _) rr hr H1 locs1 ls (sim_put hq0 ?_ (fun r2 _ hn => ent_cpI_ne hp hn) hM.2.1 hM.2.2 hP1) hS1 hl
  rw [ent_arr hp ht]
  exact congrArg (fun f => Sum.inl (cy 1, n1, Sum.inl f)) (funext fun j => by unfold cpI va_cpy; by_cases e : dp.toNatClampNeg ≤ j ∧ j < dp.toNatClampNeg + n.toNatClampNeg <;> simp [e])
theorem ent_cpJ_ne {r r2 : Rf} {a b n : Nat} {rs : Rf} (hp : Nat.beq r.2.2 0 = false) (hn : r2 ≠ r) : ent loc cy (cpJ h rs r a b n) r2 = ent loc cy h r2 := by
  refine ent_ne (fun j h0 => ?_) (fun t => ?_)
  · unfold fval cpJ
    split
    · rfl
    · exact congrArg Value.long (if_neg (fun q => by rw [← q.1] at hp; cases hp))
    · rfl
  · have e : (cpJ h rs r a b n).2.1 r2 = h.2.1 r2 := funext fun j => if_neg (fun q => hn q.1)
    unfold arrC
    split <;> first | rfl | exact congrArg Sum.inl e | exact congrArg (fun z => Sum.inr (Sum.inl z)) e
theorem aw_copyJ {idx : Nat} {r rs : Rf} {n0 n1 a b k : Nat} {sp dp n : Int32} {F : HD → α} (hC : Cx p l e R s m args meth c D loc cy A cc nL ret own fr lo cb sb) (hd : decode cc pc = .ok (.invokestatic idx, 3)) (h1 : Cond.methodLink own idx arraycopyName ∈ LW) (h2 : Cond.native arraycopyName ∈ LW) (h3 : Cond.static arraycopyName ∈ LW) (h4 : Cond.initialized "java/lang/System" ∈ LW) (hrs : rs ∈ refs) (hps : Nat.beq rs.2.2 0 = false) (hts : arrT rs = (2, n0)) (hr0 : r ∈ refs) (hp : Nat.beq r.2.2 0 = false) (ht : arrT r = (2, n1)) (g1 : ¬ sp < 0) (g2 : ¬ dp < 0) (g3 : ¬ n < 0) (ea : sp.toNatClampNeg = a) (eb : dp.toNatClampNeg = b) (ek : n.toNatClampNeg = k) (g4 : a + k ≤ n0) (g5 : b + k ≤ n1) (hfr : Nat.ble 1 fr = true) (hlo : Nat.ble ((S.map fun v => v.category).sum + (nativeFrameWords "java/lang/System" "arraycopy" 5 + 11)) lo = true) (kk : ∀ h2, AW p l e R s m args below meth c D loc cy A nL Qof RF (kn) (pc + 3) (L) (S) (h2) (F h2)) : AW p l e R s m args below meth c D loc cy A nL Qof RF (kn) (pc) (L) (.int n :: .int dp :: .ref (loc r) :: .int sp :: .ref (loc rs) :: S) (h) (lt (cpJ h rs r a b k) F) := by
  intro rr hr H locs ls hM hS hl
  obtain ⟨q, -, hq⟩ := wsl_at (loc := loc) (cy := cy) h hrs
  obtain ⟨q2, hq0, hq2⟩ := wsl_at (loc := loc) (cy := cy) h hr0
  rw [ent_arr hps hts] at hq
  have hq3 := hq2
  rw [ent_arr hp ht] at hq3
  subst ea; subst eb; subst ek
  refine va_copyl hC.1 hC.2.1 (hC.2.2.1.trans hl.1.symm) hC.2.2.2.2.1 (lw_use hC h1) (lw_use hC h2) (lw_use hC h3) (lw_use hC h4) hC.2.2.2.2.2.2.1 hM.1 (wsl_D hC.2.2.2.2.2.2.2.1 hC.2.2.2.2.2.2.2.2.1 h) hS q q2 2 2 hq hq3 rfl rfl rfl g1 g2 g3 g4 g5 (fun i _ => rfl) (Nat.le_trans (Nat.le_of_ble_eq_true hfr) hC.2.2.2.2.2.2.2.2.2.2.2.2.2.1) (Nat.le_trans (Nat.le_of_ble_eq_true hlo) hC.2.2.2.2.2.2.2.2.2.2.2.2.2.2.1) hd (fun H1 locs1 hP1 _ hS1 => ?_)
  refine kk (cpJ h rs r _ _ _) rr hr H1 locs1 ls (sim_put hq0 ?_ (fun r2 _ hn => ent_cpJ_ne hp hn) hM.2.1 hM.2.2 hP1) hS1 hl
  rw [ent_arr hp ht]
  exact congrArg (fun f => Sum.inl (cy 2, n1, Sum.inr (Sum.inl f))) (funext fun j => by unfold cpJ va_cpy; by_cases e : dp.toNatClampNeg ≤ j ∧ j < dp.toNatClampNeg + n.toNatClampNeg <;> simp [e])
end THROWS
