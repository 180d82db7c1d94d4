section ROWS
variable {p : Program} {l : Launch} {e : Env} {R : Room} {s : State} {m : MethodId} {args : Array Value} {below : List Frame} {meth : Method} {c : Code} {D : va_G} {loc : Rf → Nat} {cy : Nat → ClassId} {A : Nat → Prop} {cc : ByteArray} {nL : Nat} {ret : Option FieldType} {own : String} {fr lo cb sb : Nat} {Qof : RR → State → Prop} {α : Type} {RF : α → Option RR} {kn : Nat × Nat} {pc : Nat} {L : List (Nat × Value)} {S : List Value} {h : HD} {X X1 X2 Z : α}
theorem aw_iload {i : Nat} {x : Int32} (hC : Cx p l e R s m args meth c D loc cy A cc nL ret own fr lo cb sb) (hd : decode cc pc = .ok (.iload i, 2)) (hg : gtL L i = some (.int x)) (kk : AW p l e R s m args below meth c D loc cy A nL Qof RF kn (pc + 2) (L) (.int x :: S) (h) (X)) : AW p l e R s m args below meth c D loc cy A nL Qof RF kn (pc) (L) (S) (h) (X) :=
  fun rr hr H locs ls hM hS hl => lv_iload hC.1 hC.2.1 hd (lv_get hl hg) (kk rr hr H locs ls hM hS hl)
theorem aw_iload_n {k : Fin 4} {x : Int32} (hC : Cx p l e R s m args meth c D loc cy A cc nL ret own fr lo cb sb) (hd : decode cc pc = .ok (.iload_n k, 1)) (hg : gtL L k.val = some (.int x)) (kk : AW p l e R s m args below meth c D loc cy A nL Qof RF kn (pc + 1) (L) (.int x :: S) (h) (X)) : AW p l e R s m args below meth c D loc cy A nL Qof RF kn (pc) (L) (S) (h) (X) :=
  fun rr hr H locs ls hM hS hl => lv_iload_n hC.1 hC.2.1 hd rfl (lv_get hl hg) (kk rr hr H locs ls hM hS hl)
theorem aw_lload {i : Nat} {x : Int64} (hC : Cx p l e R s m args meth c D loc cy A cc nL ret own fr lo cb sb) (hd : decode cc pc = .ok (.lload i, 2)) (hg : gtL L i = some (.long x)) (kk : AW p l e R s m args below meth c D loc cy A nL Qof RF kn (pc + 2) (L) (.long x :: S) (h) (X)) : AW p l e R s m args below meth c D loc cy A nL Qof RF kn (pc) (L) (S) (h) (X) :=
  fun rr hr H locs ls hM hS hl => lv_lload hC.1 hC.2.1 hd (lv_get hl hg) (kk rr hr H locs ls hM hS hl)
theorem aw_lload_n {k : Fin 4} {x : Int64} (hC : Cx p l e R s m args meth c D loc cy A cc nL ret own fr lo cb sb) (hd : decode cc pc = .ok (.lload_n k, 1)) (hg : gtL L k.val = some (.long x)) (kk : AW p l e R s m args below meth c D loc cy A nL Qof RF kn (pc + 1) (L) (.long x :: S) (h) (X)) : AW p l e R s m args below meth c D loc cy A nL Qof RF kn (pc) (L) (S) (h) (X) :=
  fun rr hr H locs ls hM hS hl => lv_lload_n hC.1 hC.2.1 hd rfl (lv_get hl hg) (kk rr hr H locs ls hM hS hl)
theorem aw_aload {i : Nat} {x : Nat} (hC : Cx p l e R s m args meth c D loc cy A cc nL ret own fr lo cb sb) (hd : decode cc pc = .ok (.aload i, 2)) (hg : gtL L i = some (.ref x)) (kk : AW p l e R s m args below meth c D loc cy A nL Qof RF kn (pc + 2) (L) (.ref x :: S) (h) (X)) : AW p l e R s m args below meth c D loc cy A nL Qof RF kn (pc) (L) (S) (h) (X) :=
  fun rr hr H locs ls hM hS hl => lv_aload hC.1 hC.2.1 hd (lv_get hl hg) (kk rr hr H locs ls hM hS hl)
theorem aw_aload_n {k : Fin 4} {x : Nat} (hC : Cx p l e R s m args meth c D loc cy A cc nL ret own fr lo cb sb) (hd : decode cc pc = .ok (.aload_n k, 1)) (hg : gtL L k.val = some (.ref x)) (kk : AW p l e R s m args below meth c D loc cy A nL Qof RF kn (pc + 1) (L) (.ref x :: S) (h) (X)) : AW p l e R s m args below meth c D loc cy A nL Qof RF kn (pc) (L) (S) (h) (X) :=
  fun rr hr H locs ls hM hS hl => lv_aload_n hC.1 hC.2.1 hd rfl (lv_get hl hg) (kk rr hr H locs ls hM hS hl)
theorem aw_dload {i : Nat} {x : UInt64} (hC : Cx p l e R s m args meth c D loc cy A cc nL ret own fr lo cb sb) (hd : decode cc pc = .ok (.dload i, 2)) (hg : gtL L i = some (.double x)) (kk : AW p l e R s m args below meth c D loc cy A nL Qof RF kn (pc + 2) (L) (.double x :: S) (h) (X)) : AW p l e R s m args below meth c D loc cy A nL Qof RF kn (pc) (L) (S) (h) (X) :=
  fun rr hr H locs ls hM hS hl => lv_dload hC.1 hC.2.1 hd (lv_get hl hg) (kk rr hr H locs ls hM hS hl)
theorem aw_dload_n {k : Fin 4} {x : UInt64} (hC : Cx p l e R s m args meth c D loc cy A cc nL ret own fr lo cb sb) (hd : decode cc pc = .ok (.dload_n k, 1)) (hg : gtL L k.val = some (.double x)) (kk : AW p l e R s m args below meth c D loc cy A nL Qof RF kn (pc + 1) (L) (.double x :: S) (h) (X)) : AW p l e R s m args below meth c D loc cy A nL Qof RF kn (pc) (L) (S) (h) (X) :=
  fun rr hr H locs ls hM hS hl => lv_dload_n hC.1 hC.2.1 hd rfl (lv_get hl hg) (kk rr hr H locs ls hM hS hl)
theorem aw_iconst {n : Int} {v : Int32} (hC : Cx p l e R s m args meth c D loc cy A cc nL ret own fr lo cb sb) (hd : decode cc pc = .ok (.iconst n, 1)) (hv : Int32.ofInt n = v) (kk : AW p l e R s m args below meth c D loc cy A nL Qof RF kn (pc + 1) (L) (.int v :: S) (h) (X)) : AW p l e R s m args below meth c D loc cy A nL Qof RF kn (pc) (L) (S) (h) (X) :=
  fun rr hr H locs ls hM hS hl => lv_iconst hC.1 hC.2.1 hd hv (kk rr hr H locs ls hM hS hl)
theorem aw_bipush {n : Int} {v : Int32} (hC : Cx p l e R s m args meth c D loc cy A cc nL ret own fr lo cb sb) (hd : decode cc pc = .ok (.bipush n, 2)) (hv : (Int8.ofInt n).toInt32 = v) (kk : AW p l e R s m args below meth c D loc cy A nL Qof RF kn (pc + 2) (L) (.int v :: S) (h) (X)) : AW p l e R s m args below meth c D loc cy A nL Qof RF kn (pc) (L) (S) (h) (X) :=
  fun rr hr H locs ls hM hS hl => lv_bipush hC.1 hC.2.1 hd hv (kk rr hr H locs ls hM hS hl)
theorem aw_sipush {n : Int} {v : Int32} (hC : Cx p l e R s m args meth c D loc cy A cc nL ret own fr lo cb sb) (hd : decode cc pc = .ok (.sipush n, 3)) (hv : (Int16.ofInt n).toInt32 = v) (kk : AW p l e R s m args below meth c D loc cy A nL Qof RF kn (pc + 3) (L) (.int v :: S) (h) (X)) : AW p l e R s m args below meth c D loc cy A nL Qof RF kn (pc) (L) (S) (h) (X) :=
  fun rr hr H locs ls hM hS hl => lv_sipush hC.1 hC.2.1 hd hv (kk rr hr H locs ls hM hS hl)
theorem aw_lconst {n : Fin 2} {v : Int64} (hC : Cx p l e R s m args meth c D loc cy A cc nL ret own fr lo cb sb) (hd : decode cc pc = .ok (.lconst n, 1)) (hv : Int64.ofNat (n : Nat) = v) (kk : AW p l e R s m args below meth c D loc cy A nL Qof RF kn (pc + 1) (L) (.long v :: S) (h) (X)) : AW p l e R s m args below meth c D loc cy A nL Qof RF kn (pc) (L) (S) (h) (X) :=
  fun rr hr H locs ls hM hS hl => lv_lconst hC.1 hC.2.1 hd hv (kk rr hr H locs ls hM hS hl)
theorem aw_ldc2 {idx : Nat} {v : Int64} (hC : Cx p l e R s m args meth c D loc cy A cc nL ret own fr lo cb sb) (hd : decode cc pc = .ok (.ldc2_w idx, 3)) (hw : Jvm.Cond.constantLong own idx v ∈ LW) (kk : AW p l e R s m args below meth c D loc cy A nL Qof RF kn (pc + 3) (L) (.long v :: S) (h) (X)) : AW p l e R s m args below meth c D loc cy A nL Qof RF kn (pc) (L) (S) (h) (X) :=
  fun rr hr H locs ls hM hS hl => lv_ldc2 hC.1 hC.2.1 hC.2.2.2.2.1 (hC.2.2.2.2.2.1 _ hw) hd (kk rr hr H locs ls hM hS hl)
theorem aw_null  (hC : Cx p l e R s m args meth c D loc cy A cc nL ret own fr lo cb sb) (hd : decode cc pc = .ok (.aconst_null, 1)) (kk : AW p l e R s m args below meth c D loc cy A nL Qof RF kn (pc + 1) (L) (.null :: S) (h) (X)) : AW p l e R s m args below meth c D loc cy A nL Qof RF kn (pc) (L) (S) (h) (X) :=
  fun rr hr H locs ls hM hS hl => lv_null hC.1 hC.2.1 hd (kk rr hr H locs ls hM hS hl)
theorem aw_fconst0  (hC : Cx p l e R s m args meth c D loc cy A cc nL ret own fr lo cb sb) (hd : decode cc pc = .ok (.fconst 0, 1)) (kk : AW p l e R s m args below meth c D loc cy A nL Qof RF kn (pc + 1) (L) (.float FP.fconst0 :: S) (h) (X)) : AW p l e R s m args below meth c D loc cy A nL Qof RF kn (pc) (L) (S) (h) (X) :=
  fun rr hr H locs ls hM hS hl => lv_fconst0 hC.1 hC.2.1 hd (kk rr hr H locs ls hM hS hl)
theorem aw_dconst0  (hC : Cx p l e R s m args meth c D loc cy A cc nL ret own fr lo cb sb) (hd : decode cc pc = .ok (.dconst 0, 1)) (kk : AW p l e R s m args below meth c D loc cy A nL Qof RF kn (pc + 1) (L) (.double FP.dconst0 :: S) (h) (X)) : AW p l e R s m args below meth c D loc cy A nL Qof RF kn (pc) (L) (S) (h) (X) :=
  fun rr hr H locs ls hM hS hl => lv_dconst0 hC.1 hC.2.1 hd (kk rr hr H locs ls hM hS hl)
theorem aw_iadd {x y : Int32} (hC : Cx p l e R s m args meth c D loc cy A cc nL ret own fr lo cb sb) (hd : decode cc pc = .ok (.iadd, 1)) (kk : AW p l e R s m args below meth c D loc cy A nL Qof RF kn (pc + 1) (L) (.int (x + y) :: S) (h) (X)) : AW p l e R s m args below meth c D loc cy A nL Qof RF kn (pc) (L) (.int y :: .int x :: S) (h) (X) :=
  fun rr hr H locs ls hM hS hl => lv_iadd hC.1 hC.2.1 hd (kk rr hr H locs ls hM hS hl)
theorem aw_isub {x y : Int32} (hC : Cx p l e R s m args meth c D loc cy A cc nL ret own fr lo cb sb) (hd : decode cc pc = .ok (.isub, 1)) (kk : AW p l e R s m args below meth c D loc cy A nL Qof RF kn (pc + 1) (L) (.int (x - y) :: S) (h) (X)) : AW p l e R s m args below meth c D loc cy A nL Qof RF kn (pc) (L) (.int y :: .int x :: S) (h) (X) :=
  fun rr hr H locs ls hM hS hl => lv_isub hC.1 hC.2.1 hd (kk rr hr H locs ls hM hS hl)
theorem aw_imul {x y : Int32} (hC : Cx p l e R s m args meth c D loc cy A cc nL ret own fr lo cb sb) (hd : decode cc pc = .ok (.imul, 1)) (kk : AW p l e R s m args below meth c D loc cy A nL Qof RF kn (pc + 1) (L) (.int (x * y) :: S) (h) (X)) : AW p l e R s m args below meth c D loc cy A nL Qof RF kn (pc) (L) (.int y :: .int x :: S) (h) (X) :=
  fun rr hr H locs ls hM hS hl => lv_imul hC.1 hC.2.1 hd (kk rr hr H locs ls hM hS hl)
theorem aw_iand {x y : Int32} (hC : Cx p l e R s m args meth c D loc cy A cc nL ret own fr lo cb sb) (hd : decode cc pc = .ok (.iand, 1)) (kk : AW p l e R s m args below meth c D loc cy A nL Qof RF kn (pc + 1) (L) (.int (x &&& y) :: S) (h) (X)) : AW p l e R s m args below meth c D loc cy A nL Qof RF kn (pc) (L) (.int y :: .int x :: S) (h) (X) :=
  fun rr hr H locs ls hM hS hl => lv_iand hC.1 hC.2.1 hd (kk rr hr H locs ls hM hS hl)
theorem aw_ixor {x y : Int32} (hC : Cx p l e R s m args meth c D loc cy A cc nL ret own fr lo cb sb) (hd : decode cc pc = .ok (.ixor, 1)) (kk : AW p l e R s m args below meth c D loc cy A nL Qof RF kn (pc + 1) (L) (.int (x ^^^ y) :: S) (h) (X)) : AW p l e R s m args below meth c D loc cy A nL Qof RF kn (pc) (L) (.int y :: .int x :: S) (h) (X) :=
  fun rr hr H locs ls hM hS hl => lv_ixor hC.1 hC.2.1 hd (kk rr hr H locs ls hM hS hl)
theorem aw_ladd {x y : Int64} (hC : Cx p l e R s m args meth c D loc cy A cc nL ret own fr lo cb sb) (hd : decode cc pc = .ok (.ladd, 1)) (kk : AW p l e R s m args below meth c D loc cy A nL Qof RF kn (pc + 1) (L) (.long (x + y) :: S) (h) (X)) : AW p l e R s m args below meth c D loc cy A nL Qof RF kn (pc) (L) (.long y :: .long x :: S) (h) (X) :=
  fun rr hr H locs ls hM hS hl => lv_ladd hC.1 hC.2.1 hd (kk rr hr H locs ls hM hS hl)
theorem aw_lsub {x y : Int64} (hC : Cx p l e R s m args meth c D loc cy A cc nL ret own fr lo cb sb) (hd : decode cc pc = .ok (.lsub, 1)) (kk : AW p l e R s m args below meth c D loc cy A nL Qof RF kn (pc + 1) (L) (.long (x - y) :: S) (h) (X)) : AW p l e R s m args below meth c D loc cy A nL Qof RF kn (pc) (L) (.long y :: .long x :: S) (h) (X) :=
  fun rr hr H locs ls hM hS hl => lv_lsub hC.1 hC.2.1 hd (kk rr hr H locs ls hM hS hl)
theorem aw_lmul {x y : Int64} (hC : Cx p l e R s m args meth c D loc cy A cc nL ret own fr lo cb sb) (hd : decode cc pc = .ok (.lmul, 1)) (kk : AW p l e R s m args below meth c D loc cy A nL Qof RF kn (pc + 1) (L) (.long (x * y) :: S) (h) (X)) : AW p l e R s m args below meth c D loc cy A nL Qof RF kn (pc) (L) (.long y :: .long x :: S) (h) (X) :=
  fun rr hr H locs ls hM hS hl => lv_lmul hC.1 hC.2.1 hd (kk rr hr H locs ls hM hS hl)
theorem aw_land {x y : Int64} (hC : Cx p l e R s m args meth c D loc cy A cc nL ret own fr lo cb sb) (hd : decode cc pc = .ok (.land, 1)) (kk : AW p l e R s m args below meth c D loc cy A nL Qof RF kn (pc + 1) (L) (.long (x &&& y) :: S) (h) (X)) : AW p l e R s m args below meth c D loc cy A nL Qof RF kn (pc) (L) (.long y :: .long x :: S) (h) (X) :=
  fun rr hr H locs ls hM hS hl => lv_land hC.1 hC.2.1 hd (kk rr hr H locs ls hM hS hl)
theorem aw_lor {x y : Int64} (hC : Cx p l e R s m args meth c D loc cy A cc nL ret own fr lo cb sb) (hd : decode cc pc = .ok (.lor, 1)) (kk : AW p l e R s m args below meth c D loc cy A nL Qof RF kn (pc + 1) (L) (.long (x ||| y) :: S) (h) (X)) : AW p l e R s m args below meth c D loc cy A nL Qof RF kn (pc) (L) (.long y :: .long x :: S) (h) (X) :=
  fun rr hr H locs ls hM hS hl => lv_lor hC.1 hC.2.1 hd (kk rr hr H locs ls hM hS hl)
theorem aw_ishr {x y : Int32} (hC : Cx p l e R s m args meth c D loc cy A cc nL ret own fr lo cb sb) (hd : decode cc pc = .ok (.ishr, 1)) (kk : AW p l e R s m args below meth c D loc cy A nL Qof RF kn (pc + 1) (L) (.int (x >>> (y &&& 31)) :: S) (h) (X)) : AW p l e R s m args below meth c D loc cy A nL Qof RF kn (pc) (L) (.int y :: .int x :: S) (h) (X) :=
  fun rr hr H locs ls hM hS hl => lv_ishr hC.1 hC.2.1 hd (kk rr hr H locs ls hM hS hl)
theorem aw_ineg {x : Int32} (hC : Cx p l e R s m args meth c D loc cy A cc nL ret own fr lo cb sb) (hd : decode cc pc = .ok (.ineg, 1)) (kk : AW p l e R s m args below meth c D loc cy A nL Qof RF kn (pc + 1) (L) (.int (-x) :: S) (h) (X)) : AW p l e R s m args below meth c D loc cy A nL Qof RF kn (pc) (L) (.int x :: S) (h) (X) :=
  fun rr hr H locs ls hM hS hl => lv_ineg hC.1 hC.2.1 hd (kk rr hr H locs ls hM hS hl)
theorem aw_lshl {x : Int64} {y : Int32} (hC : Cx p l e R s m args meth c D loc cy A cc nL ret own fr lo cb sb) (hd : decode cc pc = .ok (.lshl, 1)) (kk : AW p l e R s m args below meth c D loc cy A nL Qof RF kn (pc + 1) (L) (.long (x <<< (y.toInt64 &&& 63)) :: S) (h) (X)) : AW p l e R s m args below meth c D loc cy A nL Qof RF kn (pc) (L) (.int y :: .long x :: S) (h) (X) :=
  fun rr hr H locs ls hM hS hl => lv_lshl hC.1 hC.2.1 hd rfl (kk rr hr H locs ls hM hS hl)
theorem aw_lshr {x : Int64} {y : Int32} (hC : Cx p l e R s m args meth c D loc cy A cc nL ret own fr lo cb sb) (hd : decode cc pc = .ok (.lshr, 1)) (kk : AW p l e R s m args below meth c D loc cy A nL Qof RF kn (pc + 1) (L) (.long (x >>> (y.toInt64 &&& 63)) :: S) (h) (X)) : AW p l e R s m args below meth c D loc cy A nL Qof RF kn (pc) (L) (.int y :: .long x :: S) (h) (X) :=
  fun rr hr H locs ls hM hS hl => lv_lshr hC.1 hC.2.1 hd rfl (kk rr hr H locs ls hM hS hl)
theorem aw_i2l {x : Int32} (hC : Cx p l e R s m args meth c D loc cy A cc nL ret own fr lo cb sb) (hd : decode cc pc = .ok (.i2l, 1)) (kk : AW p l e R s m args below meth c D loc cy A nL Qof RF kn (pc + 1) (L) (.long x.toInt64 :: S) (h) (X)) : AW p l e R s m args below meth c D loc cy A nL Qof RF kn (pc) (L) (.int x :: S) (h) (X) :=
  fun rr hr H locs ls hM hS hl => lv_i2l hC.1 hC.2.1 hd rfl (kk rr hr H locs ls hM hS hl)
theorem aw_l2i {x : Int64} (hC : Cx p l e R s m args meth c D loc cy A cc nL ret own fr lo cb sb) (hd : decode cc pc = .ok (.l2i, 1)) (kk : AW p l e R s m args below meth c D loc cy A nL Qof RF kn (pc + 1) (L) (.int x.toInt32 :: S) (h) (X)) : AW p l e R s m args below meth c D loc cy A nL Qof RF kn (pc) (L) (.long x :: S) (h) (X) :=
  fun rr hr H locs ls hM hS hl => lv_l2i hC.1 hC.2.1 hd rfl (kk rr hr H locs ls hM hS hl)
theorem aw_i2b {x : Int32} (hC : Cx p l e R s m args meth c D loc cy A cc nL ret own fr lo cb sb) (hd : decode cc pc = .ok (.i2b, 1)) (kk : AW p l e R s m args below meth c D loc cy A nL Qof RF kn (pc + 1) (L) (.int x.toInt8.toInt32 :: S) (h) (X)) : AW p l e R s m args below meth c D loc cy A nL Qof RF kn (pc) (L) (.int x :: S) (h) (X) :=
  fun rr hr H locs ls hM hS hl => lv_i2b hC.1 hC.2.1 hd rfl (kk rr hr H locs ls hM hS hl)
theorem aw_i2f {x : Int32} (hC : Cx p l e R s m args meth c D loc cy A cc nL ret own fr lo cb sb) (hd : decode cc pc = .ok (.i2f, 1)) (kk : AW p l e R s m args below meth c D loc cy A nL Qof RF kn (pc + 1) (L) (.float (FP.i2f x) :: S) (h) (X)) : AW p l e R s m args below meth c D loc cy A nL Qof RF kn (pc) (L) (.int x :: S) (h) (X) :=
  fun rr hr H locs ls hM hS hl => lv_i2f hC.1 hC.2.1 hd (kk rr hr H locs ls hM hS hl)
theorem aw_i2d {x : Int32} (hC : Cx p l e R s m args meth c D loc cy A cc nL ret own fr lo cb sb) (hd : decode cc pc = .ok (.i2d, 1)) (kk : AW p l e R s m args below meth c D loc cy A nL Qof RF kn (pc + 1) (L) (.double (FP.i2d x) :: S) (h) (X)) : AW p l e R s m args below meth c D loc cy A nL Qof RF kn (pc) (L) (.int x :: S) (h) (X) :=
  fun rr hr H locs ls hM hS hl => lv_i2d hC.1 hC.2.1 hd (kk rr hr H locs ls hM hS hl)
theorem aw_idiv {x y : Int32} (hC : Cx p l e R s m args meth c D loc cy A cc nL ret own fr lo cb sb) (hd : decode cc pc = .ok (.idiv, 1)) (hne : ¬ y = 0) (kk : AW p l e R s m args below meth c D loc cy A nL Qof RF kn (pc + 1) (L) (.int (x / y) :: S) (h) (X)) : AW p l e R s m args below meth c D loc cy A nL Qof RF kn (pc) (L) (.int y :: .int x :: S) (h) (X) :=
  fun rr hr H locs ls hM hS hl => lv_idiv hC.1 hC.2.1 hd hne (kk rr hr H locs ls hM hS hl)
theorem aw_irem {x y : Int32} (hC : Cx p l e R s m args meth c D loc cy A cc nL ret own fr lo cb sb) (hd : decode cc pc = .ok (.irem, 1)) (hne : ¬ y = 0) (kk : AW p l e R s m args below meth c D loc cy A nL Qof RF kn (pc + 1) (L) (.int (x - x / y * y) :: S) (h) (X)) : AW p l e R s m args below meth c D loc cy A nL Qof RF kn (pc) (L) (.int y :: .int x :: S) (h) (X) :=
  fun rr hr H locs ls hM hS hl => lv_irem hC.1 hC.2.1 hd hne (kk rr hr H locs ls hM hS hl)
theorem aw_ldiv {x y : Int64} (hC : Cx p l e R s m args meth c D loc cy A cc nL ret own fr lo cb sb) (hd : decode cc pc = .ok (.ldiv, 1)) (hne : ¬ y = 0) (kk : AW p l e R s m args below meth c D loc cy A nL Qof RF kn (pc + 1) (L) (.long (x / y) :: S) (h) (X)) : AW p l e R s m args below meth c D loc cy A nL Qof RF kn (pc) (L) (.long y :: .long x :: S) (h) (X) :=
  fun rr hr H locs ls hM hS hl => lv_ldiv hC.1 hC.2.1 hd hne (kk rr hr H locs ls hM hS hl)
theorem aw_fdiv {x y : UInt32} (hC : Cx p l e R s m args meth c D loc cy A cc nL ret own fr lo cb sb) (hd : decode cc pc = .ok (.fdiv, 1)) (hne : vf_n32 (FP.fdiv x y)) (kk : AW p l e R s m args below meth c D loc cy A nL Qof RF kn (pc + 1) (L) (.float (FP.fdiv x y) :: S) (h) (X)) : AW p l e R s m args below meth c D loc cy A nL Qof RF kn (pc) (L) (.float y :: .float x :: S) (h) (X) :=
  fun rr hr H locs ls hM hS hl => lv_fdiv hC.1 hC.2.1 hd hne (kk rr hr H locs ls hM hS hl)
theorem aw_ddiv {x y : UInt64} (hC : Cx p l e R s m args meth c D loc cy A cc nL ret own fr lo cb sb) (hd : decode cc pc = .ok (.ddiv, 1)) (hne : vf_n64 (FP.ddiv x y)) (kk : AW p l e R s m args below meth c D loc cy A nL Qof RF kn (pc + 1) (L) (.double (FP.ddiv x y) :: S) (h) (X)) : AW p l e R s m args below meth c D loc cy A nL Qof RF kn (pc) (L) (.double y :: .double x :: S) (h) (X) :=
  fun rr hr H locs ls hM hS hl => lv_ddiv hC.1 hC.2.1 hd hne (kk rr hr H locs ls hM hS hl)
theorem aw_f2d {x : UInt32} (hC : Cx p l e R s m args meth c D loc cy A cc nL ret own fr lo cb sb) (hd : decode cc pc = .ok (.f2d, 1)) (hne : vf_n64 (FP.f2d x)) (kk : AW p l e R s m args below meth c D loc cy A nL Qof RF kn (pc + 1) (L) (.double (FP.f2d x) :: S) (h) (X)) : AW p l e R s m args below meth c D loc cy A nL Qof RF kn (pc) (L) (.float x :: S) (h) (X) :=
  fun rr hr H locs ls hM hS hl => lv_f2d hC.1 hC.2.1 hd hne (kk rr hr H locs ls hM hS hl)
theorem aw_lcmp {x y : Int64} (hC : Cx p l e R s m args meth c D loc cy A cc nL ret own fr lo cb sb) (hd : decode cc pc = .ok (.lcmp, 1)) (kk : AW p l e R s m args below meth c D loc cy A nL Qof RF kn (pc + 1) (L) (.int (lg_cmp x y) :: S) (h) (X)) : AW p l e R s m args below meth c D loc cy A nL Qof RF kn (pc) (L) (.long y :: .long x :: S) (h) (X) :=
  fun rr hr H locs ls hM hS hl => W.lcmp hC.1 hC.2.1 hd (kk rr hr H locs ls hM hS hl)
theorem aw_dcmp {x y : UInt64} {op : CmpOp} (hC : Cx p l e R s m args meth c D loc cy A cc nL ret own fr lo cb sb) (hd : decode cc pc = .ok (.dcmp op, 1)) (kk : AW p l e R s m args below meth c D loc cy A nL Qof RF kn (pc + 1) (L) (.int (Op.cmpValue (FP.dcmp x y) op) :: S) (h) (X)) : AW p l e R s m args below meth c D loc cy A nL Qof RF kn (pc) (L) (.double y :: .double x :: S) (h) (X) :=
  fun rr hr H locs ls hM hS hl => lv_dcmp hC.1 hC.2.1 hd (kk rr hr H locs ls hM hS hl)
theorem aw_dup {va : Value} (hC : Cx p l e R s m args meth c D loc cy A cc nL ret own fr lo cb sb) (hd : decode cc pc = .ok (.dup, 1)) (hva : va.category = 1) (kk : AW p l e R s m args below meth c D loc cy A nL Qof RF kn (pc + 1) (L) (va :: va :: S) (h) (X)) : AW p l e R s m args below meth c D loc cy A nL Qof RF kn (pc) (L) (va :: S) (h) (X) :=
  fun rr hr H locs ls hM hS hl => lv_dup hC.1 hC.2.1 hd hva (kk rr hr H locs ls hM hS hl)
theorem aw_pop {va : Value} (hC : Cx p l e R s m args meth c D loc cy A cc nL ret own fr lo cb sb) (hd : decode cc pc = .ok (.pop, 1)) (hva : va.category = 1) (kk : AW p l e R s m args below meth c D loc cy A nL Qof RF kn (pc + 1) (L) (S) (h) (X)) : AW p l e R s m args below meth c D loc cy A nL Qof RF kn (pc) (L) (va :: S) (h) (X) :=
  fun rr hr H locs ls hM hS hl => lv_pop hC.1 hC.2.1 hd hva (kk rr hr H locs ls hM hS hl)
theorem aw_dup2 {va vb : Value} (hC : Cx p l e R s m args meth c D loc cy A cc nL ret own fr lo cb sb) (hd : decode cc pc = .ok (.dup2, 1)) (hva : va.category = 1) (hvb : vb.category = 1) (kk : AW p l e R s m args below meth c D loc cy A nL Qof RF kn (pc + 1) (L) (va :: vb :: va :: vb :: S) (h) (X)) : AW p l e R s m args below meth c D loc cy A nL Qof RF kn (pc) (L) (va :: vb :: S) (h) (X) :=
  fun rr hr H locs ls hM hS hl => lv_dup2_11 hC.1 hC.2.1 hd hva hvb (kk rr hr H locs ls hM hS hl)
theorem aw_dup_x1 {va vb : Value} (hC : Cx p l e R s m args meth c D loc cy A cc nL ret own fr lo cb sb) (hd : decode cc pc = .ok (.dup_x1, 1)) (hva : va.category = 1) (hvb : vb.category = 1) (kk : AW p l e R s m args below meth c D loc cy A nL Qof RF kn (pc + 1) (L) (va :: vb :: va :: S) (h) (X)) : AW p l e R s m args below meth c D loc cy A nL Qof RF kn (pc) (L) (va :: vb :: S) (h) (X) :=
  fun rr hr H locs ls hM hS hl => lv_dup_x1 hC.1 hC.2.1 hd hva hvb (kk rr hr H locs ls hM hS hl)
theorem aw_istore {i : Nat} {x : Int32} (hC : Cx p l e R s m args meth c D loc cy A cc nL ret own fr lo cb sb) (hd : decode cc pc = .ok (.istore i, 2)) (hn : i < nL) (kk : AW p l e R s m args below meth c D loc cy A nL Qof RF kn (pc + 2) (st1 L i (.int x)) (S) (h) (X)) : AW p l e R s m args below meth c D loc cy A nL Qof RF kn (pc) (L) (.int x :: S) (h) (X) :=
  fun rr hr H locs ls hM hS hl => lv_istore hC.1 hC.2.1 hd hl hn rfl (fun ls2 hl2 => kk rr hr H locs ls2 hM hS (lv_st1 hl2))
theorem aw_istore_n {k : Fin 4} {x : Int32} (hC : Cx p l e R s m args meth c D loc cy A cc nL ret own fr lo cb sb) (hd : decode cc pc = .ok (.istore_n k, 1)) (hn : k.val < nL) (kk : AW p l e R s m args below meth c D loc cy A nL Qof RF kn (pc + 1) (st1 L k.val (.int x)) (S) (h) (X)) : AW p l e R s m args below meth c D loc cy A nL Qof RF kn (pc) (L) (.int x :: S) (h) (X) :=
  fun rr hr H locs ls hM hS hl => lv_istore_n hC.1 hC.2.1 hd rfl hl hn rfl (fun ls2 hl2 => kk rr hr H locs ls2 hM hS (lv_st1 hl2))
theorem aw_astore {i : Nat} {x : Nat} (hC : Cx p l e R s m args meth c D loc cy A cc nL ret own fr lo cb sb) (hd : decode cc pc = .ok (.astore i, 2)) (hn : i < nL) (kk : AW p l e R s m args below meth c D loc cy A nL Qof RF kn (pc + 2) (st1 L i (.ref x)) (S) (h) (X)) : AW p l e R s m args below meth c D loc cy A nL Qof RF kn (pc) (L) (.ref x :: S) (h) (X) :=
  fun rr hr H locs ls hM hS hl => lv_astore hC.1 hC.2.1 hd hl hn rfl (fun ls2 hl2 => kk rr hr H locs ls2 hM hS (lv_st1 hl2))
theorem aw_astore_n {k : Fin 4} {x : Nat} (hC : Cx p l e R s m args meth c D loc cy A cc nL ret own fr lo cb sb) (hd : decode cc pc = .ok (.astore_n k, 1)) (hn : k.val < nL) (kk : AW p l e R s m args below meth c D loc cy A nL Qof RF kn (pc + 1) (st1 L k.val (.ref x)) (S) (h) (X)) : AW p l e R s m args below meth c D loc cy A nL Qof RF kn (pc) (L) (.ref x :: S) (h) (X) :=
  fun rr hr H locs ls hM hS hl => lv_astore_n hC.1 hC.2.1 hd rfl hl hn rfl (fun ls2 hl2 => kk rr hr H locs ls2 hM hS (lv_st1 hl2))
theorem aw_lstore {i : Nat} {x : Int64} (hC : Cx p l e R s m args meth c D loc cy A cc nL ret own fr lo cb sb) (hd : decode cc pc = .ok (.lstore i, 2)) (hn : i + 1 < nL) (kk : AW p l e R s m args below meth c D loc cy A nL Qof RF kn (pc + 2) (st2 L i (.long x)) (S) (h) (X)) : AW p l e R s m args below meth c D loc cy A nL Qof RF kn (pc) (L) (.long x :: S) (h) (X) :=
  fun rr hr H locs ls hM hS hl => lv_lstore hC.1 hC.2.1 hd hl hn rfl (fun ls2 hl2 => kk rr hr H locs ls2 hM hS (lv_st2 hl2))
theorem aw_lstore_n {k : Fin 4} {x : Int64} (hC : Cx p l e R s m args meth c D loc cy A cc nL ret own fr lo cb sb) (hd : decode cc pc = .ok (.lstore_n k, 1)) (hn : k.val + 1 < nL) (kk : AW p l e R s m args below meth c D loc cy A nL Qof RF kn (pc + 1) (st2 L k.val (.long x)) (S) (h) (X)) : AW p l e R s m args below meth c D loc cy A nL Qof RF kn (pc) (L) (.long x :: S) (h) (X) :=
  fun rr hr H locs ls hM hS hl => lv_lstore_n hC.1 hC.2.1 hd rfl hl hn rfl (fun ls2 hl2 => kk rr hr H locs ls2 hM hS (lv_st2 hl2))
theorem aw_dstore {i : Nat} {x : UInt64} (hC : Cx p l e R s m args meth c D loc cy A cc nL ret own fr lo cb sb) (hd : decode cc pc = .ok (.dstore i, 2)) (hn : i + 1 < nL) (kk : AW p l e R s m args below meth c D loc cy A nL Qof RF kn (pc + 2) (st2 L i (.double x)) (S) (h) (X)) : AW p l e R s m args below meth c D loc cy A nL Qof RF kn (pc) (L) (.double x :: S) (h) (X) :=
  fun rr hr H locs ls hM hS hl => lv_dstore hC.1 hC.2.1 hd hl hn rfl (fun ls2 hl2 => kk rr hr H locs ls2 hM hS (lv_st2 hl2))
theorem aw_dstore_n {k : Fin 4} {x : UInt64} (hC : Cx p l e R s m args meth c D loc cy A cc nL ret own fr lo cb sb) (hd : decode cc pc = .ok (.dstore_n k, 1)) (hn : k.val + 1 < nL) (kk : AW p l e R s m args below meth c D loc cy A nL Qof RF kn (pc + 1) (st2 L k.val (.double x)) (S) (h) (X)) : AW p l e R s m args below meth c D loc cy A nL Qof RF kn (pc) (L) (.double x :: S) (h) (X) :=
  fun rr hr H locs ls hM hS hl => lv_dstore_n hC.1 hC.2.1 hd rfl hl hn rfl (fun ls2 hl2 => kk rr hr H locs ls2 hM hS (lv_st2 hl2))
theorem aw_iinc {i : Nat} {n : Int} {x v : Int32} (hC : Cx p l e R s m args meth c D loc cy A cc nL ret own fr lo cb sb) (hd : decode cc pc = .ok (.iinc i n, 3)) (hg : gtL L i = some (.int x)) (hv : x + Int32.ofInt n = v) (hn : i < nL) (kk : AW p l e R s m args below meth c D loc cy A nL Qof RF kn (pc + 3) (st1 L i (.int v)) (S) (h) (X)) : AW p l e R s m args below meth c D loc cy A nL Qof RF kn (pc) (L) (S) (h) (X) := by
  intro rr hr H locs ls hM hS hl
  obtain ⟨k, hk⟩ := List.getElem?_of_mem (gtL_mem hg)
  exact lv_iinc hC.1 hC.2.1 hd hl hk hv hn rfl (fun ls2 hl2 => kk rr hr H locs ls2 hM hS (lv_st1 hl2))
theorem aw_goto {off : Int} {tgt : Nat} (hC : Cx p l e R s m args meth c D loc cy A cc nL ret own fr lo cb sb) (hd : decode cc pc = .ok (.goto off, 3)) (ht : (pc : Int) + off = (tgt : Int)) (kk : AW p l e R s m args below meth c D loc cy A nL Qof RF kn (tgt) (L) (S) (h) (X)) : AW p l e R s m args below meth c D loc cy A nL Qof RF kn (pc) (L) (S) (h) (X) :=
  fun rr hr H locs ls hM hS hl => lv_goto hC.1 hC.2.1 hd ht (kk rr hr H locs ls hM hS hl)
theorem aw_if_eq {x : Int32} {off : Int} {tgt : Nat} (hC : Cx p l e R s m args meth c D loc cy A cc nL ret own fr lo cb sb) (hd : decode cc pc = .ok (.ifCond .eq off, 3)) (ht : (pc : Int) + off = (tgt : Int)) (kt : AW p l e R s m args below meth c D loc cy A nL Qof RF kn (tgt) (L) (S) (h) (X1)) (kf : AW p l e R s m args below meth c D loc cy A nL Qof RF kn (pc + 3) (L) (S) (h) (X2)) : AW p l e R s m args below meth c D loc cy A nL Qof RF kn (pc) (L) (.int x :: S) (h) (if x = 0 then X1 else X2) := by
  intro rr hr H locs ls hM hS hl
  by_cases q : x = 0
  · rw [if_pos q] at hr
    exact lv_if_eq hC.1 hC.2.1 hd ht (fun _ => kt rr hr H locs ls hM hS hl) (fun z => absurd q z)
  · rw [if_neg q] at hr
    exact lv_if_eq hC.1 hC.2.1 hd ht (fun z => absurd z q) (fun _ => kf rr hr H locs ls hM hS hl)
theorem aw_if_eq_t {x : Int32} {off : Int} {tgt : Nat} (hC : Cx p l e R s m args meth c D loc cy A cc nL ret own fr lo cb sb) (hd : decode cc pc = .ok (.ifCond .eq off, 3)) (ht : (pc : Int) + off = (tgt : Int)) (hq : x = 0) (kt : AW p l e R s m args below meth c D loc cy A nL Qof RF kn (tgt) (L) (S) (h) (X)) : AW p l e R s m args below meth c D loc cy A nL Qof RF kn (pc) (L) (.int x :: S) (h) (X) :=
  fun rr hr H locs ls hM hS hl => lv_if_eq hC.1 hC.2.1 hd ht (fun _ => kt rr hr H locs ls hM hS hl) (fun z => absurd hq (by first | exact z | exact fun y9 => y9 z))
theorem aw_if_eq_f {x : Int32} {off : Int} {tgt : Nat} (hC : Cx p l e R s m args meth c D loc cy A cc nL ret own fr lo cb sb) (hd : decode cc pc = .ok (.ifCond .eq off, 3)) (ht : (pc : Int) + off = (tgt : Int)) (hq : ¬ (x = 0)) (kf : AW p l e R s m args below meth c D loc cy A nL Qof RF kn (pc + 3) (L) (S) (h) (X)) : AW p l e R s m args below meth c D loc cy A nL Qof RF kn (pc) (L) (.int x :: S) (h) (X) :=
  fun rr hr H locs ls hM hS hl => lv_if_eq hC.1 hC.2.1 hd ht (fun z => absurd z hq) (fun _ => kf rr hr H locs ls hM hS hl)
theorem aw_if_ne {x : Int32} {off : Int} {tgt : Nat} (hC : Cx p l e R s m args meth c D loc cy A cc nL ret own fr lo cb sb) (hd : decode cc pc = .ok (.ifCond .ne off, 3)) (ht : (pc : Int) + off = (tgt : Int)) (kt : AW p l e R s m args below meth c D loc cy A nL Qof RF kn (tgt) (L) (S) (h) (X1)) (kf : AW p l e R s m args below meth c D loc cy A nL Qof RF kn (pc + 3) (L) (S) (h) (X2)) : AW p l e R s m args below meth c D loc cy A nL Qof RF kn (pc) (L) (.int x :: S) (h) (if x = 0 then X2 else X1) := by
  intro rr hr H locs ls hM hS hl
  by_cases q : x = 0
  · rw [if_pos q] at hr
    exact lv_if_ne hC.1 hC.2.1 hd ht (fun z => absurd q z) (fun _ => kf rr hr H locs ls hM hS hl)
  · rw [if_neg q] at hr
    exact lv_if_ne hC.1 hC.2.1 hd ht (fun _ => kt rr hr H locs ls hM hS hl) (fun z => absurd (Classical.not_not.mp (fun y9 => y9 q |> fun h9 => h9) |> fun _ => by first | exact z | exact Classical.not_not.mp z) q)
theorem aw_if_ne_t {x : Int32} {off : Int} {tgt : Nat} (hC : Cx p l e R s m args meth c D loc cy A cc nL ret own fr lo cb sb) (hd : decode cc pc = .ok (.ifCond .ne off, 3)) (ht : (pc : Int) + off = (tgt : Int)) (hq : ¬ x = 0) (kt : AW p l e R s m args below meth c D loc cy A nL Qof RF kn (tgt) (L) (S) (h) (X)) : AW p l e R s m args below meth c D loc cy A nL Qof RF kn (pc) (L) (.int x :: S) (h) (X) :=
  fun rr hr H locs ls hM hS hl => lv_if_ne hC.1 hC.2.1 hd ht (fun _ => kt rr hr H locs ls hM hS hl) (fun z => absurd hq (by first | exact z | exact fun y9 => y9 z))
theorem aw_if_ne_f {x : Int32} {off : Int} {tgt : Nat} (hC : Cx p l e R s m args meth c D loc cy A cc nL ret own fr lo cb sb) (hd : decode cc pc = .ok (.ifCond .ne off, 3)) (ht : (pc : Int) + off = (tgt : Int)) (hq : ¬ (¬ x = 0)) (kf : AW p l e R s m args below meth c D loc cy A nL Qof RF kn (pc + 3) (L) (S) (h) (X)) : AW p l e R s m args below meth c D loc cy A nL Qof RF kn (pc) (L) (.int x :: S) (h) (X) :=
  fun rr hr H locs ls hM hS hl => lv_if_ne hC.1 hC.2.1 hd ht (fun z => absurd z hq) (fun _ => kf rr hr H locs ls hM hS hl)
theorem aw_if_lt {x : Int32} {off : Int} {tgt : Nat} (hC : Cx p l e R s m args meth c D loc cy A cc nL ret own fr lo cb sb) (hd : decode cc pc = .ok (.ifCond .lt off, 3)) (ht : (pc : Int) + off = (tgt : Int)) (kt : AW p l e R s m args below meth c D loc cy A nL Qof RF kn (tgt) (L) (S) (h) (X1)) (kf : AW p l e R s m args below meth c D loc cy A nL Qof RF kn (pc + 3) (L) (S) (h) (X2)) : AW p l e R s m args below meth c D loc cy A nL Qof RF kn (pc) (L) (.int x :: S) (h) (if x < 0 then X1 else X2) := by
  intro rr hr H locs ls hM hS hl
  by_cases q : x < 0
  · rw [if_pos q] at hr
    exact lv_if_lt hC.1 hC.2.1 hd ht (fun _ => kt rr hr H locs ls hM hS hl) (fun z => absurd q z)
  · rw [if_neg q] at hr
    exact lv_if_lt hC.1 hC.2.1 hd ht (fun z => absurd z q) (fun _ => kf rr hr H locs ls hM hS hl)
theorem aw_if_lt_t {x : Int32} {off : Int} {tgt : Nat} (hC : Cx p l e R s m args meth c D loc cy A cc nL ret own fr lo cb sb) (hd : decode cc pc = .ok (.ifCond .lt off, 3)) (ht : (pc : Int) + off = (tgt : Int)) (hq : x < 0) (kt : AW p l e R s m args below meth c D loc cy A nL Qof RF kn (tgt) (L) (S) (h) (X)) : AW p l e R s m args below meth c D loc cy A nL Qof RF kn (pc) (L) (.int x :: S) (h) (X) :=
  fun rr hr H locs ls hM hS hl => lv_if_lt hC.1 hC.2.1 hd ht (fun _ => kt rr hr H locs ls hM hS hl) (fun z => absurd hq (by first | exact z | exact fun y9 => y9 z))
theorem aw_if_lt_f {x : Int32} {off : Int} {tgt : Nat} (hC : Cx p l e R s m args meth c D loc cy A cc nL ret own fr lo cb sb) (hd : decode cc pc = .ok (.ifCond .lt off, 3)) (ht : (pc : Int) + off = (tgt : Int)) (hq : ¬ (x < 0)) (kf : AW p l e R s m args below meth c D loc cy A nL Qof RF kn (pc + 3) (L) (S) (h) (X)) : AW p l e R s m args below meth c D loc cy A nL Qof RF kn (pc) (L) (.int x :: S) (h) (X) :=
  fun rr hr H locs ls hM hS hl => lv_if_lt hC.1 hC.2.1 hd ht (fun z => absurd z hq) (fun _ => kf rr hr H locs ls hM hS hl)
theorem aw_if_ge {x : Int32} {off : Int} {tgt : Nat} (hC : Cx p l e R s m args meth c D loc cy A cc nL ret own fr lo cb sb) (hd : decode cc pc = .ok (.ifCond .ge off, 3)) (ht : (pc : Int) + off = (tgt : Int)) (kt : AW p l e R s m args below meth c D loc cy A nL Qof RF kn (tgt) (L) (S) (h) (X1)) (kf : AW p l e R s m args below meth c D loc cy A nL Qof RF kn (pc + 3) (L) (S) (h) (X2)) : AW p l e R s m args below meth c D loc cy A nL Qof RF kn (pc) (L) (.int x :: S) (h) (if 0 ≤ x then X1 else X2) := by
  intro rr hr H locs ls hM hS hl
  by_cases q : 0 ≤ x
  · rw [if_pos q] at hr
    exact lv_if_ge hC.1 hC.2.1 hd ht (fun _ => kt rr hr H locs ls hM hS hl) (fun z => absurd q z)
  · rw [if_neg q] at hr
    exact lv_if_ge hC.1 hC.2.1 hd ht (fun z => absurd z q) (fun _ => kf rr hr H locs ls hM hS hl)
theorem aw_if_ge_t {x : Int32} {off : Int} {tgt : Nat} (hC : Cx p l e R s m args meth c D loc cy A cc nL ret own fr lo cb sb) (hd : decode cc pc = .ok (.ifCond .ge off, 3)) (ht : (pc : Int) + off = (tgt : Int)) (hq : 0 ≤ x) (kt : AW p l e R s m args below meth c D loc cy A nL Qof RF kn (tgt) (L) (S) (h) (X)) : AW p l e R s m args below meth c D loc cy A nL Qof RF kn (pc) (L) (.int x :: S) (h) (X) :=
  fun rr hr H locs ls hM hS hl => lv_if_ge hC.1 hC.2.1 hd ht (fun _ => kt rr hr H locs ls hM hS hl) (fun z => absurd hq (by first | exact z | exact fun y9 => y9 z))
theorem aw_if_ge_f {x : Int32} {off : Int} {tgt : Nat} (hC : Cx p l e R s m args meth c D loc cy A cc nL ret own fr lo cb sb) (hd : decode cc pc = .ok (.ifCond .ge off, 3)) (ht : (pc : Int) + off = (tgt : Int)) (hq : ¬ (0 ≤ x)) (kf : AW p l e R s m args below meth c D loc cy A nL Qof RF kn (pc + 3) (L) (S) (h) (X)) : AW p l e R s m args below meth c D loc cy A nL Qof RF kn (pc) (L) (.int x :: S) (h) (X) :=
  fun rr hr H locs ls hM hS hl => lv_if_ge hC.1 hC.2.1 hd ht (fun z => absurd z hq) (fun _ => kf rr hr H locs ls hM hS hl)
theorem aw_if_gt {x : Int32} {off : Int} {tgt : Nat} (hC : Cx p l e R s m args meth c D loc cy A cc nL ret own fr lo cb sb) (hd : decode cc pc = .ok (.ifCond .gt off, 3)) (ht : (pc : Int) + off = (tgt : Int)) (kt : AW p l e R s m args below meth c D loc cy A nL Qof RF kn (tgt) (L) (S) (h) (X1)) (kf : AW p l e R s m args below meth c D loc cy A nL Qof RF kn (pc + 3) (L) (S) (h) (X2)) : AW p l e R s m args below meth c D loc cy A nL Qof RF kn (pc) (L) (.int x :: S) (h) (if 0 < x then X1 else X2) := by
  intro rr hr H locs ls hM hS hl
  by_cases q : 0 < x
  · rw [if_pos q] at hr
    exact lv_if_gt hC.1 hC.2.1 hd ht (fun _ => kt rr hr H locs ls hM hS hl) (fun z => absurd q z)
  · rw [if_neg q] at hr
    exact lv_if_gt hC.1 hC.2.1 hd ht (fun z => absurd z q) (fun _ => kf rr hr H locs ls hM hS hl)
theorem aw_if_gt_t {x : Int32} {off : Int} {tgt : Nat} (hC : Cx p l e R s m args meth c D loc cy A cc nL ret own fr lo cb sb) (hd : decode cc pc = .ok (.ifCond .gt off, 3)) (ht : (pc : Int) + off = (tgt : Int)) (hq : 0 < x) (kt : AW p l e R s m args below meth c D loc cy A nL Qof RF kn (tgt) (L) (S) (h) (X)) : AW p l e R s m args below meth c D loc cy A nL Qof RF kn (pc) (L) (.int x :: S) (h) (X) :=
  fun rr hr H locs ls hM hS hl => lv_if_gt hC.1 hC.2.1 hd ht (fun _ => kt rr hr H locs ls hM hS hl) (fun z => absurd hq (by first | exact z | exact fun y9 => y9 z))
theorem aw_if_gt_f {x : Int32} {off : Int} {tgt : Nat} (hC : Cx p l e R s m args meth c D loc cy A cc nL ret own fr lo cb sb) (hd : decode cc pc = .ok (.ifCond .gt off, 3)) (ht : (pc : Int) + off = (tgt : Int)) (hq : ¬ (0 < x)) (kf : AW p l e R s m args below meth c D loc cy A nL Qof RF kn (pc + 3) (L) (S) (h) (X)) : AW p l e R s m args below meth c D loc cy A nL Qof RF kn (pc) (L) (.int x :: S) (h) (X) :=
  fun rr hr H locs ls hM hS hl => lv_if_gt hC.1 hC.2.1 hd ht (fun z => absurd z hq) (fun _ => kf rr hr H locs ls hM hS hl)
theorem aw_if_le {x : Int32} {off : Int} {tgt : Nat} (hC : Cx p l e R s m args meth c D loc cy A cc nL ret own fr lo cb sb) (hd : decode cc pc = .ok (.ifCond .le off, 3)) (ht : (pc : Int) + off = (tgt : Int)) (kt : AW p l e R s m args below meth c D loc cy A nL Qof RF kn (tgt) (L) (S) (h) (X1)) (kf : AW p l e R s m args below meth c D loc cy A nL Qof RF kn (pc + 3) (L) (S) (h) (X2)) : AW p l e R s m args below meth c D loc cy A nL Qof RF kn (pc) (L) (.int x :: S) (h) (if x ≤ 0 then X1 else X2) := by
  intro rr hr H locs ls hM hS hl
  by_cases q : x ≤ 0
  · rw [if_pos q] at hr
    exact lv_if_le hC.1 hC.2.1 hd ht (fun _ => kt rr hr H locs ls hM hS hl) (fun z => absurd q z)
  · rw [if_neg q] at hr
    exact lv_if_le hC.1 hC.2.1 hd ht (fun z => absurd z q) (fun _ => kf rr hr H locs ls hM hS hl)
theorem aw_if_le_t {x : Int32} {off : Int} {tgt : Nat} (hC : Cx p l e R s m args meth c D loc cy A cc nL ret own fr lo cb sb) (hd : decode cc pc = .ok (.ifCond .le off, 3)) (ht : (pc : Int) + off = (tgt : Int)) (hq : x ≤ 0) (kt : AW p l e R s m args below meth c D loc cy A nL Qof RF kn (tgt) (L) (S) (h) (X)) : AW p l e R s m args below meth c D loc cy A nL Qof RF kn (pc) (L) (.int x :: S) (h) (X) :=
  fun rr hr H locs ls hM hS hl => lv_if_le hC.1 hC.2.1 hd ht (fun _ => kt rr hr H locs ls hM hS hl) (fun z => absurd hq (by first | exact z | exact fun y9 => y9 z))
theorem aw_if_le_f {x : Int32} {off : Int} {tgt : Nat} (hC : Cx p l e R s m args meth c D loc cy A cc nL ret own fr lo cb sb) (hd : decode cc pc = .ok (.ifCond .le off, 3)) (ht : (pc : Int) + off = (tgt : Int)) (hq : ¬ (x ≤ 0)) (kf : AW p l e R s m args below meth c D loc cy A nL Qof RF kn (pc + 3) (L) (S) (h) (X)) : AW p l e R s m args below meth c D loc cy A nL Qof RF kn (pc) (L) (.int x :: S) (h) (X) :=
  fun rr hr H locs ls hM hS hl => lv_if_le hC.1 hC.2.1 hd ht (fun z => absurd z hq) (fun _ => kf rr hr H locs ls hM hS hl)
theorem aw_icmp_eq {x y : Int32} {off : Int} {tgt : Nat} (hC : Cx p l e R s m args meth c D loc cy A cc nL ret own fr lo cb sb) (hd : decode cc pc = .ok (.if_icmp .eq off, 3)) (ht : (pc : Int) + off = (tgt : Int)) (kt : AW p l e R s m args below meth c D loc cy A nL Qof RF kn (tgt) (L) (S) (h) (X1)) (kf : AW p l e R s m args below meth c D loc cy A nL Qof RF kn (pc + 3) (L) (S) (h) (X2)) : AW p l e R s m args below meth c D loc cy A nL Qof RF kn (pc) (L) (.int y :: .int x :: S) (h) (if x = y then X1 else X2) := by
  intro rr hr H locs ls hM hS hl
  by_cases q : x = y
  · rw [if_pos q] at hr
    exact lv_icmp_eq hC.1 hC.2.1 hd ht (fun _ => kt rr hr H locs ls hM hS hl) (fun z => absurd q z)
  · rw [if_neg q] at hr
    exact lv_icmp_eq hC.1 hC.2.1 hd ht (fun z => absurd z q) (fun _ => kf rr hr H locs ls hM hS hl)
theorem aw_icmp_eq_t {x y : Int32} {off : Int} {tgt : Nat} (hC : Cx p l e R s m args meth c D loc cy A cc nL ret own fr lo cb sb) (hd : decode cc pc = .ok (.if_icmp .eq off, 3)) (ht : (pc : Int) + off = (tgt : Int)) (hq : x = y) (kt : AW p l e R s m args below meth c D loc cy A nL Qof RF kn (tgt) (L) (S) (h) (X)) : AW p l e R s m args below meth c D loc cy A nL Qof RF kn (pc) (L) (.int y :: .int x :: S) (h) (X) :=
  fun rr hr H locs ls hM hS hl => lv_icmp_eq hC.1 hC.2.1 hd ht (fun _ => kt rr hr H locs ls hM hS hl) (fun z => absurd hq (by first | exact z | exact fun y9 => y9 z))
theorem aw_icmp_eq_f {x y : Int32} {off : Int} {tgt : Nat} (hC : Cx p l e R s m args meth c D loc cy A cc nL ret own fr lo cb sb) (hd : decode cc pc = .ok (.if_icmp .eq off, 3)) (ht : (pc : Int) + off = (tgt : Int)) (hq : ¬ (x = y)) (kf : AW p l e R s m args below meth c D loc cy A nL Qof RF kn (pc + 3) (L) (S) (h) (X)) : AW p l e R s m args below meth c D loc cy A nL Qof RF kn (pc) (L) (.int y :: .int x :: S) (h) (X) :=
  fun rr hr H locs ls hM hS hl => lv_icmp_eq hC.1 hC.2.1 hd ht (fun z => absurd z hq) (fun _ => kf rr hr H locs ls hM hS hl)
theorem aw_icmp_ne {x y : Int32} {off : Int} {tgt : Nat} (hC : Cx p l e R s m args meth c D loc cy A cc nL ret own fr lo cb sb) (hd : decode cc pc = .ok (.if_icmp .ne off, 3)) (ht : (pc : Int) + off = (tgt : Int)) (kt : AW p l e R s m args below meth c D loc cy A nL Qof RF kn (tgt) (L) (S) (h) (X1)) (kf : AW p l e R s m args below meth c D loc cy A nL Qof RF kn (pc + 3) (L) (S) (h) (X2)) : AW p l e R s m args below meth c D loc cy A nL Qof RF kn (pc) (L) (.int y :: .int x :: S) (h) (if x = y then X2 else X1) := by
  intro rr hr H locs ls hM hS hl
  by_cases q : x = y
  · rw [if_pos q] at hr
    exact lv_icmp_ne hC.1 hC.2.1 hd ht (fun z => absurd q z) (fun _ => kf rr hr H locs ls hM hS hl)
  · rw [if_neg q] at hr
    exact lv_icmp_ne hC.1 hC.2.1 hd ht (fun _ => kt rr hr H locs ls hM hS hl) (fun z => absurd (Classical.not_not.mp (fun y9 => y9 q |> fun h9 => h9) |> fun _ => by first | exact z | exact Classical.not_not.mp z) q)
theorem aw_icmp_ne_t {x y : Int32} {off : Int} {tgt : Nat} (hC : Cx p l e R s m args meth c D loc cy A cc nL ret own fr lo cb sb) (hd : decode cc pc = .ok (.if_icmp .ne off, 3)) (ht : (pc : Int) + off = (tgt : Int)) (hq : ¬ x = y) (kt : AW p l e R s m args below meth c D loc cy A nL Qof RF kn (tgt) (L) (S) (h) (X)) : AW p l e R s m args below meth c D loc cy A nL Qof RF kn (pc) (L) (.int y :: .int x :: S) (h) (X) :=
  fun rr hr H locs ls hM hS hl => lv_icmp_ne hC.1 hC.2.1 hd ht (fun _ => kt rr hr H locs ls hM hS hl) (fun z => absurd hq (by first | exact z | exact fun y9 => y9 z))
theorem aw_icmp_ne_f {x y : Int32} {off : Int} {tgt : Nat} (hC : Cx p l e R s m args meth c D loc cy A cc nL ret own fr lo cb sb) (hd : decode cc pc = .ok (.if_icmp .ne off, 3)) (ht : (pc : Int) + off = (tgt : Int)) (hq : ¬ (¬ x = y)) (kf : AW p l e R s m args below meth c D loc cy A nL Qof RF kn (pc + 3) (L) (S) (h) (X)) : AW p l e R s m args below meth c D loc cy A nL Qof RF kn (pc) (L) (.int y :: .int x :: S) (h) (X) :=
  fun rr hr H locs ls hM hS hl => lv_icmp_ne hC.1 hC.2.1 hd ht (fun z => absurd z hq) (fun _ => kf rr hr H locs ls hM hS hl)
theorem aw_icmp_lt {x y : Int32} {off : Int} {tgt : Nat} (hC : Cx p l e R s m args meth c D loc cy A cc nL ret own fr lo cb sb) (hd : decode cc pc = .ok (.if_icmp .lt off, 3)) (ht : (pc : Int) + off = (tgt : Int)) (kt : AW p l e R s m args below meth c D loc cy A nL Qof RF kn (tgt) (L) (S) (h) (X1)) (kf : AW p l e R s m args below meth c D loc cy A nL Qof RF kn (pc + 3) (L) (S) (h) (X2)) : AW p l e R s m args below meth c D loc cy A nL Qof RF kn (pc) (L) (.int y :: .int x :: S) (h) (if x < y then X1 else X2) := by
  intro rr hr H locs ls hM hS hl
  by_cases q : x < y
  · rw [if_pos q] at hr
    exact lv_icmp_lt hC.1 hC.2.1 hd ht (fun _ => kt rr hr H locs ls hM hS hl) (fun z => absurd q z)
  · rw [if_neg q] at hr
    exact lv_icmp_lt hC.1 hC.2.1 hd ht (fun z => absurd z q) (fun _ => kf rr hr H locs ls hM hS hl)
theorem aw_icmp_lt_t {x y : Int32} {off : Int} {tgt : Nat} (hC : Cx p l e R s m args meth c D loc cy A cc nL ret own fr lo cb sb) (hd : decode cc pc = .ok (.if_icmp .lt off, 3)) (ht : (pc : Int) + off = (tgt : Int)) (hq : x < y) (kt : AW p l e R s m args below meth c D loc cy A nL Qof RF kn (tgt) (L) (S) (h) (X)) : AW p l e R s m args below meth c D loc cy A nL Qof RF kn (pc) (L) (.int y :: .int x :: S) (h) (X) :=
  fun rr hr H locs ls hM hS hl => lv_icmp_lt hC.1 hC.2.1 hd ht (fun _ => kt rr hr H locs ls hM hS hl) (fun z => absurd hq (by first | exact z | exact fun y9 => y9 z))
theorem aw_icmp_lt_f {x y : Int32} {off : Int} {tgt : Nat} (hC : Cx p l e R s m args meth c D loc cy A cc nL ret own fr lo cb sb) (hd : decode cc pc = .ok (.if_icmp .lt off, 3)) (ht : (pc : Int) + off = (tgt : Int)) (hq : ¬ (x < y)) (kf : AW p l e R s m args below meth c D loc cy A nL Qof RF kn (pc + 3) (L) (S) (h) (X)) : AW p l e R s m args below meth c D loc cy A nL Qof RF kn (pc) (L) (.int y :: .int x :: S) (h) (X) :=
  fun rr hr H locs ls hM hS hl => lv_icmp_lt hC.1 hC.2.1 hd ht (fun z => absurd z hq) (fun _ => kf rr hr H locs ls hM hS hl)
theorem aw_icmp_ge {x y : Int32} {off : Int} {tgt : Nat} (hC : Cx p l e R s m args meth c D loc cy A cc nL ret own fr lo cb sb) (hd : decode cc pc = .ok (.if_icmp .ge off, 3)) (ht : (pc : Int) + off = (tgt : Int)) (kt : AW p l e R s m args below meth c D loc cy A nL Qof RF kn (tgt) (L) (S) (h) (X1)) (kf : AW p l e R s m args below meth c D loc cy A nL Qof RF kn (pc + 3) (L) (S) (h) (X2)) : AW p l e R s m args below meth c D loc cy A nL Qof RF kn (pc) (L) (.int y :: .int x :: S) (h) (if y ≤ x then X1 else X2) := by
  intro rr hr H locs ls hM hS hl
  by_cases q : y ≤ x
  · rw [if_pos q] at hr
    exact lv_icmp_ge hC.1 hC.2.1 hd ht (fun _ => kt rr hr H locs ls hM hS hl) (fun z => absurd q z)
  · rw [if_neg q] at hr
    exact lv_icmp_ge hC.1 hC.2.1 hd ht (fun z => absurd z q) (fun _ => kf rr hr H locs ls hM hS hl)
theorem aw_icmp_ge_t {x y : Int32} {off : Int} {tgt : Nat} (hC : Cx p l e R s m args meth c D loc cy A cc nL ret own fr lo cb sb) (hd : decode cc pc = .ok (.if_icmp .ge off, 3)) (ht : (pc : Int) + off = (tgt : Int)) (hq : y ≤ x) (kt : AW p l e R s m args below meth c D loc cy A nL Qof RF kn (tgt) (L) (S) (h) (X)) : AW p l e R s m args below meth c D loc cy A nL Qof RF kn (pc) (L) (.int y :: .int x :: S) (h) (X) :=
  fun rr hr H locs ls hM hS hl => lv_icmp_ge hC.1 hC.2.1 hd ht (fun _ => kt rr hr H locs ls hM hS hl) (fun z => absurd hq (by first | exact z | exact fun y9 => y9 z))
theorem aw_icmp_ge_f {x y : Int32} {off : Int} {tgt : Nat} (hC : Cx p l e R s m args meth c D loc cy A cc nL ret own fr lo cb sb) (hd : decode cc pc = .ok (.if_icmp .ge off, 3)) (ht : (pc : Int) + off = (tgt : Int)) (hq : ¬ (y ≤ x)) (kf : AW p l e R s m args below meth c D loc cy A nL Qof RF kn (pc + 3) (L) (S) (h) (X)) : AW p l e R s m args below meth c D loc cy A nL Qof RF kn (pc) (L) (.int y :: .int x :: S) (h) (X) :=
  fun rr hr H locs ls hM hS hl => lv_icmp_ge hC.1 hC.2.1 hd ht (fun z => absurd z hq) (fun _ => kf rr hr H locs ls hM hS hl)
theorem aw_icmp_gt {x y : Int32} {off : Int} {tgt : Nat} (hC : Cx p l e R s m args meth c D loc cy A cc nL ret own fr lo cb sb) (hd : decode cc pc = .ok (.if_icmp .gt off, 3)) (ht : (pc : Int) + off = (tgt : Int)) (kt : AW p l e R s m args below meth c D loc cy A nL Qof RF kn (tgt) (L) (S) (h) (X1)) (kf : AW p l e R s m args below meth c D loc cy A nL Qof RF kn (pc + 3) (L) (S) (h) (X2)) : AW p l e R s m args below meth c D loc cy A nL Qof RF kn (pc) (L) (.int y :: .int x :: S) (h) (if y < x then X1 else X2) := by
  intro rr hr H locs ls hM hS hl
  by_cases q : y < x
  · rw [if_pos q] at hr
    exact lv_icmp_gt hC.1 hC.2.1 hd ht (fun _ => kt rr hr H locs ls hM hS hl) (fun z => absurd q z)
  · rw [if_neg q] at hr
    exact lv_icmp_gt hC.1 hC.2.1 hd ht (fun z => absurd z q) (fun _ => kf rr hr H locs ls hM hS hl)
theorem aw_icmp_gt_t {x y : Int32} {off : Int} {tgt : Nat} (hC : Cx p l e R s m args meth c D loc cy A cc nL ret own fr lo cb sb) (hd : decode cc pc = .ok (.if_icmp .gt off, 3)) (ht : (pc : Int) + off = (tgt : Int)) (hq : y < x) (kt : AW p l e R s m args below meth c D loc cy A nL Qof RF kn (tgt) (L) (S) (h) (X)) : AW p l e R s m args below meth c D loc cy A nL Qof RF kn (pc) (L) (.int y :: .int x :: S) (h) (X) :=
  fun rr hr H locs ls hM hS hl => lv_icmp_gt hC.1 hC.2.1 hd ht (fun _ => kt rr hr H locs ls hM hS hl) (fun z => absurd hq (by first | exact z | exact fun y9 => y9 z))
theorem aw_icmp_gt_f {x y : Int32} {off : Int} {tgt : Nat} (hC : Cx p l e R s m args meth c D loc cy A cc nL ret own fr lo cb sb) (hd : decode cc pc = .ok (.if_icmp .gt off, 3)) (ht : (pc : Int) + off = (tgt : Int)) (hq : ¬ (y < x)) (kf : AW p l e R s m args below meth c D loc cy A nL Qof RF kn (pc + 3) (L) (S) (h) (X)) : AW p l e R s m args below meth c D loc cy A nL Qof RF kn (pc) (L) (.int y :: .int x :: S) (h) (X) :=
  fun rr hr H locs ls hM hS hl => lv_icmp_gt hC.1 hC.2.1 hd ht (fun z => absurd z hq) (fun _ => kf rr hr H locs ls hM hS hl)
theorem aw_icmp_le {x y : Int32} {off : Int} {tgt : Nat} (hC : Cx p l e R s m args meth c D loc cy A cc nL ret own fr lo cb sb) (hd : decode cc pc = .ok (.if_icmp .le off, 3)) (ht : (pc : Int) + off = (tgt : Int)) (kt : AW p l e R s m args below meth c D loc cy A nL Qof RF kn (tgt) (L) (S) (h) (X1)) (kf : AW p l e R s m args below meth c D loc cy A nL Qof RF kn (pc + 3) (L) (S) (h) (X2)) : AW p l e R s m args below meth c D loc cy A nL Qof RF kn (pc) (L) (.int y :: .int x :: S) (h) (if x ≤ y then X1 else X2) := by
  intro rr hr H locs ls hM hS hl
  by_cases q : x ≤ y
  · rw [if_pos q] at hr
    exact lv_icmp_le hC.1 hC.2.1 hd ht (fun _ => kt rr hr H locs ls hM hS hl) (fun z => absurd q z)
  · rw [if_neg q] at hr
    exact lv_icmp_le hC.1 hC.2.1 hd ht (fun z => absurd z q) (fun _ => kf rr hr H locs ls hM hS hl)
theorem aw_icmp_le_t {x y : Int32} {off : Int} {tgt : Nat} (hC : Cx p l e R s m args meth c D loc cy A cc nL ret own fr lo cb sb) (hd : decode cc pc = .ok (.if_icmp .le off, 3)) (ht : (pc : Int) + off = (tgt : Int)) (hq : x ≤ y) (kt : AW p l e R s m args below meth c D loc cy A nL Qof RF kn (tgt) (L) (S) (h) (X)) : AW p l e R s m args below meth c D loc cy A nL Qof RF kn (pc) (L) (.int y :: .int x :: S) (h) (X) :=
  fun rr hr H locs ls hM hS hl => lv_icmp_le hC.1 hC.2.1 hd ht (fun _ => kt rr hr H locs ls hM hS hl) (fun z => absurd hq (by first | exact z | exact fun y9 => y9 z))
theorem aw_icmp_le_f {x y : Int32} {off : Int} {tgt : Nat} (hC : Cx p l e R s m args meth c D loc cy A cc nL ret own fr lo cb sb) (hd : decode cc pc = .ok (.if_icmp .le off, 3)) (ht : (pc : Int) + off = (tgt : Int)) (hq : ¬ (x ≤ y)) (kf : AW p l e R s m args below meth c D loc cy A nL Qof RF kn (pc + 3) (L) (S) (h) (X)) : AW p l e R s m args below meth c D loc cy A nL Qof RF kn (pc) (L) (.int y :: .int x :: S) (h) (X) :=
  fun rr hr H locs ls hM hS hl => lv_icmp_le hC.1 hC.2.1 hd ht (fun z => absurd z hq) (fun _ => kf rr hr H locs ls hM hS hl)
theorem b2i_0 {b : Bool} : b2i b = 0 ↔ b = false := by cases b <;> decide
theorem aw_if_eq_b {b : Bool} {off : Int} {tgt : Nat} (hC : Cx p l e R s m args meth c D loc cy A cc nL ret own fr lo cb sb) (hd : decode cc pc = .ok (.ifCond .eq off, 3)) (ht : (pc : Int) + off = (tgt : Int)) (kt : AW p l e R s m args below meth c D loc cy A nL Qof RF kn (tgt) (L) (S) (h) (X1)) (kf : AW p l e R s m args below meth c D loc cy A nL Qof RF kn (pc + 3) (L) (S) (h) (X2)) : AW p l e R s m args below meth c D loc cy A nL Qof RF kn (pc) (L) (.int (b2i b) :: S) (h) (if b = true then X2 else X1) := by
  cases b with
  | true => exact aw_if_eq_f hC hd ht (by decide) (by simpa using kf)
  | false => exact aw_if_eq_t hC hd ht (by decide) (by simpa using kt)
theorem aw_if_ne_b {b : Bool} {off : Int} {tgt : Nat} (hC : Cx p l e R s m args meth c D loc cy A cc nL ret own fr lo cb sb) (hd : decode cc pc = .ok (.ifCond .ne off, 3)) (ht : (pc : Int) + off = (tgt : Int)) (kt : AW p l e R s m args below meth c D loc cy A nL Qof RF kn (tgt) (L) (S) (h) (X1)) (kf : AW p l e R s m args below meth c D loc cy A nL Qof RF kn (pc + 3) (L) (S) (h) (X2)) : AW p l e R s m args below meth c D loc cy A nL Qof RF kn (pc) (L) (.int (b2i b) :: S) (h) (if b = true then X1 else X2) := by
  cases b with
  | true => exact aw_if_ne_t hC hd ht (by decide) (by simpa using kt)
  | false => exact aw_if_ne_f hC hd ht (by decide) (by simpa using kf)
theorem aw_guard {b : Bool} (hN : RF Z = none) (kk : b = true → AW p l e R s m args below meth c D loc cy A nL Qof RF kn (pc) (L) (S) (h) (X)) : AW p l e R s m args below meth c D loc cy A nL Qof RF kn (pc) (L) (S) (h) (if b = true then X else Z) := by
  cases b with
  | true => exact kk rfl
  | false => exact aw_none (by simpa using hN)
theorem aw_guardP {q : Prop} {_hq : Decidable q} (hN : RF Z = none) (kk : q → AW p l e R s m args below meth c D loc cy A nL Qof RF kn (pc) (L) (S) (h) (X)) : AW p l e R s m args below meth c D loc cy A nL Qof RF kn pc L S h (@ite α q _hq X Z) := by
  by_cases z : q
  · rw [if_pos z]; exact kk z
  · rw [if_neg z]; exact aw_none hN
theorem aw_guardN {q : Prop} {_hq : Decidable q} (hN : RF Z = none) (kk : ¬ q → AW p l e R s m args below meth c D loc cy A nL Qof RF kn (pc) (L) (S) (h) (X)) : AW p l e R s m args below meth c D loc cy A nL Qof RF kn pc L S h (@ite α q _hq Z X) := by
  by_cases z : q
  · rw [if_pos z]; exact aw_none hN
  · rw [if_neg z]; exact kk z
theorem aw_tabIn {dflt lo2 hi : Int} {offs : Array Int} {len : Nat} {x : Int32} {off : Int} {tgt : Nat} (hC : Cx p l e R s m args meth c D loc cy A cc nL ret own fr lo cb sb) (hd : decode cc pc = .ok (.tableswitch dflt lo2 hi offs, len)) (k : Int32) (h1 : ¬ k.toInt < lo2) (h2 : ¬ hi < k.toInt) (ho : offs[(k.toInt - lo2).toNat]? = some off) (ht : (pc : Int) + off = (tgt : Int)) (kt : AW p l e R s m args below meth c D loc cy A nL Qof RF kn (tgt) (L) (S) (h) (X1)) (kf : ¬ x = k → AW p l e R s m args below meth c D loc cy A nL Qof RF kn (pc) (L) (.int x :: S) (h) (X2)) : AW p l e R s m args below meth c D loc cy A nL Qof RF kn (pc) (L) (.int x :: S) (h) (if x = k then X1 else X2) := by
  by_cases q : x = k
  · subst q
    rw [if_pos rfl]
    exact fun rr hr H locs ls hM hS hl => lv_tableIn hC.1 hC.2.1 hd h1 h2 ho ht (kt rr hr H locs ls hM hS hl)
  · rw [if_neg q]
    exact kf q
theorem aw_tabOut {dflt lo2 hi : Int} {offs : Array Int} {len : Nat} {x : Int32} {tgt : Nat} (hC : Cx p l e R s m args meth c D loc cy A cc nL ret own fr lo cb sb) (hd : decode cc pc = .ok (.tableswitch dflt lo2 hi offs, len)) (hx : x.toInt < lo2 ∨ hi < x.toInt) (ht : (pc : Int) + dflt = (tgt : Int)) (kt : AW p l e R s m args below meth c D loc cy A nL Qof RF kn (tgt) (L) (S) (h) (X)) : AW p l e R s m args below meth c D loc cy A nL Qof RF kn (pc) (L) (.int x :: S) (h) (X) :=
  fun rr hr H locs ls hM hS hl => lv_tableOut hC.1 hC.2.1 hd hx ht (kt rr hr H locs ls hM hS hl)
/-- a field instruction's place in the pool, its class, its slot -/
def FG (own : String) (idx ci k : Nat) : Prop := ∃ (C : String) (T : u_T) (N : Nat) (ty0 : Nat → FieldType), vwCl[ci]? = some (C, T, N) ∧ N = (hkK ci).length ∧ k < N ∧ Cond.fieldLink own idx (T k).1 (T k).2.1 (T k).2.2.1 ∈ LW ∧ (∀ w ∈ u_ws C T N, w ∈ LW) ∧ (∀ j, j < N → parseFieldDescriptor (T j).2.2.1 = some (ty0 j)) ∧ (∀ a, a < N → ∀ b, b < N → a ≠ b → (T a).2.1 ≠ (T b).2.1)
def FP (ci k : Nat) (ty : FieldType) : Prop := ∃ (C : String) (T : u_T) (N : Nat), vwCl[ci]? = some (C, T, N) ∧ (T k).2.2.2 = false ∧ parseFieldDescriptor (T k).2.2.1 = some ty
theorem aw_gf {idx ci i k : Nat} {v : Value} (hC : Cx p l e R s m args meth c D loc cy A cc nL ret own fr lo cb sb) (hd : decode cc pc = .ok (.getfield idx, 3)) (hf : FG own idx ci k) (hr0 : (ci, i, 0) ∈ refs) (hv : fval loc h ci i k = v) (kk : AW p l e R s m args below meth c D loc cy A nL Qof RF kn (pc + 3) (L) (v :: S) (h) (X)) : AW p l e R s m args below meth c D loc cy A nL Qof RF kn (pc) (L) (.ref (loc (ci, i, 0)) :: S) (h) (X) := by
  intro rr hr H locs ls hM hS hl
  obtain ⟨C, T, N, ty0, hcl, hN, hk, hlink, hin, -, -⟩ := hf
  obtain ⟨q, -, hq⟩ := wsl_at (loc := loc) (cy := cy) h hr0
  exact va_get hC.1 hC.2.1 hC.2.2.2.2.2.1 hin hC.2.2.2.2.1 hC.2.2.2.2.2.2.1 hM.1 q hq hcl k hk (hC.2.2.2.2.2.1 _ hlink) (fun _ h9 => h9) (by rw [← hv]; exact flds_get (by rw [← hN]; exact hk)) hd (kk rr hr H locs ls hM hS hl)
theorem aw_gfI {idx ci i k : Nat} (hC : Cx p l e R s m args meth c D loc cy A cc nL ret own fr lo cb sb) (hd : decode cc pc = .ok (.getfield idx, 3)) (hf : FG own idx ci k) (h0 : (hkK ci).getD k 0 = 0) (hr0 : (ci, i, 0) ∈ refs) (kk : AW p l e R s m args below meth c D loc cy A nL Qof RF kn (pc + 3) (L) (.int (gI h (ci, i, 0) k) :: S) (h) (X)) : AW p l e R s m args below meth c D loc cy A nL Qof RF kn (pc) (L) (.ref (loc (ci, i, 0)) :: S) (h) (X) :=
  aw_gf hC hd hf hr0 (by unfold fval; rw [h0]; rfl) kk
theorem aw_gfJ {idx ci i k : Nat} (hC : Cx p l e R s m args meth c D loc cy A cc nL ret own fr lo cb sb) (hd : decode cc pc = .ok (.getfield idx, 3)) (hf : FG own idx ci k) (h0 : (hkK ci).getD k 0 = 1) (hr0 : (ci, i, 0) ∈ refs) (kk : AW p l e R s m args below meth c D loc cy A nL Qof RF kn (pc + 3) (L) (.long (gJ h (ci, i, 0) k) :: S) (h) (X)) : AW p l e R s m args below meth c D loc cy A nL Qof RF kn (pc) (L) (.ref (loc (ci, i, 0)) :: S) (h) (X) :=
  aw_gf hC hd hf hr0 (by unfold fval; rw [h0]; rfl) kk
theorem aw_gfR {idx ci i k : Nat} {r : Rf} (hC : Cx p l e R s m args meth c D loc cy A cc nL ret own fr lo cb sb) (hd : decode cc pc = .ok (.getfield idx, 3)) (hf : FG own idx ci k) (h0 : (hkK ci).getD k 0 = 2) (ht : (hkT i ci).getD k (0, 0, 0) = r) (hr0 : (ci, i, 0) ∈ refs) (kk : AW p l e R s m args below meth c D loc cy A nL Qof RF kn (pc + 3) (L) (.ref (loc r) :: S) (h) (X)) : AW p l e R s m args below meth c D loc cy A nL Qof RF kn (pc) (L) (.ref (loc (ci, i, 0)) :: S) (h) (X) :=
  aw_gf hC hd hf hr0 (by unfold fval; rw [h0, ht]; rfl) kk
theorem sim_put {h2 : HD} {H1 : Heap} {k : Nat} {r : Rf} {e2 : va_E} (hk : refs[k]? = some r) (he : ent loc cy h2 r = e2) (ho : ∀ r2, r2 ∈ refs → r2 ≠ r → ent loc cy h2 r2 = ent loc cy h r2) (h6 : ∀ k, k < 6 → gK h2 k < 10) (h9 : ∀ k j, k < 30 → gO h2 k = some j → j < 9) (hP : va_P D vwCl ((wsl loc cy h).set k (loc r, e2)) H1) : Sim D loc cy h2 H1 := by
  rw [wsl_set hk he ho] at hP
  exact ⟨hP, h6, h9⟩
theorem aw_pfI {idx ci i k : Nat} {x : Int32} {F : HD → α} (hC : Cx p l e R s m args meth c D loc cy A cc nL ret own fr lo cb sb) (hd : decode cc pc = .ok (.putfield idx, 3)) (hf : FG own idx ci k) (hp : FP ci k .int) (h0 : (hkK ci).getD k 0 = 0) (hr0 : (ci, i, 0) ∈ refs) (kk : ∀ h2, AW p l e R s m args below meth c D loc cy A nL Qof RF kn (pc + 3) (L) (S) (h2) (F h2)) : AW p l e R s m args below meth c D loc cy A nL Qof RF kn (pc) (L) (.int x :: .ref (loc (ci, i, 0)) :: S) (h) (lt (sI h (ci, i, 0) k x) F) := by
  intro rr hr H locs ls hM hS hl
  obtain ⟨C, T, N, ty0, hcl, hN, hk, hlink, hin, hty, hnm⟩ := hf
  obtain ⟨C2, T2, N2, hcl2, hfin, hpd⟩ := hp
  have he : (C2, T2, N2) = (C, T, N) := Option.some.inj (hcl2.symm.trans hcl)
  cases he
  obtain ⟨q, hq0, hq⟩ := wsl_at (loc := loc) (cy := cy) h hr0
  have hkl : k < (hkK ci).length := by rw [← hN]; exact hk
  refine va_put hC.1 hC.2.1 hC.2.2.2.2.2.1 hin ty0 hty hnm hC.2.2.2.2.1 hC.2.2.2.2.2.2.1 hM.1 (wsl_D hC.2.2.2.2.2.2.2.1 hC.2.2.2.2.2.2.2.2.1 h) hS q hq hcl k hk (hC.2.2.2.2.2.1 _ hlink) (fun _ h9 => h9) hfin hpd rfl rfl (by show k < (flds loc h ci i).length; unfold flds; rw [List.length_map, List.length_range]; exact hkl) hd (fun H1 locs1 hP1 _ hS1 => ?_)
  refine kk (sI h (ci, i, 0) k x) rr hr H1 locs1 ls (sim_put hq0 ?_ (fun r2 _ hn => ent_sI_ne hn) hM.2.1 hM.2.2 hP1) hS1 hl
  show ent loc cy (sI h (ci, i, 0) k x) (ci, i, 0) = .inr (ci, (flds loc h ci i).set k (.int x))
  rw [ent_obj, flds_sI hkl h0]
theorem aw_pfZ {idx ci i k : Nat} {x : Int32} {b : Bool} {F : HD → α} (hC : Cx p l e R s m args meth c D loc cy A cc nL ret own fr lo cb sb) (hd : decode cc pc = .ok (.putfield idx, 3)) (hf : FG own idx ci k) (hp : FP ci k .boolean) (h0 : (hkK ci).getD k 0 = 0) (hr0 : (ci, i, 0) ∈ refs) (hz : x = b2i b) (kk : ∀ h2, AW p l e R s m args below meth c D loc cy A nL Qof RF kn (pc + 3) (L) (S) (h2) (F h2)) : AW p l e R s m args below meth c D loc cy A nL Qof RF kn (pc) (L) (.int x :: .ref (loc (ci, i, 0)) :: S) (h) (lt (sI h (ci, i, 0) k x) F) := by
  intro rr hr H locs ls hM hS hl
  obtain ⟨C, T, N, ty0, hcl, hN, hk, hlink, hin, hty, hnm⟩ := hf
  obtain ⟨C2, T2, N2, hcl2, hfin, hpd⟩ := hp
  have he : (C2, T2, N2) = (C, T, N) := Option.some.inj (hcl2.symm.trans hcl)
  cases he
  obtain ⟨q, hq0, hq⟩ := wsl_at (loc := loc) (cy := cy) h hr0
  have hkl : k < (hkK ci).length := by rw [← hN]; exact hk
  have hnz : narrow .boolean (.int x) = .int x ∧ fits .boolean (.int x) = true := by subst hz; cases b <;> decide
  refine va_put hC.1 hC.2.1 hC.2.2.2.2.2.1 hin ty0 hty hnm hC.2.2.2.2.1 hC.2.2.2.2.2.2.1 hM.1 (wsl_D hC.2.2.2.2.2.2.2.1 hC.2.2.2.2.2.2.2.2.1 h) hS q hq hcl k hk (hC.2.2.2.2.2.1 _ hlink) (fun _ h9 => h9) hfin hpd hnz.1 hnz.2 (by show k < (flds loc h ci i).length; unfold flds; rw [List.length_map, List.length_range]; exact hkl) hd (fun H1 locs1 hP1 _ hS1 => ?_)
  refine kk (sI h (ci, i, 0) k x) rr hr H1 locs1 ls (sim_put hq0 ?_ (fun r2 _ hn => ent_sI_ne hn) hM.2.1 hM.2.2 hP1) hS1 hl
  show ent loc cy (sI h (ci, i, 0) k x) (ci, i, 0) = .inr (ci, (flds loc h ci i).set k (.int x))
  rw [ent_obj, flds_sI hkl h0]
theorem aw_pfJ {idx ci i k : Nat} {x : Int64} {F : HD → α} (hC : Cx p l e R s m args meth c D loc cy A cc nL ret own fr lo cb sb) (hd : decode cc pc = .ok (.putfield idx, 3)) (hf : FG own idx ci k) (hp : FP ci k .long) (h0 : (hkK ci).getD k 0 = 1) (hr0 : (ci, i, 0) ∈ refs) (kk : ∀ h2, AW p l e R s m args below meth c D loc cy A nL Qof RF kn (pc + 3) (L) (S) (h2) (F h2)) : AW p l e R s m args below meth c D loc cy A nL Qof RF kn (pc) (L) (.long x :: .ref (loc (ci, i, 0)) :: S) (h) (lt (sJ h (ci, i, 0) k x) F) := by
  intro rr hr H locs ls hM hS hl
  obtain ⟨C, T, N, ty0, hcl, hN, hk, hlink, hin, hty, hnm⟩ := hf
  obtain ⟨C2, T2, N2, hcl2, hfin, hpd⟩ := hp
  have he : (C2, T2, N2) = (C, T, N) := Option.some.inj (hcl2.symm.trans hcl)
  cases he
  obtain ⟨q, hq0, hq⟩ := wsl_at (loc := loc) (cy := cy) h hr0
  have hkl : k < (hkK ci).length := by rw [← hN]; exact hk
  refine va_put hC.1 hC.2.1 hC.2.2.2.2.2.1 hin ty0 hty hnm hC.2.2.2.2.1 hC.2.2.2.2.2.2.1 hM.1 (wsl_D hC.2.2.2.2.2.2.2.1 hC.2.2.2.2.2.2.2.2.1 h) hS q hq hcl k hk (hC.2.2.2.2.2.1 _ hlink) (fun _ h9 => h9) hfin hpd rfl rfl (by show k < (flds loc h ci i).length; unfold flds; rw [List.length_map, List.length_range]; exact hkl) hd (fun H1 locs1 hP1 _ hS1 => ?_)
  refine kk (sJ h (ci, i, 0) k x) rr hr H1 locs1 ls (sim_put hq0 ?_ (fun r2 _ hn => ent_sJ_ne hn) hM.2.1 hM.2.2 hP1) hS1 hl
  show ent loc cy (sJ h (ci, i, 0) k x) (ci, i, 0) = .inr (ci, (flds loc h ci i).set k (.long x))
  rw [ent_obj, flds_sJ hkl h0]
theorem ent_arr {r : Rf} {t n : Nat} (hp : Nat.beq r.2.2 0 = false) (ht : arrT r = (t, n)) : ent loc cy h r = .inl (cy t, n, arrC loc h r t) := by
  unfold ent
  rw [hp, ht]
  rfl
theorem aw_iald {r : Rf} {n k : Nat} {i : Int32} (hC : Cx p l e R s m args meth c D loc cy A cc nL ret own fr lo cb sb) (hd : decode cc pc = .ok (.iaload, 1)) (hr0 : r ∈ refs) (hp : Nat.beq r.2.2 0 = false) (ht : arrT r = (1, n)) (hin : inB i n = true) (hk : i.toNatClampNeg = k) (kk : AW p l e R s m args below meth c D loc cy A nL Qof RF kn (pc + 1) (L) (.int (gI h r k) :: S) (h) (X)) : AW p l e R s m args below meth c D loc cy A nL Qof RF kn (pc) (L) (.int i :: .ref (loc r) :: S) (h) (X) := by
  intro rr hr H locs ls hM hS hl
  obtain ⟨q, -, hq⟩ := wsl_at (loc := loc) (cy := cy) h hr0
  rw [ent_arr hp ht] at hq
  subst hk
  exact va_iald hC.1 hC.2.1 hC.2.2.2.2.2.2.1 hM.1 q 1 hq rfl (inB_vp hin) hd (kk rr hr H locs ls hM hS hl)
theorem aw_bald {r : Rf} {n k : Nat} {i : Int32} (hC : Cx p l e R s m args meth c D loc cy A cc nL ret own fr lo cb sb) (hd : decode cc pc = .ok (.baload, 1)) (hr0 : r ∈ refs) (hp : Nat.beq r.2.2 0 = false) (ht : arrT r = (0, n)) (hin : inB i n = true) (hk : i.toNatClampNeg = k) (kk : AW p l e R s m args below meth c D loc cy A nL Qof RF kn (pc + 1) (L) (.int (gI h r k) :: S) (h) (X)) : AW p l e R s m args below meth c D loc cy A nL Qof RF kn (pc) (L) (.int i :: .ref (loc r) :: S) (h) (X) := by
  intro rr hr H locs ls hM hS hl
  obtain ⟨q, -, hq⟩ := wsl_at (loc := loc) (cy := cy) h hr0
  rw [ent_arr hp ht] at hq
  subst hk
  exact va_bald hC.1 hC.2.1 hC.2.2.2.2.2.2.1 hM.1 q 0 hq rfl (inB_vp hin) hd (kk rr hr H locs ls hM hS hl)
theorem aw_zald {r : Rf} {n k : Nat} {i : Int32} (hC : Cx p l e R s m args meth c D loc cy A cc nL ret own fr lo cb sb) (hd : decode cc pc = .ok (.baload, 1)) (hr0 : r ∈ refs) (hp : Nat.beq r.2.2 0 = false) (ht : arrT r = (3, n)) (hin : inB i n = true) (hk : i.toNatClampNeg = k) (kk : AW p l e R s m args below meth c D loc cy A nL Qof RF kn (pc + 1) (L) (.int (gI h r k) :: S) (h) (X)) : AW p l e R s m args below meth c D loc cy A nL Qof RF kn (pc) (L) (.int i :: .ref (loc r) :: S) (h) (X) := by
  intro rr hr H locs ls hM hS hl
  obtain ⟨q, -, hq⟩ := wsl_at (loc := loc) (cy := cy) h hr0
  rw [ent_arr hp ht] at hq
  subst hk
  exact va_zald hC.1 hC.2.1 hC.2.2.2.2.2.2.1 hM.1 q 3 hq rfl (inB_vp hin) hd (kk rr hr H locs ls hM hS hl)
theorem aw_lald {r : Rf} {n k : Nat} {i : Int32} (hC : Cx p l e R s m args meth c D loc cy A cc nL ret own fr lo cb sb) (hd : decode cc pc = .ok (.laload, 1)) (hr0 : r ∈ refs) (hp : Nat.beq r.2.2 0 = false) (ht : arrT r = (2, n)) (hin : inB i n = true) (hk : i.toNatClampNeg = k) (kk : AW p l e R s m args below meth c D loc cy A nL Qof RF kn (pc + 1) (L) (.long (gJ h r k) :: S) (h) (X)) : AW p l e R s m args below meth c D loc cy A nL Qof RF kn (pc) (L) (.int i :: .ref (loc r) :: S) (h) (X) := by
  intro rr hr H locs ls hM hS hl
  obtain ⟨q, -, hq⟩ := wsl_at (loc := loc) (cy := cy) h hr0
  rw [ent_arr hp ht] at hq
  subst hk
  exact va_lald hC.1 hC.2.1 hC.2.2.2.2.2.2.1 hM.1 q 2 hq rfl (inB_vp hin) hd (kk rr hr H locs ls hM hS hl)
theorem aw_iast {r : Rf} {n k : Nat} {i : Int32} {x : Int32} {F : HD → α} (hC : Cx p l e R s m args meth c D loc cy A cc nL ret own fr lo cb sb) (hd : decode cc pc = .ok (.iastore, 1)) (hr0 : r ∈ refs) (hp : Nat.beq r.2.2 0 = false) (ht : arrT r = (1, n)) (hin : inB i n = true) (hk : i.toNatClampNeg = k) (kk : ∀ h2, AW p l e R s m args below meth c D loc cy A nL Qof RF kn (pc + 1) (L) (S) (h2) (F h2)) : AW p l e R s m args below meth c D loc cy A nL Qof RF kn (pc) (L) (.int x :: .int i :: .ref (loc r) :: S) (h) (lt (sI h r k (x)) F) := by
  intro rr hr H locs ls hM hS hl
  obtain ⟨q, hq0, hq⟩ := wsl_at (loc := loc) (cy := cy) h hr0
  have hq2 := hq
  rw [ent_arr hp ht] at hq2
  subst hk
  refine va_iast hC.1 hC.2.1 hC.2.2.2.2.2.2.1 hM.1 (wsl_D hC.2.2.2.2.2.2.2.1 hC.2.2.2.2.2.2.2.2.1 h) hS q 1 hq2 rfl (inB_vp hin) hd (fun H1 locs1 hP1 _ hS1 => ?_)
  refine kk (sI h r i.toNatClampNeg (x)) rr hr H1 locs1 ls (sim_put hq0 ?_ (fun r2 _ hn => ent_sI_ne hn) hM.2.1 hM.2.2 hP1) hS1 hl
  rw [ent_arr hp ht]
  exact congrArg (fun f => Sum.inl (cy 1, n, Sum.inl f)) (funext fun j => by unfold sI upd; by_cases e : j = i.toNatClampNeg <;> simp [e])
theorem aw_bast {r : Rf} {n k : Nat} {i : Int32} {x : Int32} {F : HD → α} (hC : Cx p l e R s m args meth c D loc cy A cc nL ret own fr lo cb sb) (hd : decode cc pc = .ok (.bastore, 1)) (hr0 : r ∈ refs) (hp : Nat.beq r.2.2 0 = false) (ht : arrT r = (0, n)) (hin : inB i n = true) (hk : i.toNatClampNeg = k) (kk : ∀ h2, AW p l e R s m args below meth c D loc cy A nL Qof RF kn (pc + 1) (L) (S) (h2) (F h2)) : AW p l e R s m args below meth c D loc cy A nL Qof RF kn (pc) (L) (.int x :: .int i :: .ref (loc r) :: S) (h) (lt (sI h r k (vp_nar .byte x)) F) := by
  intro rr hr H locs ls hM hS hl
  obtain ⟨q, hq0, hq⟩ := wsl_at (loc := loc) (cy := cy) h hr0
  have hq2 := hq
  rw [ent_arr hp ht] at hq2
  subst hk
  refine va_bast hC.1 hC.2.1 hC.2.2.2.2.2.2.1 hM.1 (wsl_D hC.2.2.2.2.2.2.2.1 hC.2.2.2.2.2.2.2.2.1 h) hS q 0 hq2 rfl (inB_vp hin) hd (fun H1 locs1 hP1 _ hS1 => ?_)
  refine kk (sI h r i.toNatClampNeg (vp_nar .byte x)) rr hr H1 locs1 ls (sim_put hq0 ?_ (fun r2 _ hn => ent_sI_ne hn) hM.2.1 hM.2.2 hP1) hS1 hl
  rw [ent_arr hp ht]
  exact congrArg (fun f => Sum.inl (cy 0, n, Sum.inl f)) (funext fun j => by unfold sI upd; by_cases e : j = i.toNatClampNeg <;> simp [e])
theorem aw_zast {r : Rf} {n k : Nat} {i : Int32} {x : Int32} {F : HD → α} (hC : Cx p l e R s m args meth c D loc cy A cc nL ret own fr lo cb sb) (hd : decode cc pc = .ok (.bastore, 1)) (hr0 : r ∈ refs) (hp : Nat.beq r.2.2 0 = false) (ht : arrT r = (3, n)) (hin : inB i n = true) (hk : i.toNatClampNeg = k) (kk : ∀ h2, AW p l e R s m args below meth c D loc cy A nL Qof RF kn (pc + 1) (L) (S) (h2) (F h2)) : AW p l e R s m args below meth c D loc cy A nL Qof RF kn (pc) (L) (.int x :: .int i :: .ref (loc r) :: S) (h) (lt (sI h r k (vp_nar .boolean x)) F) := by
  intro rr hr H locs ls hM hS hl
  obtain ⟨q, hq0, hq⟩ := wsl_at (loc := loc) (cy := cy) h hr0
  have hq2 := hq
  rw [ent_arr hp ht] at hq2
  subst hk
  refine va_zast hC.1 hC.2.1 hC.2.2.2.2.2.2.1 hM.1 (wsl_D hC.2.2.2.2.2.2.2.1 hC.2.2.2.2.2.2.2.2.1 h) hS q 3 hq2 rfl (inB_vp hin) hd (fun H1 locs1 hP1 _ hS1 => ?_)
  refine kk (sI h r i.toNatClampNeg (vp_nar .boolean x)) rr hr H1 locs1 ls (sim_put hq0 ?_ (fun r2 _ hn => ent_sI_ne hn) hM.2.1 hM.2.2 hP1) hS1 hl
  rw [ent_arr hp ht]
  exact congrArg (fun f => Sum.inl (cy 3, n, Sum.inl f)) (funext fun j => by unfold sI upd; by_cases e : j = i.toNatClampNeg <;> simp [e])
theorem aw_last {r : Rf} {n k : Nat} {i : Int32} {x : Int64} {F : HD → α} (hC : Cx p l e R s m args meth c D loc cy A cc nL ret own fr lo cb sb) (hd : decode cc pc = .ok (.lastore, 1)) (hr0 : r ∈ refs) (hp : Nat.beq r.2.2 0 = false) (ht : arrT r = (2, n)) (hin : inB i n = true) (hk : i.toNatClampNeg = k) (kk : ∀ h2, AW p l e R s m args below meth c D loc cy A nL Qof RF kn (pc + 1) (L) (S) (h2) (F h2)) : AW p l e R s m args below meth c D loc cy A nL Qof RF kn (pc) (L) (.long x :: .int i :: .ref (loc r) :: S) (h) (lt (sJ h r k (x)) F) := by
  intro rr hr H locs ls hM hS hl
  obtain ⟨q, hq0, hq⟩ := wsl_at (loc := loc) (cy := cy) h hr0
  have hq2 := hq
  rw [ent_arr hp ht] at hq2
  subst hk
  refine va_last hC.1 hC.2.1 hC.2.2.2.2.2.2.1 hM.1 (wsl_D hC.2.2.2.2.2.2.2.1 hC.2.2.2.2.2.2.2.2.1 h) hS q 2 hq2 rfl (inB_vp hin) hd (fun H1 locs1 hP1 _ hS1 => ?_)
  refine kk (sJ h r i.toNatClampNeg (x)) rr hr H1 locs1 ls (sim_put hq0 ?_ (fun r2 _ hn => ent_sJ_ne hn) hM.2.1 hM.2.2 hP1) hS1 hl
  rw [ent_arr hp ht]
  exact congrArg (fun f => Sum.inl (cy 2, n, Sum.inr (Sum.inl f))) (funext fun j => by unfold sJ vp_updL; by_cases e : j = i.toNatClampNeg <;> simp [e])
theorem aw_alen {r : Rf} {t n : Nat} {v : Int32} {ty : FieldType} (hC : Cx p l e R s m args meth c D loc cy A cc nL ret own fr lo cb sb) (hd : decode cc pc = .ok (.arraylength, 1)) (hr0 : r ∈ refs) (hp : Nat.beq r.2.2 0 = false) (ht : arrT r = (t, n)) (hty : (tysO cy)[t]? = some (cy t, ty)) (hv : Int32.ofNat n = v) (kk : AW p l e R s m args below meth c D loc cy A nL Qof RF kn (pc + 1) (L) (.int v :: S) (h) (X)) : AW p l e R s m args below meth c D loc cy A nL Qof RF kn (pc) (L) (.ref (loc r) :: S) (h) (X) := by
  intro rr hr H locs ls hM hS hl
  obtain ⟨q, -, hq⟩ := wsl_at (loc := loc) (cy := cy) h hr0
  rw [ent_arr hp ht] at hq
  exact va_alen hC.1 hC.2.1 hC.2.2.2.2.2.2.1 hM.1 q t hq hty hv hd (kk rr hr H locs ls hM hS hl)
theorem aw_kald {k : Nat} {i : Int32} (hC : Cx p l e R s m args meth c D loc cy A cc nL ret own fr lo cb sb) (hd : decode cc pc = .ok (.aaload, 1)) (hin : inB i 6 = true) (hk : i.toNatClampNeg = k) (kk : gK h k < 10 → AW p l e R s m args below meth c D loc cy A nL Qof RF kn (pc + 1) (L) (.ref (loc (1, gK h k, 0)) :: S) (h) (X)) : AW p l e R s m args below meth c D loc cy A nL Qof RF kn (pc) (L) (.int i :: .ref (loc (6, 0, 1)) :: S) (h) (X) := by
  intro rr hr H locs ls hM hS hl
  obtain ⟨q, -, hq⟩ := wsl_at (loc := loc) (cy := cy) h (r := (6, 0, 1)) (by decide +kernel)
  subst hk
  have hlt : i.toNatClampNeg < 6 := by
    unfold inB at hin
    simp only [Bool.and_eq_true, decide_eq_true_eq] at hin
    exact hin.2
  exact va_aldq hC.1 hC.2.1 hC.2.2.2.2.2.2.1 hM.1 q 5 hq rfl (inB_vp hin) hd (kk (hM.2.1 _ hlt) rr hr H locs ls hM hS hl)
theorem aw_kast {k v : Nat} {i : Int32} {F : HD → α} (hC : Cx p l e R s m args meth c D loc cy A cc nL ret own fr lo cb sb) (hd : decode cc pc = .ok (.aastore, 1)) (hv : v < 10) (hvr : (1, v, 0) ∈ refs) (hin : inB i 6 = true) (hk : i.toNatClampNeg = k) (kk : ∀ h2, AW p l e R s m args below meth c D loc cy A nL Qof RF kn (pc + 1) (L) (S) (h2) (F h2)) : AW p l e R s m args below meth c D loc cy A nL Qof RF kn (pc) (L) (.ref (loc (1, v, 0)) :: .int i :: .ref (loc (6, 0, 1)) :: S) (h) (lt (sK h k v) F) := by
  intro rr hr H locs ls hM hS hl
  obtain ⟨q, hq0, hq⟩ := wsl_at (loc := loc) (cy := cy) h (r := (6, 0, 1)) (by decide +kernel)
  obtain ⟨q2, -, hq2⟩ := wsl_at (loc := loc) (cy := cy) h hvr
  subst hk
  refine va_astq hC.1 hC.2.1 hC.2.2.2.2.2.2.1 hM.1 (wsl_D hC.2.2.2.2.2.2.2.1 hC.2.2.2.2.2.2.2.2.1 h) hS q 5 q2 1 hq rfl hq2 rfl (inB_vp hin) hd (fun H1 locs1 hP1 _ hS1 => ?_)
  refine kk (sK h i.toNatClampNeg v) rr hr H1 locs1 ls (sim_put hq0 ?_ (fun r2 hr2 hn => ent_sK_ne hr2 hn) (fun j hj => ?_) hM.2.2 hP1) hS1 hl
  · refine congrArg (fun f => Sum.inl (cy 5, 6, Sum.inr (Sum.inr (Sum.inr (Sum.inr f))))) (funext fun j => ?_)
    unfold sK
    by_cases e : j = i.toNatClampNeg <;> simp [e, va_up]
  · unfold gK sK
    by_cases e : j = i.toNatClampNeg
    · simp only [e, if_true]; exact hv
    · simp only [e, if_false]; exact hM.2.1 j hj
end ROWS
