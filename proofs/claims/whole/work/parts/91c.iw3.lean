theorem dZ6_text_0 : decode cX6_text 0 = .ok (.aload_n 0, 1) := by decide +kernel
theorem dZ6_text_1 : decode cX6_text 1 = .ok (.getfield 14, 3) := by decide +kernel
theorem dZ6_text_4 : decode cX6_text 4 = .ok (.areturn, 1) := by decide +kernel
theorem wP_keep {A0 : Nat → Prop} {D : va_G} {cl : List vw_C} {ws cs : va_W} {H H1 : Heap} (hP : va_P D cl ws H) (hD : va_D A0 ws) (isC : List Nat) (eC : isC.map (fun i => ws[i]?) = cs.map some) (k1 : ∀ q : Nat, q < H.size → ¬ va_A cs H.size q → H1[q]? = H[q]?) (hP1 : va_P D cl cs H1) : va_P D cl ws H1 := by
  intro k q hk
  have hlt := (hP k q hk).lt
  by_cases h : va_A cs H.size q.1
  · rcases h with ⟨k2, e, h⟩ | h
    · have h1 : (isC.map (fun i => ws[i]?))[k2]? = some (some (q.1, e)) := by rw [eC, List.getElem?_map, h]; rfl
      rw [List.getElem?_map] at h1
      cases hi : isC[k2]? with
      | none => rw [hi] at h1; cases h1
      | some j =>
        rw [hi] at h1
        have hj : ws[j]? = some (q.1, e) := Option.some.inj h1
        have hkj := hD.1 k j q (q.1, e) hk hj rfl
        subst hkj
        have e3 : q = (q.1, e) := Option.some.inj (hk.symm.trans hj)
        rw [e3]
        exact hP1 k2 _ h
    · omega
  · exact (hP k q hk).kept (k1 q.1 hlt h)
theorem arrV_congr {cI : ClassId} {N : Nat} {f g : Nat → Value} (h : ∀ j, j < N → f j = g j) : arrV cI N f = arrV cI N g := by
  unfold arrV
  congr 1
  exact congrArg Array.ofFn (funext fun j => h j.val j.isLt)
theorem outC_arr (c : ClassId) (N h : Nat) : ∀ n, Jvm.Free.Multi.outerC c N h n = arrV c N (fun j => if j < n then .ref (h + 1 + j) else .null)
  | 0 => by
    show ({ cls := c, slots := Array.replicate N .null, vm := .none } : Cell) = _
    rw [arrV_new]
    exact arrV_congr fun j _ => (if_neg (Nat.not_lt_zero j)).symm
  | n + 1 => by
    show (Jvm.Free.Multi.outerC c N h n).setSlot n (.ref (h + 1 + n)) = _
    rw [outC_arr c N h n, arrV_store]
    refine arrV_congr fun j _ => ?_
    unfold updV
    by_cases e : j = n
    · subst e
      rw [if_pos rfl, if_pos (by omega)]
    · rw [if_neg e]
      show (if j < n then _ else _) = _
      by_cases q : j < n
      · rw [if_pos q, if_pos (by omega)]
      · rw [if_neg q, if_neg (by omega)]
section IWR3
variable {p : Program} {l : Launch} {e : Env} {R : Room} {s : State} {m : MethodId} {args : Array Value} {below : List Frame} {meth : Method} {c : Code} {D : va_G} {cy : Nat → ClassId} {A : Nat → Prop} {cc : ByteArray} {nL : Nat} {ret : Option FieldType} {own nm : String} {fr lo cb sb : Nat} {Q : State → Prop} {kn : Nat × Nat} {pc : Nat} {L : List (Nat × Value)} {S : List Value} {ws : va_W}
theorem iw_callK {idx n mL fr2 lo2 b ci qb N : Nat} {y : MethodName} {bytes : ByteArray} {rt : Option FieldType} {As ST : List Value} {cs : va_W} {rv : Option Value} {T : u_T} {fs : List Value} (isC : List Nat) (hC : Ix p R s m args meth c D cy A cc nL ret own nm fr lo cb sb) (hd : decode cc pc = .ok (.invokevirtual idx, 3)) (hv : CV own idx y bytes mL rt n) (hM : IM l D cy y bytes mL rt fr2 lo2 0 0 (.ref b :: As) cs (fun _ => cs) rv) (eC : isC.map (fun i => ws[i]?) = cs.map some) (hnd : va_nd isC = true) (hcl : vwCl[ci]? = some (y.cls, T, N)) (he : ws[qb]? = some (b, .inr (ci, fs))) (hn : As.length = n) (hST : ST = As.reverse ++ .ref b :: S) (hW : Nat.ble ((S.map fun v => v.category).sum) 8 = true) (hf : Nat.ble (fr2 + 1) fr = true) (hlo : Nat.ble (8 + (mL + 11) + lo2) lo = true) (hk : Nat.ble kn.1 cb = true ∧ Nat.ble kn.2 sb = true)
    (kk : IW p l e R s m args below meth c D A nL Q kn (pc + 3) L (rv.toList ++ S) ws) : IW p l e R s m args below meth c D A nL Q kn pc L ST ws := by
  intro H locs ls hP hD hS hl
  have hR1 := Nat.le_trans (Nat.le_of_ble_eq_true hf) hC.2.2.2.2.2.2.2.2.2.2.1
  have hR2 := Nat.le_trans (Nat.le_of_ble_eq_true hlo) hC.2.2.2.2.2.2.2.2.2.2.2.1
  have hR3 := Nat.le_trans (Nat.le_of_ble_eq_true hk.1) hC.2.2.2.2.2.2.2.2.2.2.2.2.1
  have hR4 := Nat.le_trans (Nat.le_of_ble_eq_true hk.2) hC.2.2.2.2.2.2.2.2.2.2.2.2.2
  have hts := hC.2.2.2.2.2.1
  obtain ⟨h1, h2, h3, h4, h5, h6, h7, h8⟩ := hv
  have hDc : va_D A cs := hD.sub isC hnd eC
  have hPc : va_P D vwCl cs H := fun k q hk2 => by
    have g1 : (isC.map (fun i => ws[i]?))[k]? = some (some q) := by rw [eC, List.getElem?_map, hk2]; rfl
    rw [List.getElem?_map] at g1
    cases hi : isC[k]? with
    | none => rw [hi] at g1; cases g1
    | some j => rw [hi] at g1; exact hP j q (Option.some.inj g1)
  have hFc : ∀ q, va_A cs H.size q → A q := va_free hD hS hC.2.2.2.2.2.2.2.1 isC eC
  have hrun := va_runV (p := p) (e := e) (below := below) (meth := meth) (locs := locs) (cells := kn.1) (slots := kn.2) (g := F0 m pc ls ST) (As := As) (b := b) (rest := S) ⟨hC.1, hC.2.1, hC.2.2.1, hC.2.2.2.2.1, hts⟩ (hM H.size) ⟨callB_of n hts (GL h5) rfl rfl rfl (hts _ h4) (hts _ h1) ⟨h6, h7, h8⟩ ⟨hR1, hR2⟩, hts _ h2, hts _ h3⟩ ⟨IP_blind, va_recv hC.2.2.2.2.2.2.1.1 hP hcl he, fun U hU hW => ⟨rfl, by rw [hU], by rw [hU]; exact hPc, KX.warm hW hC.2.2.2.2.2.2.1, hDc.weaken (fun _ _ _ _ => trivial)⟩⟩ rfl hn hl.1 hST (lv_room (Nat.le_of_ble_eq_true hW)) hd ⟨hR3, hR4⟩
  intro T0 hT X0
  obtain ⟨v, st₀, t, T', L2, h0, X', hL, e1, e2, ⟨q1, ⟨f, q2, q3⟩, q4⟩, st⟩ := hrun T0 hT X0
  cases q1
  obtain ⟨z, k1⟩ := q4
  rw [h0] at z k1
  have hS2 : va_S A s.heap T'.heap (locs ++ L2) := ⟨Nat.le_trans hS.1 (by rw [e1]; exact z), fun q h1 h2 => by rw [e1, k1 q (Nat.lt_of_lt_of_le h1 hS.1) (fun z => h2 (hFc q z))]; exact hS.2.1 q h1 h2, fun q hq => by
    rcases List.mem_append.mp hq with h | h
    · exact hS.2.2 q h
    · exact hFc _ (hL q h)⟩
  obtain ⟨t2, a1, b1⟩ := kk T'.heap (locs ++ L2) ls (wP_keep hP hD isC eC (fun q h1 h2 => by rw [e1]; exact k1 q h1 h2) (by rw [e1]; exact q2)) hD hS2 hl T' rfl X'
  exact ⟨t2, st t2 a1, b1⟩
theorem iw_aret {mc ms : Nat} {ws0 : va_W} {post : (Nat → Nat) → va_W} {v : Value} {rt : FieldType} (f : Nat → Nat) (hC : Ix p R s m args meth c D cy A cc nL ret own nm fr lo cb sb) (hA : ∀ q, A q ↔ va_A ws0 s.heap.size q) (hd : decode cc pc = .ok (.areturn, 1)) (hr0 : ret = some rt) (hrt : (∃ n, rt = .object n) ∨ ∃ t, rt = .array t) (hv : v = .null ∨ ∃ a, v = .ref a) (hmc : Nat.ble kn.1 mc = true) (hms : Nat.ble kn.2 ms = true) (hw : ws = post f) : IW p l e R s m args below meth c D A nL (MQ below (IQ D s.heap.size ws0 post (some v)) args s mc ms A) kn pc L [v] ws := by
  intro H locs ls hP hD hS hl
  subst hw
  have hAA : A = va_A ws0 s.heap.size := funext fun q => propext (hA q)
  subst hAA
  exact W.widen (Nat.le_of_ble_eq_true hmc) (Nat.le_of_ble_eq_true hms) (W.aret hC.1 hC.2.1 (hC.2.2.2.1.trans hr0) hrt hv (fun t ht _ => ⟨rfl, ⟨f, by rw [ht]; exact hP, hD⟩, hS.F ht⟩) hS.2.2 hd hC.2.2.2.2.2.2.2.2.1)
theorem iw_iast {q0 n a t : Nat} {f : Nat → Int32} {i x : Int32} (hC : Ix p R s m args meth c D cy A cc nL ret own nm fr lo cb sb) (hd : decode cc pc = .ok (.iastore, 1)) (ha : ws[q0]? = some (a, .inl (cy t, n, .inl f))) (ht : (tysO cy)[t]? = some (cy t, .int)) (hin : inB i n = true) (kk : IW p l e R s m args below meth c D A nL Q kn (pc + 1) L S (ws.set q0 (a, .inl (cy t, n, .inl (upd f i.toNatClampNeg x))))) : IW p l e R s m args below meth c D A nL Q kn pc L (.int x :: .int i :: .ref a :: S) ws :=
  fun H locs ls hP hD hS hl => va_iast hC.1 hC.2.1 hC.2.2.2.2.2.2.1.1 hP hD hS q0 t ha ht (inB_vp hin) hd (fun H1 locs1 hP1 hD1 hS1 => kk H1 locs1 ls hP1 hD1 hS1 hl)
/-- a row of rows, and its rows -/
def mnL (g : Nat → Nat) : List Nat := [g 1, g 2, g 3, g 4, g 5, g 6, g 7, g 8, g 9, g 10, g 11, g 12]
def mnW (cy : Nat → ClassId) (g : Nat → Nat) : va_W := (g 0, .inl (cy 4, 12, .inr (.inr (.inr (.inr (fun j => some ((mnL g).getD j 0))))))) :: (mnL g).map (fun a => (a, .inl (cy 1, 12, .inl (fun _ => 0))))
theorem mnL_at (h k : Nat) (hk : k < 12) : (mnL (fun j => h + j))[k]? = some (h + (k + 1)) := by
  rcases (show k = 0 ∨ k = 1 ∨ k = 2 ∨ k = 3 ∨ k = 4 ∨ k = 5 ∨ k = 6 ∨ k = 7 ∨ k = 8 ∨ k = 9 ∨ k = 10 ∨ k = 11 by omega) with rfl | rfl | rfl | rfl | rfl | rfl | rfl | rfl | rfl | rfl | rfl | rfl <;> rfl
theorem iw_mnew {idx : Nat} (hC : Ix p R s m args meth c D cy A cc nL ret own nm fr lo cb sb) (hd : decode cc pc = .ok (.multianewarray idx 2, 4)) (hcl : Cond.classLink own idx "[[I" ∈ LW) (harr : Cond.arrayClass .int ∈ LW) (hao : AOA s) (hk : Nat.ble (kn.1 + 13) cb = true ∧ Nat.ble (kn.2 + 156) sb = true)
    (kk : ∀ g, IW p l e R s m args below meth c D A nL Q (kn.1 + 13, kn.2 + 156) (pc + 4) L (.ref (g 0) :: S) (ws ++ mnW cy g)) : IW p l e R s m args below meth c D A nL Q kn pc L (.int 12 :: .int 12 :: S) ws := by
  intro H locs ls hP hD hS hl T hT X0
  have hts := hC.2.2.2.2.2.1
  have hR3 := Nat.le_trans (Nat.le_of_ble_eq_true hk.1) hC.2.2.2.2.2.2.2.2.2.2.2.2.1
  have hR4 := Nat.le_trans (Nat.le_of_ble_eq_true hk.2) hC.2.2.2.2.2.2.2.2.2.2.2.2.2
  have e12 : (12 : Int32).toNatClampNeg = 12 := by decide
  obtain ⟨vm₁, cA, comp, hW1, hfA, hfC, -, -, X1, step⟩ := X0.multianewarray2F hC.1 (own := own) (index := idx) (ty := .int) hC.2.2.2.2.1 (hts _ hcl) hao (hts _ harr) (g := F0 m pc ls (.int 12 :: .int 12 :: S)) rfl (by rw [hC.2.1]; exact hd) (n := 12) (k := 12) (rest := S) rfl (by decide) (by decide) (by decide) (by decide) (by decide) rfl rfl (by rw [e12]; exact hR3) (by rw [e12]; exact hR4)
  rw [e12] at X1 step
  obtain ⟨f1, f2, f3, f4⟩ := Jvm.Free.Multi.fill_facts (T.setVm vm₁) cA comp 12 12 (defaultValue .int) 12
  have hsz : (T.setVm vm₁).heap.size = H.size := by show T.heap.size = _; rw [hT]
  have hhp : (T.setVm vm₁).heap = H := hT
  have hold : ∀ q, q < H.size → (Jvm.Free.Multi.fill (T.setVm vm₁) cA comp 12 12 (defaultValue .int) 12).heap[q]? = H[q]? := fun q hq => by
    rw [Jvm.Free.Multi.fill_old (T.setVm vm₁) cA comp 12 12 _ (by rw [hsz]; exact hq), hhp]
  obtain ⟨o1, o2, o3⟩ := Jvm.Free.Multi.outerC_facts cA 12 H.size 12
  have ecA : cA = cy 4 := by
    have k2 : s.vm.findClass ("[" ++ (FieldType.array .int).toString) = some (cy 4) := (hC.2.2.2.2.2.2.1.1.2 4 _ rfl).2
    exact Option.some.inj (hfA.symm.trans k2)
  have ecI : comp = cy 1 := by
    have k2 : s.vm.findClass ("[" ++ FieldType.int.toString) = some (cy 1) := (hC.2.2.2.2.2.2.1.1.2 1 _ rfl).2
    have k3 : s.vm.findClass (FieldType.array .int).toString = some comp := hfC
    exact Option.some.inj (k3.symm.trans k2)
  subst ecA
  subst ecI
  have hout : Jvm.Free.Multi.outerC (cy 4) 12 H.size 12 = arrV (cy 4) 12 (fun j => va_rf (some ((mnL (fun j => H.size + j)).getD j 0))) := by
    rw [outC_arr]
    refine arrV_congr fun j hj => ?_
    rw [if_pos hj]
    rw [List.getD_eq_getElem?_getD, mnL_at H.size j hj]
    show Value.ref _ = Value.ref _
    rw [show H.size + 1 + j = H.size + (j + 1) by omega]
    rfl
  have hnew : ∀ (k : Nat) (q : Nat × va_E), (mnW cy (fun j => H.size + j))[k]? = some q → q.1 = H.size + k ∧ k < 13 ∧ va_at D vwCl q (Jvm.Free.Multi.fill (T.setVm vm₁) (cy 4) (cy 1) 12 12 (defaultValue .int) 12).heap := by
    intro k q hq
    cases k with
    | zero =>
      cases hq
      refine ⟨rfl, by omega, ?_⟩
      show _ = some (vp_cell _ _)
      rw [vp_cell_q, ← hout]
      have f2' := f2
      rw [hsz] at f2'
      exact f2'
    | succ k =>
      have hq2 : ((mnL (fun j => H.size + j)).map (fun a => ((a, .inl (cy 1, 12, .inl (fun _ => 0))) : Nat × va_E)))[k]? = some q := hq
      rw [List.getElem?_map] at hq2
      by_cases hk2 : k < 12
      · rw [mnL_at H.size k hk2] at hq2
        cases hq2
        refine ⟨rfl, by omega, ?_⟩
        show _ = some (vp_cell _ _)
        rw [vp_cell_i, ← arrV_new]
        have := Jvm.Free.Multi.fill_inner (T.setVm vm₁) (cy 4) (cy 1) 12 12 (defaultValue .int) 12 k hk2
        rw [hsz, show H.size + 1 + k = H.size + (k + 1) by omega] at this
        exact this
      · rw [List.getElem?_eq_none (by show 12 ≤ k; omega)] at hq2
        cases hq2
  have hP2 : va_P D vwCl (ws ++ mnW cy (fun j => H.size + j)) (Jvm.Free.Multi.fill (T.setVm vm₁) (cy 4) (cy 1) 12 12 (defaultValue .int) 12).heap :=
    (hP.kept (fun k q hk2 => hold q.1 ((hP k q hk2).lt))).app (fun k q hq => (hnew k q hq).2.2)
  have hD2 : va_D A (ws ++ mnW cy (fun j => H.size + j)) := by
    refine hD.app ⟨fun i j x y hi hj hxy => ?_, fun k q hq => hC.2.2.2.2.2.2.2.1 _ (Nat.le_trans hS.1 (by rw [(hnew k q hq).1]; omega))⟩ (fun i j x y hi hj hxy => ?_)
    · have a1 := (hnew i x hi).1
      have a2 := (hnew j y hj).1
      omega
    · have a1 := (hP i x hi).lt
      have a2 := (hnew j y hj).1
      omega
  have hS2 : va_S A s.heap (Jvm.Free.Multi.fill (T.setVm vm₁) (cy 4) (cy 1) 12 12 (defaultValue .int) 12).heap locs :=
    ⟨Nat.le_trans hS.1 (by rw [f1, hsz]; omega), fun q h1 h2 => (hold q (Nat.lt_of_lt_of_le h1 hS.1)).trans (hS.2.1 q h1 h2), hS.2.2⟩
  obtain ⟨t2, a1, b1⟩ := kk (fun j => H.size + j) _ locs ls hP2 hD2 hS2 hl _ rfl (by
    have e : kn.1 + 1 + 12 = kn.1 + 13 := by omega
    have e2 : kn.2 + 12 + 12 * 12 = kn.2 + 156 := by omega
    rw [e, e2] at X1
    exact X1)
  refine ⟨t2, step t2 ?_, b1⟩
  have e3 : T.heap.size = H.size + 0 := by rw [hT]; rfl
  rw [e3]
  exact a1
end IWR3
theorem I_X6_text (l : Launch) (D : va_G) (cy : Nat → ClassId) (t b : Nat) (fs : List Value) (hv : fs[0]? = some (.ref b)) : IM l D cy yX6_text cX6_text 1 (some (.object "ParkingCircle$Bytes")) 0 16 0 0 [.ref t] [(t, .inr (4, fs))] (fun _ => [(t, .inr (4, fs))]) (some (.ref b)) := by
  refine im_start (y := yX6_text) (av := [.ref t]) (nL := 1) (by decide +kernel) rfl ?_
  intro p e R s m below meth c A hC hA
  refine iw_aload_n hC dZ6_text_0 rfl ?_
  refine iw_get (q0 := 0) hC dZ6_text_1 fg_RX6_14 rfl hv ?_
  exact iw_aret (fun _ => 0) hC hA dZ6_text_4 rfl (Or.inl ⟨_, rfl⟩) (Or.inr ⟨_, rfl⟩) rfl rfl rfl
theorem upd_0 (k : Nat) : upd (fun _ => (0 : Int32)) k 0 = fun _ => 0 := by
  funext j
  unfold upd
  split <;> rfl
theorem I_X9_clears (l : Launch) (D : va_G) (cy : Nat → ClassId) (t b : Nat) (fs : List Value) (hv : fs[13]? = some (.ref b)) : IM l D cy yX9_clears cX9_clears 2 none 0 16 0 0 [.ref t] [(t, .inr (7, fs)), (b, .inl (cy 1, 13, .inl (fun _ => 0)))] (fun _ => [(t, .inr (7, fs)), (b, .inl (cy 1, 13, .inl (fun _ => 0)))]) none := by
  refine im_start (y := yX9_clears) (av := [.ref t]) (nL := 2) (by decide +kernel) rfl ?_
  intro p e R s m below meth c A hC hA
  refine iw_iconst hC dX9_clears_0 (v := iZ 0) (by decide) ?_
  refine iw_istore_n hC dX9_clears_1 (by decide) ?_
  have key : ∀ (n : Nat) (z : Int), 0 ≤ z → z + n = 13 → IW p l e R s m [Value.ref t].toArray below meth c D A 2 (MQ below (IQ D s.heap.size [(t, .inr (7, fs)), (b, .inl (cy 1, 13, .inl (fun _ => 0)))] (fun _ => [(t, .inr (7, fs)), (b, .inl (cy 1, 13, .inl (fun _ => 0)))]) none) [Value.ref t].toArray s 0 0 A) (0, 0) 2 [(0, .ref t), (1, .int (iZ z))] [] [(t, .inr (7, fs)), (b, .inl (cy 1, 13, .inl (fun _ => 0)))] := by
    intro n
    induction n with
    | zero =>
      intro z hz he
      refine iw_iload_n hC dX9_clears_2 rfl ?_
      refine iw_bipush hC dX9_clears_3 (v := iZ 13) (by decide) ?_
      refine iw_icmp_ge_t hC dX9_clears_5 (tgt := 21) (by decide) (by rw [iZ_le (by omega) (by omega) (by omega) (by omega)]; omega) ?_
      exact iw_vret (fun _ => 0) hC hA dX9_clears_21 rfl rfl rfl rfl
    | succ n ih =>
      intro z hz he
      refine iw_iload_n hC dX9_clears_2 rfl ?_
      refine iw_bipush hC dX9_clears_3 (v := iZ 13) (by decide) ?_
      refine iw_icmp_ge_f hC dX9_clears_5 (tgt := 21) (by decide) (by rw [iZ_le (by omega) (by omega) (by omega) (by omega)]; omega) ?_
      refine iw_aload_n hC dX9_clears_8 rfl ?_
      refine iw_get (q0 := 0) hC dX9_clears_9 fg_RX9_20 rfl hv ?_
      refine iw_iload_n hC dX9_clears_12 rfl ?_
      refine iw_iconst hC dX9_clears_13 (v := 0) (by decide) ?_
      refine iw_iast (q0 := 1) (n := 13) (t := 1) hC dX9_clears_14 rfl rfl (by rw [iZ_inB (by omega) (by omega)]; exact decide_eq_true ⟨hz, by omega⟩) ?_
      rw [upd_0]
      refine iw_iinc hC dX9_clears_15 rfl (v := iZ (z + 1)) (iZ_add z 1) (by decide) ?_
      refine iw_goto hC dX9_clears_18 (tgt := 2) (by decide) ?_
      exact ih (z + 1) (by omega) (by omega)
  exact key 13 0 (by omega) (by omega)
