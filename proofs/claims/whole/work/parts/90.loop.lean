section LWL
variable {p : Program} {l : Launch} {e : Env} {R : Room} {s : State} {m : MethodId} {args : Array Value} {below : List Frame} {meth : Method} {c : Code} {D : va_G} {loc : Rf → Nat} {cy : Nat → ClassId} {A : Nat → Prop} {ret : Option FieldType} {cb sb : Nat} {Qof : RR → State → Prop} {α : Type} {RF : α → Option RR} {kn : Nat × Nat} {h : HD} {X : α} {b n : Nat} {xs : Nat → Int32} {i : Int32}
theorem aw_tabI {cc : ByteArray} {nL : Nat} {own : String} {fr lo : Nat} {pc : Nat} {L : List (Nat × Value)} {S : List Value} {dflt lo2 hi : Int} {offs : Array Int} {len : Nat} {x : Int32} {off : Int} {tgt : Nat} (hC : Cx p l e R s m args meth c D loc cy A cc nL ret own fr lo cb sb) (hd : decode cc pc = .ok (.tableswitch dflt lo2 hi offs, len)) (k : Int32) (h1 : ¬ k.toInt < lo2) (h2 : ¬ hi < k.toInt) (ho : offs[(k.toInt - lo2).toNat]? = some off) (ht : (pc : Int) + off = (tgt : Int)) (hx : x = k) (kt : AW p l e R s m args below meth c D loc cy A nL Qof RF kn (tgt) (L) (S) (h) (X)) : AW p l e R s m args below meth c D loc cy A nL Qof RF kn (pc) (L) (.int x :: S) (h) (X) := by
  have q := aw_tabIn (X1 := X) (X2 := X) hC hd k h1 h2 ho ht kt (fun z => absurd hx z)
  rw [if_pos hx] at q
  exact q
/-- one turn of the loop: the command's case, and on -/
theorem W_turn {x : Int32} (hC : Cx p l e R s m args meth c D loc cy A cL_law 9 ret RL 2048 84000 cb sb) (hX : SX A s b n xs) (hI : IB i n) (hkn : kn.1 + 3 ≤ cb ∧ kn.2 + 18 ≤ sb) (hR : Rel h) (kk : ∀ h2, Rel h2 → AW p l e R s m args below meth c D loc cy A 9 Qof RF (kn.1 + 3, kn.2 + 18) 2459 (LL b loc i) [] h2 X) : AW p l e R s m args below meth c D loc cy A 9 Qof RF kn 40 (LL b loc i) [.int x] h X := by
  by_cases c0 : x = nI 0
  · exact aw_tabI hC dL_law_40 (nI 0) (by decide) (by decide) (off := 232) rfl (tgt := 272) (by decide) c0 (W_0 hC hX hI hkn hR kk)
  by_cases c1 : x = nI 1
  · exact aw_tabI hC dL_law_40 (nI 1) (by decide) (by decide) (off := 336) rfl (tgt := 376) (by decide) c1 (W_1 hC hX hI hkn hR kk)
  by_cases c2 : x = nI 2
  · exact aw_tabI hC dL_law_40 (nI 2) (by decide) (by decide) (off := 392) rfl (tgt := 432) (by decide) c2 (W_2 hC hX hI hkn hR kk)
  by_cases c3 : x = nI 3
  · exact aw_tabI hC dL_law_40 (nI 3) (by decide) (by decide) (off := 436) rfl (tgt := 476) (by decide) c3 (W_3 hC hX hI hkn hR kk)
  by_cases c4 : x = nI 4
  · exact aw_tabI hC dL_law_40 (nI 4) (by decide) (by decide) (off := 480) rfl (tgt := 520) (by decide) c4 (W_4 hC hX hI hkn hR kk)
  by_cases c5 : x = nI 5
  · exact aw_tabI hC dL_law_40 (nI 5) (by decide) (by decide) (off := 493) rfl (tgt := 533) (by decide) c5 (W_5 hC hX hI hkn hR kk)
  by_cases c6 : x = nI 6
  · exact aw_tabI hC dL_law_40 (nI 6) (by decide) (by decide) (off := 506) rfl (tgt := 546) (by decide) c6 (W_6 hC hX hI hkn hR kk)
  by_cases c7 : x = nI 7
  · exact aw_tabI hC dL_law_40 (nI 7) (by decide) (by decide) (off := 562) rfl (tgt := 602) (by decide) c7 (W_7 hC hX hI hkn hR kk)
  by_cases c8 : x = nI 8
  · exact aw_tabI hC dL_law_40 (nI 8) (by decide) (by decide) (off := 630) rfl (tgt := 670) (by decide) c8 (W_8 hC hX hI hkn hR kk)
  by_cases c9 : x = nI 9
  · exact aw_tabI hC dL_law_40 (nI 9) (by decide) (by decide) (off := 698) rfl (tgt := 738) (by decide) c9 (W_9 hC hX hI hkn hR kk)
  by_cases c10 : x = nI 10
  · exact aw_tabI hC dL_law_40 (nI 10) (by decide) (by decide) (off := 754) rfl (tgt := 794) (by decide) c10 (W_10 hC hX hI hkn hR kk)
  by_cases c11 : x = nI 11
  · exact aw_tabI hC dL_law_40 (nI 11) (by decide) (by decide) (off := 810) rfl (tgt := 850) (by decide) c11 (W_11 hC hX hI hkn hR kk)
  by_cases c12 : x = nI 12
  · exact aw_tabI hC dL_law_40 (nI 12) (by decide) (by decide) (off := 835) rfl (tgt := 875) (by decide) c12 (W_12 hC hX hI hkn hR kk)
  by_cases c13 : x = nI 13
  · exact aw_tabI hC dL_law_40 (nI 13) (by decide) (by decide) (off := 891) rfl (tgt := 931) (by decide) c13 (W_13 hC hX hI hkn hR kk)
  by_cases c14 : x = nI 14
  · exact aw_tabI hC dL_law_40 (nI 14) (by decide) (by decide) (off := 904) rfl (tgt := 944) (by decide) c14 (W_14 hC hX hI hkn hR kk)
  by_cases c15 : x = nI 15
  · exact aw_tabI hC dL_law_40 (nI 15) (by decide) (by decide) (off := 917) rfl (tgt := 957) (by decide) c15 (W_15 hC hX hI hkn hR kk)
  by_cases c16 : x = nI 16
  · exact aw_tabI hC dL_law_40 (nI 16) (by decide) (by decide) (off := 942) rfl (tgt := 982) (by decide) c16 (W_16 hC hX hI hkn hR kk)
  by_cases c17 : x = nI 17
  · exact aw_tabI hC dL_law_40 (nI 17) (by decide) (by decide) (off := 1010) rfl (tgt := 1050) (by decide) c17 (W_17 hC hX hI hkn hR kk)
  by_cases c18 : x = nI 18
  · exact aw_tabI hC dL_law_40 (nI 18) (by decide) (by decide) (off := 1066) rfl (tgt := 1106) (by decide) c18 (W_18 hC hX hI hkn hR kk)
  by_cases c19 : x = nI 19
  · exact aw_tabI hC dL_law_40 (nI 19) (by decide) (by decide) (off := 1122) rfl (tgt := 1162) (by decide) c19 (W_19 hC hX hI hkn hR kk)
  by_cases c20 : x = nI 20
  · exact aw_tabI hC dL_law_40 (nI 20) (by decide) (by decide) (off := 1136) rfl (tgt := 1176) (by decide) c20 (W_20 hC hX hI hkn hR kk)
  by_cases c21 : x = nI 21
  · exact aw_tabI hC dL_law_40 (nI 21) (by decide) (by decide) (off := 1150) rfl (tgt := 1190) (by decide) c21 (W_21 hC hX hI hkn hR kk)
  by_cases c22 : x = nI 22
  · exact aw_tabI hC dL_law_40 (nI 22) (by decide) (by decide) (off := 1164) rfl (tgt := 1204) (by decide) c22 (W_22 hC hX hI hkn hR kk)
  by_cases c23 : x = nI 23
  · exact aw_tabI hC dL_law_40 (nI 23) (by decide) (by decide) (off := 1177) rfl (tgt := 1217) (by decide) c23 (W_23 hC hX hI hkn hR kk)
  by_cases c24 : x = nI 24
  · exact aw_tabI hC dL_law_40 (nI 24) (by decide) (by decide) (off := 1190) rfl (tgt := 1230) (by decide) c24 (W_24 hC hX hI hkn hR kk)
  by_cases c25 : x = nI 25
  · exact aw_tabI hC dL_law_40 (nI 25) (by decide) (by decide) (off := 1215) rfl (tgt := 1255) (by decide) c25 (W_25 hC hX hI hkn hR kk)
  by_cases c26 : x = nI 26
  · exact aw_tabI hC dL_law_40 (nI 26) (by decide) (by decide) (off := 1240) rfl (tgt := 1280) (by decide) c26 (W_26 hC hX hI hkn hR kk)
  by_cases c27 : x = nI 27
  · exact aw_tabI hC dL_law_40 (nI 27) (by decide) (by decide) (off := 1296) rfl (tgt := 1336) (by decide) c27 (W_27 hC hX hI hkn hR kk)
  by_cases c28 : x = nI 28
  · exact aw_tabI hC dL_law_40 (nI 28) (by decide) (by decide) (off := 1364) rfl (tgt := 1404) (by decide) c28 (W_28 hC hX hI hkn hR kk)
  by_cases c29 : x = nI 29
  · exact aw_tabI hC dL_law_40 (nI 29) (by decide) (by decide) (off := 1377) rfl (tgt := 1417) (by decide) c29 (W_29 hC hX hI hkn hR kk)
  by_cases c30 : x = nI 30
  · exact aw_tabI hC dL_law_40 (nI 30) (by decide) (by decide) (off := 1390) rfl (tgt := 1430) (by decide) c30 (W_30 hC hX hI hkn hR kk)
  by_cases c31 : x = nI 31
  · exact aw_tabI hC dL_law_40 (nI 31) (by decide) (by decide) (off := 1403) rfl (tgt := 1443) (by decide) c31 (W_31 hC hX hI hkn hR kk)
  by_cases c32 : x = nI 32
  · exact aw_tabI hC dL_law_40 (nI 32) (by decide) (by decide) (off := 1444) rfl (tgt := 1484) (by decide) c32 (W_32 hC hX hI hkn hR kk)
  by_cases c33 : x = nI 33
  · exact aw_tabI hC dL_law_40 (nI 33) (by decide) (by decide) (off := 1487) rfl (tgt := 1527) (by decide) c33 (W_33 hC hX hI hkn hR kk)
  by_cases c34 : x = nI 34
  · exact aw_tabI hC dL_law_40 (nI 34) (by decide) (by decide) (off := 1555) rfl (tgt := 1595) (by decide) c34 (W_34 hC hX hI hkn hR kk)
  by_cases c35 : x = nI 35
  · exact aw_tabI hC dL_law_40 (nI 35) (by decide) (by decide) (off := 1635) rfl (tgt := 1675) (by decide) c35 (W_35 hC hX hI hkn hR kk)
  by_cases c36 : x = nI 36
  · exact aw_tabI hC dL_law_40 (nI 36) (by decide) (by decide) (off := 1691) rfl (tgt := 1731) (by decide) c36 (W_36 hC hX hI hkn hR kk)
  by_cases c37 : x = nI 37
  · exact aw_tabI hC dL_law_40 (nI 37) (by decide) (by decide) (off := 1747) rfl (tgt := 1787) (by decide) c37 (W_37 hC hX hI hkn hR kk)
  by_cases c38 : x = nI 38
  · exact aw_tabI hC dL_law_40 (nI 38) (by decide) (by decide) (off := 1803) rfl (tgt := 1843) (by decide) c38 (W_38 hC hX hI hkn hR kk)
  by_cases c39 : x = nI 39
  · exact aw_tabI hC dL_law_40 (nI 39) (by decide) (by decide) (off := 1816) rfl (tgt := 1856) (by decide) c39 (W_39 hC hX hI hkn hR kk)
  by_cases c40 : x = nI 40
  · exact aw_tabI hC dL_law_40 (nI 40) (by decide) (by decide) (off := 1884) rfl (tgt := 1924) (by decide) c40 (W_40 hC hX hI hkn hR kk)
  by_cases c41 : x = nI 41
  · exact aw_tabI hC dL_law_40 (nI 41) (by decide) (by decide) (off := 1947) rfl (tgt := 1987) (by decide) c41 (W_41 hC hX hI hkn hR kk)
  by_cases c42 : x = nI 42
  · exact aw_tabI hC dL_law_40 (nI 42) (by decide) (by decide) (off := 2003) rfl (tgt := 2043) (by decide) c42 (W_42 hC hX hI hkn hR kk)
  by_cases c43 : x = nI 43
  · exact aw_tabI hC dL_law_40 (nI 43) (by decide) (by decide) (off := 2059) rfl (tgt := 2099) (by decide) c43 (W_43 hC hX hI hkn hR kk)
  by_cases c44 : x = nI 44
  · exact aw_tabI hC dL_law_40 (nI 44) (by decide) (by decide) (off := 2122) rfl (tgt := 2162) (by decide) c44 (W_44 hC hX hI hkn hR kk)
  by_cases c45 : x = nI 45
  · exact aw_tabI hC dL_law_40 (nI 45) (by decide) (by decide) (off := 2185) rfl (tgt := 2225) (by decide) c45 (W_45 hC hX hI hkn hR kk)
  by_cases c46 : x = nI 46
  · exact aw_tabI hC dL_law_40 (nI 46) (by decide) (by decide) (off := 2198) rfl (tgt := 2238) (by decide) c46 (W_46 hC hX hI hkn hR kk)
  by_cases c47 : x = nI 47
  · exact aw_tabI hC dL_law_40 (nI 47) (by decide) (by decide) (off := 2211) rfl (tgt := 2251) (by decide) c47 (W_47 hC hX hI hkn hR kk)
  by_cases c48 : x = nI 48
  · exact aw_tabI hC dL_law_40 (nI 48) (by decide) (by decide) (off := 2224) rfl (tgt := 2264) (by decide) c48 (W_48 hC hX hI hkn hR kk)
  by_cases c49 : x = nI 49
  · exact aw_tabI hC dL_law_40 (nI 49) (by decide) (by decide) (off := 2280) rfl (tgt := 2320) (by decide) c49 (W_49 hC hX hI hkn hR kk)
  by_cases c50 : x = nI 50
  · exact aw_tabI hC dL_law_40 (nI 50) (by decide) (by decide) (off := 2293) rfl (tgt := 2333) (by decide) c50 (W_50 hC hX hI hkn hR kk)
  by_cases c51 : x = nI 51
  · exact aw_tabI hC dL_law_40 (nI 51) (by decide) (by decide) (off := 2306) rfl (tgt := 2346) (by decide) c51 (W_51 hC hX hI hkn hR kk)
  by_cases c52 : x = nI 52
  · exact aw_tabI hC dL_law_40 (nI 52) (by decide) (by decide) (off := 2362) rfl (tgt := 2402) (by decide) c52 (W_52 hC hX hI hkn hR kk)
  by_cases c53 : x = nI 53
  · exact aw_tabI hC dL_law_40 (nI 53) (by decide) (by decide) (off := 2375) rfl (tgt := 2415) (by decide) c53 (W_53 hC hX hI hkn hR kk)
  refine aw_tabOut hC dL_law_40 (tgt := 2459) (tab_out 54 rfl (fun j hj e => ?_)) (by decide) (aw_widen (Nat.le_add_right _ _) (Nat.le_add_right _ _) (kk h hR))
  rcases (show j = 0 ∨ j = 1 ∨ j = 2 ∨ j = 3 ∨ j = 4 ∨ j = 5 ∨ j = 6 ∨ j = 7 ∨ j = 8 ∨ j = 9 ∨ j = 10 ∨ j = 11 ∨ j = 12 ∨ j = 13 ∨ j = 14 ∨ j = 15 ∨ j = 16 ∨ j = 17 ∨ j = 18 ∨ j = 19 ∨ j = 20 ∨ j = 21 ∨ j = 22 ∨ j = 23 ∨ j = 24 ∨ j = 25 ∨ j = 26 ∨ j = 27 ∨ j = 28 ∨ j = 29 ∨ j = 30 ∨ j = 31 ∨ j = 32 ∨ j = 33 ∨ j = 34 ∨ j = 35 ∨ j = 36 ∨ j = 37 ∨ j = 38 ∨ j = 39 ∨ j = 40 ∨ j = 41 ∨ j = 42 ∨ j = 43 ∨ j = 44 ∨ j = 45 ∨ j = 46 ∨ j = 47 ∨ j = 48 ∨ j = 49 ∨ j = 50 ∨ j = 51 ∨ j = 52 ∨ j = 53 by omega) with rfl | rfl | rfl | rfl | rfl | rfl | rfl | rfl | rfl | rfl | rfl | rfl | rfl | rfl | rfl | rfl | rfl | rfl | rfl | rfl | rfl | rfl | rfl | rfl | rfl | rfl | rfl | rfl | rfl | rfl | rfl | rfl | rfl | rfl | rfl | rfl | rfl | rfl | rfl | rfl | rfl | rfl | rfl | rfl | rfl | rfl | rfl | rfl | rfl | rfl | rfl | rfl | rfl | rfl
  · exact c0 e
  · exact c1 e
  · exact c2 e
  · exact c3 e
  · exact c4 e
  · exact c5 e
  · exact c6 e
  · exact c7 e
  · exact c8 e
  · exact c9 e
  · exact c10 e
  · exact c11 e
  · exact c12 e
  · exact c13 e
  · exact c14 e
  · exact c15 e
  · exact c16 e
  · exact c17 e
  · exact c18 e
  · exact c19 e
  · exact c20 e
  · exact c21 e
  · exact c22 e
  · exact c23 e
  · exact c24 e
  · exact c25 e
  · exact c26 e
  · exact c27 e
  · exact c28 e
  · exact c29 e
  · exact c30 e
  · exact c31 e
  · exact c32 e
  · exact c33 e
  · exact c34 e
  · exact c35 e
  · exact c36 e
  · exact c37 e
  · exact c38 e
  · exact c39 e
  · exact c40 e
  · exact c41 e
  · exact c42 e
  · exact c43 e
  · exact c44 e
  · exact c45 e
  · exact c46 e
  · exact c47 e
  · exact c48 e
  · exact c49 e
  · exact c50 e
  · exact c51 e
  · exact c52 e
  · exact c53 e
theorem W_loop {b n : Nat} {xs : Nat → Int32} (hn : n ≤ 3072) (hC : Cx p l e R s m args meth c D loc cy A cL_law 9 ret RL 2048 84000 cb sb) (hX : SX A s b n xs)
    (kk : ∀ h2 kn2 i2, Rel h2 → kn2.1 ≤ cb → kn2.2 ≤ sb → AW p l e R s m args below meth c D loc cy A 9 Qof RF kn2 2465 (LL b loc i2) [] h2 X) :
    ∀ (t : Nat) (z : Int) (kn : Nat × Nat) (h : HD), 0 ≤ z → z ≤ 3072 → (n : Int) - z < 6 * t → kn.1 + 3 * t ≤ cb → kn.2 + 18 * t ≤ sb → Rel h → AW p l e R s m args below meth c D loc cy A 9 Qof RF kn 23 (LL b loc (iZ z)) [] h X := by
  intro t
  induction t with
  | zero =>
    intro z kn h hz hz2 ht hc hs hR
    refine aw_iload hC dL_law_23 rfl ?_
    refine aw_aload_n hC dL_law_25 rfl ?_
    refine aw_scln hC hX dL_law_26 ?_
    refine aw_bipush hC dL_law_27 (v := iZ 6) (by decide) ?_
    refine aw_isub hC dL_law_29 ?_
    have e : Int32.ofNat n - iZ 6 = iZ ((n : Int) - 6) := iZ_sub (n : Int) 6
    rw [e]
    refine aw_icmp_gt_t hC dL_law_30 (tgt := 2465) (by decide) (by rw [iZ_lt (by omega) (by omega) (by omega) (by omega)]; omega) ?_
    exact kk h kn (iZ z) hR (by omega) (by omega)
  | succ t ih =>
    intro z kn h hz hz2 ht hc hs hR
    refine aw_iload hC dL_law_23 rfl ?_
    refine aw_aload_n hC dL_law_25 rfl ?_
    refine aw_scln hC hX dL_law_26 ?_
    refine aw_bipush hC dL_law_27 (v := iZ 6) (by decide) ?_
    refine aw_isub hC dL_law_29 ?_
    have e : Int32.ofNat n - iZ 6 = iZ ((n : Int) - 6) := iZ_sub (n : Int) 6
    rw [e]
    by_cases q : (n : Int) - 6 < z
    · refine aw_icmp_gt_t hC dL_law_30 (tgt := 2465) (by decide) (by rw [iZ_lt (by omega) (by omega) (by omega) (by omega)]; exact q) ?_
      exact kk h kn (iZ z) hR (by omega) (by omega)
    · refine aw_icmp_gt_f hC dL_law_30 (tgt := 2465) (by decide) (by rw [iZ_lt (by omega) (by omega) (by omega) (by omega)]; exact q) ?_
      refine aw_aload_n hC dL_law_33 rfl ?_
      refine aw_iload hC dL_law_34 rfl ?_
      have hin : ∀ k : Int, 0 ≤ k → k ≤ 5 → inB (iZ (z + k)) n = true := fun k k1 k2 => by
        rw [iZ_inB (by omega) (by omega)]
        exact decide_eq_true ⟨by omega, by omega⟩
      have h0 := hin 0 (by omega) (by omega)
      rw [Int.add_zero] at h0
      refine aw_sld hC hX dL_law_36 h0 ?_
      refine aw_bipush hC dL_law_37 (v := 63) (by decide) ?_
      refine aw_iand hC dL_law_39 ?_
      have hI : IB (iZ z) n := ⟨by rw [show iZ z + 1 = iZ (z + 1) from iZ_add z 1]; exact hin 1 (by omega) (by omega), by rw [show iZ z + 2 = iZ (z + 2) from iZ_add z 2]; exact hin 2 (by omega) (by omega), by rw [show iZ z + 3 = iZ (z + 3) from iZ_add z 3]; exact hin 3 (by omega) (by omega), by rw [show iZ z + 4 = iZ (z + 4) from iZ_add z 4]; exact hin 4 (by omega) (by omega), by rw [show iZ z + 5 = iZ (z + 5) from iZ_add z 5]; exact hin 5 (by omega) (by omega)⟩
      refine W_turn hC hX hI ⟨by omega, by omega⟩ hR (fun h2 hR2 => ?_)
      refine aw_iinc hC dL_law_2459 rfl (v := iZ (z + 6)) (iZ_add z 6) (by decide) ?_
      refine aw_goto hC dL_law_2462 (tgt := 23) (by decide) ?_
      exact ih (z + 6) (kn.1 + 3, kn.2 + 18) h2 (by omega) (by omega) (by omega) (by show kn.1 + 3 + 3 * t ≤ cb; omega) (by show kn.2 + 18 + 18 * t ≤ sb; omega) hR2
end LWL
