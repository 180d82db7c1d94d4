def jX8_wordOf_L4 (u1 : Nat × List Int32) (h : HD) : Nat → Int64 → Int32 → Option Int64
  | 0, _, _ => none
  | n4 + 1, x1, x3 => (if (Int32.ofNat u1.2.length) ≤ x3 then some x1 else (if (8 : Int32) ≤ x3 then some x1 else if inB x3 u1.2.length = true then jX8_wordOf_L4 u1 h n4 (jX8_withLetter x1 x3 (((u1.2.getD x3.toNatClampNeg 0) - (97 : Int32)) + (1 : Int32)) h) (x3 + 1) else none))
def jX8_wordOf (u1 : Nat × List Int32) (h : HD) : Option Int64 :=
  jX8_wordOf_L4 u1 h FU (0 : Int64) (0 : Int32)
def jX6_isWord_ (u1 : Nat × List Int32) (h : HD) : Option Bool :=
  (if (gI h (4, 0, 0) 1) = (1 : Int32) then (jX8_wordOf u1 h).bind fun q1 =>
  (if (lg_cmp (gJ h (4, 0, 0) 4) q1) = 0 then some true else some false) else some false)
def jX6_readWord (u1 : Nat × List Int32) (h : HD) : Option (Bool × HD) :=
  (jX6_advance h).bind fun q1 =>
  (jX6_isWord_ u1 q1).bind fun q2 =>
  (if q2 = true then some (true, q1) else (jX6_fail (1 : Int32) q1).bind fun q3 =>
  (if q3.1 = true then some (true, q3.2) else some (false, q3.2)))
def jX8_readCar (r1 : Nat) (p2 : Int32) (h : HD) : Option (Bool × HD) :=
  (jX6_isWord_ tx199 h).bind fun q1 =>
  (if q1 = true then (jX6_readName h).bind fun q2 =>
  (if q2.1 = true then (jX2_carNamed r1 (jX6_word q2.2) q2.2).bind fun q3 =>
  (if q3 = (-1 : Int32) then (jX6_readNumber (0 : Int32) p2 q2.2).bind fun q4 =>
  (if q4.1 = true then (jX2_add r1 (jX6_word q2.2) (jX6_number q4.2) q4.2).bind fun q5 =>
  (jX6_readMark (59 : Int32) q5).bind fun q6 =>
  (if q6.1 = true then (jX6_advance q6.2).bind fun q7 =>
  some (true, q7) else some (false, q6.2)) else some (false, q4.2)) else (jX6_fail (3 : Int32) q2.2).bind fun q8 =>
  some (q8.1, q8.2)) else some (false, q2.2)) else (jX6_fail (1 : Int32) h).bind fun q9 =>
  some (q9.1, q9.2))
def jX8_readSystem_L84 (r1 : Nat) (x2 : Int32) (k106 : HD → Option (Bool × HD)) : Nat → Int32 → HD → Option (Bool × HD)
  | 0, _, _ => none
  | n84 + 1, x3, h => (if x2 ≤ x3 then k106 h else (jX8_readCar r1 x2 h).bind fun q7 =>
  (if q7.1 = true then jX8_readSystem_L84 r1 x2 k106 n84 (x3 + 1) q7.2 else some (false, q7.2)))
def jX8_readSystem (r1 : Nat) (h : HD) : Option (Bool × HD) :=
  (jX2_empty r1 h).bind fun q1 =>
  (jX6_readWord tx167 q1).bind fun q2 =>
  (if q2.1 = true then (jX6_readNumber (0 : Int32) (11 : Int32) q2.2).bind fun q3 =>
  (if q3.1 = true then (jX6_readMark (59 : Int32) q3.2).bind fun q4 =>
  (if q4.1 = true then (jX6_advance q4.2).bind fun q5 =>
  (jX6_isWord_ tx187 q5).bind fun q6 =>
  (if q6 = true then (jX8_readBack r1 q5).bind fun q12 =>
  (if q12.1 = true then jX8_readSystem_L84 r1 (jX6_number q3.2) (fun h14 => (jX6_isWord_ tx199 h14).bind fun q15 =>
  (if q15 = true then (jX6_fail (5 : Int32) h14).bind fun q17 =>
  some (q17.1, q17.2) else (if (jX6_isEnd h14) = true then some (true, h14) else (jX6_fail (1 : Int32) h14).bind fun q16 =>
  (if q16.1 = true then some (true, q16.2) else some (false, q16.2))))) FU (0 : Int32) q12.2 else some (false, q12.2)) else jX8_readSystem_L84 r1 (jX6_number q3.2) (fun h8 => (jX6_isWord_ tx199 h8).bind fun q9 =>
  (if q9 = true then (jX6_fail (5 : Int32) h8).bind fun q11 =>
  some (q11.1, q11.2) else (if (jX6_isEnd h8) = true then some (true, h8) else (jX6_fail (1 : Int32) h8).bind fun q10 =>
  (if q10.1 = true then some (true, q10.2) else some (false, q10.2))))) FU (0 : Int32) q5) else some (false, q4.2)) else some (false, q3.2)) else some (false, q2.2))
def jX8_readText  (h : HD) : Option ((Nat ⊕ Int32) × HD) :=
  (jX6_begin h).bind fun q1 =>
  (jX8_readSystem 1 q1).bind fun q2 =>
  (jX8_endReading q2.2).bind fun q3 =>
  (if q2.1 = true then (jX2_copyFrom 0 1 q3).bind fun q4 =>
  lt (sI q4 (6, 0, 0) 13 (0 : Int32)) fun h5 =>
  some (.inr (jX2_count 0 h5), h5) else some (.inl 1, q3))
def jX3_withWord_L10 (p1 : Int64) (h : HD) : Nat → Int32 → Option (Option Nat)
  | 0, _ => none
  | n10 + 1, x4 => (if (9 : Int32) ≤ x4 then some none else if inB x4 9 = true then (jX8_wordOf (txC x4.toNatClampNeg) h).bind fun q2 =>
  (if (lg_cmp q2 p1) = 0 then some (some x4.toNatClampNeg) else jX3_withWord_L10 p1 h n10 (x4 + 1)) else none)
def jX3_withWord (p1 : Int64) (h : HD) : Option (Option Nat) :=
  jX3_withWord_L10 p1 h FU (0 : Int32)
def jX5_add (c1 : Nat) (p2 : Int64) (p3 : Int32) (h : HD) : Option HD :=
  (if (gI h (3, 0, 0) 6) < 0 then some h else (if (gI h (3, 0, 0) 6) < (30 : Int32) then if inB (gI h (3, 0, 0) 6) 30 = true then lt (sO h (gI h (3, 0, 0) 6).toNatClampNeg (some c1)) fun h1 =>
  if inB (gI h1 (3, 0, 0) 6) 30 = true then lt (sJ h1 (3, 0, 2) ((gI h1 (3, 0, 0) 6).toNatClampNeg) p2) fun h3 =>
  if inB (gI h3 (3, 0, 0) 6) 30 = true then lt (sI h3 (3, 0, 3) ((gI h3 (3, 0, 0) 6).toNatClampNeg) p3) fun h5 =>
  if inB (gI h5 (3, 0, 0) 6) 30 = true then lt (sI h5 (3, 0, 4) ((gI h5 (3, 0, 0) 6).toNatClampNeg) ((gI h5 (3, 0, 0) 6) + (1 : Int32))) fun h7 =>
  (if c1 = 8 then (jX5_openRepeat (gI h7 (3, 0, 0) 6) h7).bind fun q10 =>
  lt (sI q10 (3, 0, 0) 6 ((gI q10 (3, 0, 0) 6) + (1 : Int32))) fun h11 =>
  some h11 else lt (sI h7 (3, 0, 0) 6 ((gI h7 (3, 0, 0) 6) + (1 : Int32))) fun h9 =>
  some h9) else none else none else none else none else some h))
def jX5_readCommand  (h : HD) : Option (Bool × HD) :=
  (if (jX6_isWord h) = true then (jX3_withWord (jX6_word h) h).bind fun q2 =>
  oc (q2) ((jX6_fail (1 : Int32) h).bind fun q5 =>
  some (q5.1, q5.2)) (fun k3 => if k3 < 9 then (if k3 = 8 then (if (gI h (3, 0, 0) 5) < (2 : Int32) then (if (gI h (3, 0, 0) 6) < (30 : Int32) then (if (cmN k3) = 0 then (if (cmN k3) = 0 then (if (cmV k3) = 0 then (if (cmV k3) = 0 then (jX6_readMark (40 : Int32) h).bind fun q44 =>
  (if q44.1 = true then (jX5_add k3 (0 : Int64) (0 : Int32) q44.2).bind fun q45 =>
  some (true, q45) else some (false, q44.2)) else (jX6_readMark (40 : Int32) h).bind fun q46 =>
  (if q46.1 = true then (jX5_add k3 (0 : Int64) (jX6_number h) q46.2).bind fun q47 =>
  some (true, q47) else some (false, q46.2))) else (jX6_readNumber (1 : Int32) (20 : Int32) h).bind fun q48 =>
  (if q48.1 = true then (if (cmV k3) = 0 then (jX6_readMark (40 : Int32) q48.2).bind fun q49 =>
  (if q49.1 = true then (jX5_add k3 (0 : Int64) (0 : Int32) q49.2).bind fun q50 =>
  some (true, q50) else some (false, q49.2)) else (jX6_readMark (40 : Int32) q48.2).bind fun q51 =>
  (if q51.1 = true then (jX5_add k3 (0 : Int64) (jX6_number q48.2) q51.2).bind fun q52 =>
  some (true, q52) else some (false, q51.2))) else some (false, q48.2))) else (if (cmV k3) = 0 then (if (cmV k3) = 0 then (jX6_readMark (40 : Int32) h).bind fun q53 =>
  (if q53.1 = true then (jX5_add k3 (jX6_word h) (0 : Int32) q53.2).bind fun q54 =>
  some (true, q54) else some (false, q53.2)) else (jX6_readMark (40 : Int32) h).bind fun q55 =>
  (if q55.1 = true then (jX5_add k3 (jX6_word h) (jX6_number h) q55.2).bind fun q56 =>
  some (true, q56) else some (false, q55.2))) else (jX6_readNumber (1 : Int32) (20 : Int32) h).bind fun q57 =>
  (if q57.1 = true then (if (cmV k3) = 0 then (jX6_readMark (40 : Int32) q57.2).bind fun q58 =>
  (if q58.1 = true then (jX5_add k3 (jX6_word h) (0 : Int32) q58.2).bind fun q59 =>
  some (true, q59) else some (false, q58.2)) else (jX6_readMark (40 : Int32) q57.2).bind fun q60 =>
  (if q60.1 = true then (jX5_add k3 (jX6_word h) (jX6_number q57.2) q60.2).bind fun q61 =>
  some (true, q61) else some (false, q60.2))) else some (false, q57.2)))) else (jX6_readName h).bind fun q62 =>
  (if q62.1 = true then (if (cmN k3) = 0 then (if (cmV k3) = 0 then (if (cmV k3) = 0 then (jX6_readMark (40 : Int32) q62.2).bind fun q63 =>
  (if q63.1 = true then (jX5_add k3 (0 : Int64) (0 : Int32) q63.2).bind fun q64 =>
  some (true, q64) else some (false, q63.2)) else (jX6_readMark (40 : Int32) q62.2).bind fun q65 =>
  (if q65.1 = true then (jX5_add k3 (0 : Int64) (jX6_number q62.2) q65.2).bind fun q66 =>
  some (true, q66) else some (false, q65.2))) else (jX6_readNumber (1 : Int32) (20 : Int32) q62.2).bind fun q67 =>
  (if q67.1 = true then (if (cmV k3) = 0 then (jX6_readMark (40 : Int32) q67.2).bind fun q68 =>
  (if q68.1 = true then (jX5_add k3 (0 : Int64) (0 : Int32) q68.2).bind fun q69 =>
  some (true, q69) else some (false, q68.2)) else (jX6_readMark (40 : Int32) q67.2).bind fun q70 =>
  (if q70.1 = true then (jX5_add k3 (0 : Int64) (jX6_number q67.2) q70.2).bind fun q71 =>
  some (true, q71) else some (false, q70.2))) else some (false, q67.2))) else (if (cmV k3) = 0 then (if (cmV k3) = 0 then (jX6_readMark (40 : Int32) q62.2).bind fun q72 =>
  (if q72.1 = true then (jX5_add k3 (jX6_word q62.2) (0 : Int32) q72.2).bind fun q73 =>
  some (true, q73) else some (false, q72.2)) else (jX6_readMark (40 : Int32) q62.2).bind fun q74 =>
  (if q74.1 = true then (jX5_add k3 (jX6_word q62.2) (jX6_number q62.2) q74.2).bind fun q75 =>
  some (true, q75) else some (false, q74.2))) else (jX6_readNumber (1 : Int32) (20 : Int32) q62.2).bind fun q76 =>
  (if q76.1 = true then (if (cmV k3) = 0 then (jX6_readMark (40 : Int32) q76.2).bind fun q77 =>
  (if q77.1 = true then (jX5_add k3 (jX6_word q62.2) (0 : Int32) q77.2).bind fun q78 =>
  some (true, q78) else some (false, q77.2)) else (jX6_readMark (40 : Int32) q76.2).bind fun q79 =>
  (if q79.1 = true then (jX5_add k3 (jX6_word q62.2) (jX6_number q76.2) q79.2).bind fun q80 =>
  some (true, q80) else some (false, q79.2))) else some (false, q76.2)))) else some (false, q62.2))) else (jX6_fail (5 : Int32) h).bind fun q81 =>
  some (q81.1, q81.2)) else (jX6_fail (3 : Int32) h).bind fun q82 =>
  some (q82.1, q82.2)) else (if (gI h (3, 0, 0) 6) < (30 : Int32) then (if (cmN k3) = 0 then (if (cmN k3) = 0 then (if (cmV k3) = 0 then (if (cmV k3) = 0 then (jX6_readMark (59 : Int32) h).bind fun q6 =>
  (if q6.1 = true then (jX5_add k3 (0 : Int64) (0 : Int32) q6.2).bind fun q7 =>
  some (true, q7) else some (false, q6.2)) else (jX6_readMark (59 : Int32) h).bind fun q8 =>
  (if q8.1 = true then (jX5_add k3 (0 : Int64) (jX6_number h) q8.2).bind fun q9 =>
  some (true, q9) else some (false, q8.2))) else (jX6_readNumber (0 : Int32) (999 : Int32) h).bind fun q10 =>
  (if q10.1 = true then (if (cmV k3) = 0 then (jX6_readMark (59 : Int32) q10.2).bind fun q11 =>
  (if q11.1 = true then (jX5_add k3 (0 : Int64) (0 : Int32) q11.2).bind fun q12 =>
  some (true, q12) else some (false, q11.2)) else (jX6_readMark (59 : Int32) q10.2).bind fun q13 =>
  (if q13.1 = true then (jX5_add k3 (0 : Int64) (jX6_number q10.2) q13.2).bind fun q14 =>
  some (true, q14) else some (false, q13.2))) else some (false, q10.2))) else (if (cmV k3) = 0 then (if (cmV k3) = 0 then (jX6_readMark (59 : Int32) h).bind fun q15 =>
  (if q15.1 = true then (jX5_add k3 (jX6_word h) (0 : Int32) q15.2).bind fun q16 =>
  some (true, q16) else some (false, q15.2)) else (jX6_readMark (59 : Int32) h).bind fun q17 =>
  (if q17.1 = true then (jX5_add k3 (jX6_word h) (jX6_number h) q17.2).bind fun q18 =>
  some (true, q18) else some (false, q17.2))) else (jX6_readNumber (0 : Int32) (999 : Int32) h).bind fun q19 =>
  (if q19.1 = true then (if (cmV k3) = 0 then (jX6_readMark (59 : Int32) q19.2).bind fun q20 =>
  (if q20.1 = true then (jX5_add k3 (jX6_word h) (0 : Int32) q20.2).bind fun q21 =>
  some (true, q21) else some (false, q20.2)) else (jX6_readMark (59 : Int32) q19.2).bind fun q22 =>
  (if q22.1 = true then (jX5_add k3 (jX6_word h) (jX6_number q19.2) q22.2).bind fun q23 =>
  some (true, q23) else some (false, q22.2))) else some (false, q19.2)))) else (jX6_readName h).bind fun q24 =>
  (if q24.1 = true then (if (cmN k3) = 0 then (if (cmV k3) = 0 then (if (cmV k3) = 0 then (jX6_readMark (59 : Int32) q24.2).bind fun q25 =>
  (if q25.1 = true then (jX5_add k3 (0 : Int64) (0 : Int32) q25.2).bind fun q26 =>
  some (true, q26) else some (false, q25.2)) else (jX6_readMark (59 : Int32) q24.2).bind fun q27 =>
  (if q27.1 = true then (jX5_add k3 (0 : Int64) (jX6_number q24.2) q27.2).bind fun q28 =>
  some (true, q28) else some (false, q27.2))) else (jX6_readNumber (0 : Int32) (999 : Int32) q24.2).bind fun q29 =>
  (if q29.1 = true then (if (cmV k3) = 0 then (jX6_readMark (59 : Int32) q29.2).bind fun q30 =>
  (if q30.1 = true then (jX5_add k3 (0 : Int64) (0 : Int32) q30.2).bind fun q31 =>
  some (true, q31) else some (false, q30.2)) else (jX6_readMark (59 : Int32) q29.2).bind fun q32 =>
  (if q32.1 = true then (jX5_add k3 (0 : Int64) (jX6_number q29.2) q32.2).bind fun q33 =>
  some (true, q33) else some (false, q32.2))) else some (false, q29.2))) else (if (cmV k3) = 0 then (if (cmV k3) = 0 then (jX6_readMark (59 : Int32) q24.2).bind fun q34 =>
  (if q34.1 = true then (jX5_add k3 (jX6_word q24.2) (0 : Int32) q34.2).bind fun q35 =>
  some (true, q35) else some (false, q34.2)) else (jX6_readMark (59 : Int32) q24.2).bind fun q36 =>
  (if q36.1 = true then (jX5_add k3 (jX6_word q24.2) (jX6_number q24.2) q36.2).bind fun q37 =>
  some (true, q37) else some (false, q36.2))) else (jX6_readNumber (0 : Int32) (999 : Int32) q24.2).bind fun q38 =>
  (if q38.1 = true then (if (cmV k3) = 0 then (jX6_readMark (59 : Int32) q38.2).bind fun q39 =>
  (if q39.1 = true then (jX5_add k3 (jX6_word q24.2) (0 : Int32) q39.2).bind fun q40 =>
  some (true, q40) else some (false, q39.2)) else (jX6_readMark (59 : Int32) q38.2).bind fun q41 =>
  (if q41.1 = true then (jX5_add k3 (jX6_word q24.2) (jX6_number q38.2) q41.2).bind fun q42 =>
  some (true, q42) else some (false, q41.2))) else some (false, q38.2)))) else some (false, q24.2))) else (jX6_fail (5 : Int32) h).bind fun q43 =>
  some (q43.1, q43.2))) else none) else (jX6_fail (1 : Int32) h).bind fun q1 =>
  some (q1.1, q1.2))
def jX5_read_L12 (k86 : HD → Option (Bool × HD)) : Nat → Int32 → HD → Option (Bool × HD)
  | 0, _, _ => none
  | n12 + 1, x2, h => (if (400 : Int32) < x2 then k86 h else (jX6_advance h).bind fun q3 =>
  (if (gI q3 (3, 0, 0) 5) = 0 then (if (jX6_isEnd q3) = true then some (true, q3) else (if (gI q3 (3, 0, 0) 5) ≤ 0 then (jX5_readCommand q3).bind fun q8 =>
  (if q8.1 = true then jX5_read_L12 k86 n12 (x2 + 1) q8.2 else some (false, q8.2)) else (if (jX6_isMark (41 : Int32) q3) = true then (jX5_closeRepeat q3).bind fun q10 =>
  (jX6_readMark (59 : Int32) q10).bind fun q11 =>
  (if q11.1 = true then jX5_read_L12 k86 n12 (x2 + 1) q11.2 else some (false, q11.2)) else (jX5_readCommand q3).bind fun q9 =>
  (if q9.1 = true then jX5_read_L12 k86 n12 (x2 + 1) q9.2 else some (false, q9.2))))) else (if (gI q3 (3, 0, 0) 5) ≤ 0 then (jX5_readCommand q3).bind fun q4 =>
  (if q4.1 = true then jX5_read_L12 k86 n12 (x2 + 1) q4.2 else some (false, q4.2)) else (if (jX6_isMark (41 : Int32) q3) = true then (jX5_closeRepeat q3).bind fun q6 =>
  (jX6_readMark (59 : Int32) q6).bind fun q7 =>
  (if q7.1 = true then jX5_read_L12 k86 n12 (x2 + 1) q7.2 else some (false, q7.2)) else (jX5_readCommand q3).bind fun q5 =>
  (if q5.1 = true then jX5_read_L12 k86 n12 (x2 + 1) q5.2 else some (false, q5.2))))))
def jX5_read  (h : HD) : Option (Bool × HD) :=
  lt (sI h (3, 0, 0) 6 (0 : Int32)) fun h1 =>
  lt (sI h1 (3, 0, 0) 5 (0 : Int32)) fun h2 =>
  jX5_read_L12 (fun h12 => (jX6_fail (1 : Int32) h12).bind fun q13 =>
  some (q13.1, q13.2)) FU (0 : Int32) h2
def jX5_commandAt (p1 : Int32) (h : HD) : Option (Option Nat) :=
  (if (jX5_has p1 h) = true then if inB p1 30 = true then oc (gO h p1.toNatClampNeg) (some none) (fun k2 => if k2 < 9 then some (some k2) else none) else none else some none)
def jX8_doRepeat_l1_L16 (p1 : Int32) (p2 : Int32) (h : HD) : Nat → Int32 → Option Bool
  | 0, _ => none
  | n16 + 1, x3 => (if x3 ≤ 0 then some true else (jX5_behind p1 h).bind fun q2 =>
  none)
def jX8_doRepeat_l1 (p1 : Int32) (p2 : Int32) (h : HD) : Option Bool :=
  (if p2 < (2 : Int32) then (jX5_numberAt p1 h).bind fun q1 =>
  jX8_doRepeat_l1_L16 p1 p2 h FU q1 else some false)
def jX8_doCommand (p1 : Int32) (h : HD) : Option (Bool × HD) :=
  (jX5_commandAt p1 h).bind fun q1 =>
  oc (q1) (some (false, h)) (fun k2 => if k2 < 9 then (jX5_numberAt p1 h).bind fun q4 =>
  (jX5_nameAt p1 h).bind fun q5 =>
  (jX2_carNamed 0 q5 h).bind fun q6 =>
  if inB (cmO k2) 9 = true then (if (SWM.getD (cmO k2).toNatClampNeg 0) = 1 then (if q6 = (-1 : Int32) then some (false, h) else (if (jX2_hasSpot 0 q4 h) = true then (jX8_doPrefer q6 q4 h).bind fun q8 =>
  (if q8.1 = true then some (true, q8.2) else some (false, q8.2)) else some (false, h))) else if (SWM.getD (cmO k2).toNatClampNeg 0) = 2 then (if q6 = (-1 : Int32) then some (false, h) else (jX8_doSwap q6 h).bind fun q10 =>
  (if q10.1 = true then some (true, q10.2) else some (false, q10.2))) else if (SWM.getD (cmO k2).toNatClampNeg 0) = 3 then (if (jX8_isTurn q4 h) = true then (jX8_doTurn q4 h).bind fun q12 =>
  (if q12.1 = true then some (true, q12.2) else some (false, q12.2)) else some (false, h)) else if (SWM.getD (cmO k2).toNatClampNeg 0) = 4 then (if (jX8_isBack q4 h) = true then (jX8_doSetBack q4 h).bind fun q14 =>
  (if q14.1 = true then some (true, q14.2) else some (false, q14.2)) else some (false, h)) else if (SWM.getD (cmO k2).toNatClampNeg 0) = 5 then (if (jX8_canComeTo q4 h) = true then (jX5_nameAt p1 h).bind fun q16 =>
  (jX8_doCome q16 q4 h).bind fun q17 =>
  (if q17.1 = true then some (true, q17.2) else some (false, q17.2)) else some (false, h)) else if (SWM.getD (cmO k2).toNatClampNeg 0) = 6 then (if q6 = (-1 : Int32) then some (false, h) else (jX8_doGo q6 h).bind fun q19 =>
  (if q19.1 = true then some (true, q19.2) else some (false, q19.2))) else if (SWM.getD (cmO k2).toNatClampNeg 0) = 7 then (jX8_doSort h).bind fun q21 =>
  (if q21.1 < 0 then some (false, q21.2) else some (true, q21.2)) else if (SWM.getD (cmO k2).toNatClampNeg 0) = 8 then (jX8_doReverse h).bind fun q23 =>
  some (q23.1, q23.2) else some (false, h)) else none else none)
def jX8_doCommands_l1_L6 (p1 : Int32) (p2 : Int32) (p3 : Int32) : Nat → Int32 → Int32 → HD → Option (Bool × HD)
  | 0, _, _, _ => none
  | n6 + 1, x4, x5, h => (if (30 : Int32) ≤ x5 then some (true, h) else (if p2 ≤ x4 then some (true, h) else (jX5_commandAt x4 h).bind fun q1 =>
  oc (q1) ((if (40 : Int32) ≤ (gI h (6, 0, 0) 15) then some (false, h) else (jX8_doCommand x4 h).bind fun q4 =>
  (if q4.1 = true then lt (sI q4.2 (6, 0, 0) 15 ((gI q4.2 (6, 0, 0) 15) + (1 : Int32))) fun h5 =>
  (jX5_behind x4 h5).bind fun q6 =>
  jX8_doCommands_l1_L6 p1 p2 p3 n6 q6 (x5 + 1) h5 else some (false, q4.2)))) (fun k2 => if k2 < 9 then (if k2 = 8 then (jX8_doRepeat_l1 x4 p3 h).bind fun q10 =>
  (if q10 = true then (jX5_behind x4 h).bind fun q11 =>
  jX8_doCommands_l1_L6 p1 p2 p3 n6 q11 (x5 + 1) h else some (false, h)) else (if (40 : Int32) ≤ (gI h (6, 0, 0) 15) then some (false, h) else (jX8_doCommand x4 h).bind fun q7 =>
  (if q7.1 = true then lt (sI q7.2 (6, 0, 0) 15 ((gI q7.2 (6, 0, 0) 15) + (1 : Int32))) fun h8 =>
  (jX5_behind x4 h8).bind fun q9 =>
  jX8_doCommands_l1_L6 p1 p2 p3 n6 q9 (x5 + 1) h8 else some (false, q7.2)))) else none)))
def jX8_doCommands_l1 (p1 : Int32) (p2 : Int32) (p3 : Int32) (h : HD) : Option (Bool × HD) :=
  jX8_doCommands_l1_L6 p1 p2 p3 FU p1 (0 : Int32) h
def jX8_doRepeat_l2_L16 (p1 : Int32) (p2 : Int32) : Nat → Int32 → HD → Option (Bool × HD)
  | 0, _, _ => none
  | n16 + 1, x3, h => (if x3 ≤ 0 then some (true, h) else (jX5_behind p1 h).bind fun q2 =>
  (jX8_doCommands_l1 (p1 + (1 : Int32)) q2 (p2 + (1 : Int32)) h).bind fun q3 =>
  (if q3.1 = true then jX8_doRepeat_l2_L16 p1 p2 n16 (x3 + (-1)) q3.2 else some (false, q3.2)))
def jX8_doRepeat_l2 (p1 : Int32) (p2 : Int32) (h : HD) : Option (Bool × HD) :=
  (if p2 < (2 : Int32) then (jX5_numberAt p1 h).bind fun q1 =>
  jX8_doRepeat_l2_L16 p1 p2 FU q1 h else some (false, h))
def jX8_doCommands_l2_L6 (p1 : Int32) (p2 : Int32) (p3 : Int32) : Nat → Int32 → Int32 → HD → Option (Bool × HD)
  | 0, _, _, _ => none
  | n6 + 1, x4, x5, h => (if (30 : Int32) ≤ x5 then some (true, h) else (if p2 ≤ x4 then some (true, h) else (jX5_commandAt x4 h).bind fun q1 =>
  oc (q1) ((if (40 : Int32) ≤ (gI h (6, 0, 0) 15) then some (false, h) else (jX8_doCommand x4 h).bind fun q4 =>
  (if q4.1 = true then lt (sI q4.2 (6, 0, 0) 15 ((gI q4.2 (6, 0, 0) 15) + (1 : Int32))) fun h5 =>
  (jX5_behind x4 h5).bind fun q6 =>
  jX8_doCommands_l2_L6 p1 p2 p3 n6 q6 (x5 + 1) h5 else some (false, q4.2)))) (fun k2 => if k2 < 9 then (if k2 = 8 then (jX8_doRepeat_l2 x4 p3 h).bind fun q10 =>
  (if q10.1 = true then (jX5_behind x4 q10.2).bind fun q11 =>
  jX8_doCommands_l2_L6 p1 p2 p3 n6 q11 (x5 + 1) q10.2 else some (false, q10.2)) else (if (40 : Int32) ≤ (gI h (6, 0, 0) 15) then some (false, h) else (jX8_doCommand x4 h).bind fun q7 =>
  (if q7.1 = true then lt (sI q7.2 (6, 0, 0) 15 ((gI q7.2 (6, 0, 0) 15) + (1 : Int32))) fun h8 =>
  (jX5_behind x4 h8).bind fun q9 =>
  jX8_doCommands_l2_L6 p1 p2 p3 n6 q9 (x5 + 1) h8 else some (false, q7.2)))) else none)))
def jX8_doCommands_l2 (p1 : Int32) (p2 : Int32) (p3 : Int32) (h : HD) : Option (Bool × HD) :=
  jX8_doCommands_l2_L6 p1 p2 p3 FU p1 (0 : Int32) h
def jX8_doRepeat_l3_L16 (p1 : Int32) (p2 : Int32) : Nat → Int32 → HD → Option (Bool × HD)
  | 0, _, _ => none
  | n16 + 1, x3, h => (if x3 ≤ 0 then some (true, h) else (jX5_behind p1 h).bind fun q2 =>
  (jX8_doCommands_l2 (p1 + (1 : Int32)) q2 (p2 + (1 : Int32)) h).bind fun q3 =>
  (if q3.1 = true then jX8_doRepeat_l3_L16 p1 p2 n16 (x3 + (-1)) q3.2 else some (false, q3.2)))
def jX8_doRepeat_l3 (p1 : Int32) (p2 : Int32) (h : HD) : Option (Bool × HD) :=
  (if p2 < (2 : Int32) then (jX5_numberAt p1 h).bind fun q1 =>
  jX8_doRepeat_l3_L16 p1 p2 FU q1 h else some (false, h))
def jX8_doCommands_l3_L6 (p1 : Int32) (p2 : Int32) (p3 : Int32) : Nat → Int32 → Int32 → HD → Option (Bool × HD)
  | 0, _, _, _ => none
  | n6 + 1, x4, x5, h => (if (30 : Int32) ≤ x5 then some (true, h) else (if p2 ≤ x4 then some (true, h) else (jX5_commandAt x4 h).bind fun q1 =>
  oc (q1) ((if (40 : Int32) ≤ (gI h (6, 0, 0) 15) then some (false, h) else (jX8_doCommand x4 h).bind fun q4 =>
  (if q4.1 = true then lt (sI q4.2 (6, 0, 0) 15 ((gI q4.2 (6, 0, 0) 15) + (1 : Int32))) fun h5 =>
  (jX5_behind x4 h5).bind fun q6 =>
  jX8_doCommands_l3_L6 p1 p2 p3 n6 q6 (x5 + 1) h5 else some (false, q4.2)))) (fun k2 => if k2 < 9 then (if k2 = 8 then (jX8_doRepeat_l3 x4 p3 h).bind fun q10 =>
  (if q10.1 = true then (jX5_behind x4 q10.2).bind fun q11 =>
  jX8_doCommands_l3_L6 p1 p2 p3 n6 q11 (x5 + 1) q10.2 else some (false, q10.2)) else (if (40 : Int32) ≤ (gI h (6, 0, 0) 15) then some (false, h) else (jX8_doCommand x4 h).bind fun q7 =>
  (if q7.1 = true then lt (sI q7.2 (6, 0, 0) 15 ((gI q7.2 (6, 0, 0) 15) + (1 : Int32))) fun h8 =>
  (jX5_behind x4 h8).bind fun q9 =>
  jX8_doCommands_l3_L6 p1 p2 p3 n6 q9 (x5 + 1) h8 else some (false, q7.2)))) else none)))
def jX8_doCommands_l3 (p1 : Int32) (p2 : Int32) (p3 : Int32) (h : HD) : Option (Bool × HD) :=
  jX8_doCommands_l3_L6 p1 p2 p3 FU p1 (0 : Int32) h
def jX8_runScript  (h : HD) : Option ((Nat ⊕ Int32) × HD) :=
  (jX6_begin h).bind fun q1 =>
  (jX5_read q1).bind fun q2 =>
  (jX8_endReading q2.2).bind fun q3 =>
  (if q2.1 = true then (jX8_note q3).bind fun q4 =>
  lt (sI q4 (6, 0, 0) 15 (0 : Int32)) fun h5 =>
  (jX8_doCommands_l3 (0 : Int32) (jX5_count h5) (0 : Int32) h5).bind fun q6 =>
  (jX8_keepNoted q6.2).bind fun q7 =>
  some (.inr (gI q7 (6, 0, 0) 15), q7) else some (.inl 1, q3))
theorem fg_RX8_35 : FG RX8 35 6 3 := ⟨RX8, TX8, 19, tyX8, rfl, rfl, by decide, tw1_213, inlX8, tyX8_ok, nmX8⟩
theorem fg_RX8_88 : FG RX8 88 6 15 := ⟨RX8, TX8, 19, tyX8, rfl, rfl, by decide, tw1_225, inlX8, tyX8_ok, nmX8⟩
theorem fg_RX5_11 : FG RX5 11 3 0 := ⟨RX5, TX5, 7, tyX5, rfl, rfl, by decide, tw1_95, inlX5, tyX5_ok, nmX5⟩
theorem fp_3_6 : FP 3 6 .int := ⟨RX5, TX5, 7, rfl, rfl, by decide +kernel⟩
theorem fp_6_15 : FP 6 15 .int := ⟨RX8, TX8, 19, rfl, rfl, by decide +kernel⟩
theorem cv_RX3_64 : CN RX3 64 yX8_wordOf "ParkingCircle" cX8_wordOf 4 (some .long) 1 := ⟨by decide +kernel, tw4_119, tw1_1, tw4_120, by decide, by decide, by decide +kernel⟩
theorem cv_RX5_101 : CV RX5 101 yX5_add cX5_add 5 (none) 3 := ⟨tw5_41, tw5_43, ts3_5, tw1_4, tw5_44, by decide, by decide, by decide +kernel⟩
theorem cv_RX5_105 : CV RX5 105 yX5_openRepeat cX5_openRepeat 2 (none) 1 := ⟨tw5_45, tw5_47, ts3_6, tw1_4, tw5_48, by decide, by decide, by decide +kernel⟩
theorem cv_RX5_42 : CV RX5 42 yX6_advance cX6_advance 2 (none) 0 := ⟨tw5_11, tw4_89, tw4_90, tw1_2, tw4_91, by decide, by decide, by decide +kernel⟩
theorem cv_RX5_47 : CV RX5 47 yX6_isEnd cX6_isEnd 1 (some .boolean) 0 := ⟨tw5_12, tw4_224, tw4_225, tw1_2, tw4_226, by decide, by decide, by decide +kernel⟩
theorem cv_RX5_51 : CV RX5 51 yX6_isMark cX6_isMark 2 (some .boolean) 1 := ⟨tw5_13, tw4_187, tw4_188, tw1_2, tw4_189, by decide, by decide, by decide +kernel⟩
theorem cv_RX5_55 : CV RX5 55 yX5_closeRepeat cX5_closeRepeat 1 (none) 0 := ⟨tw5_14, tw5_16, ts3_2, tw1_4, tw5_17, by decide, by decide, by decide +kernel⟩
theorem cv_RX5_58 : CV RX5 58 yX6_readMark cX6_readMark 2 (some .boolean) 1 := ⟨tw5_22, tw4_183, tw4_184, tw1_2, tw4_185, by decide, by decide, by decide +kernel⟩
theorem cv_RX5_61 : CV RX5 61 yX5_readCommand cX5_readCommand 7 (some .boolean) 1 := ⟨tw5_23, tw5_25, ts3_4, tw1_4, tw5_26, by decide, by decide, by decide +kernel⟩
theorem cv_RX5_65 : CV RX5 65 yX6_fail cX6_fail 2 (some .boolean) 1 := ⟨tw5_35, tw4_171, tw4_172, tw1_2, tw4_173, by decide, by decide, by decide +kernel⟩
theorem cv_RX5_68 : CV RX5 68 yX6_isWord cX6_isWord 1 (some .boolean) 0 := ⟨tw5_27, tw4_208, tw4_209, tw1_2, tw4_210, by decide, by decide, by decide +kernel⟩
theorem cv_RX5_71 : CV RX5 71 yX6_word cX6_word 1 (some .long) 0 := ⟨tw5_28, tw4_212, tw4_213, tw1_2, tw4_214, by decide, by decide, by decide +kernel⟩
theorem cv_RX5_75 : CS RX5 75 yX3_withWord cX3_withWord 6 (some (.object "ParkingCircle$Command")) 1 := ⟨tw5_29, tw5_30, tw1_20, tw5_31, by decide, by decide, by decide +kernel⟩
theorem cv_RX5_87 : CV RX5 87 yX6_readName cX6_readName 1 (some .boolean) 0 := ⟨tw5_38, tw4_204, tw4_205, tw1_2, tw4_206, by decide, by decide, by decide +kernel⟩
theorem cv_RX5_93 : CV RX5 93 yX6_readNumber cX6_readNumber 3 (some .boolean) 2 := ⟨tw5_39, tw4_175, tw4_176, tw1_2, tw4_177, by decide, by decide, by decide +kernel⟩
theorem cv_RX5_97 : CV RX5 97 yX6_number cX6_number 1 (some .int) 0 := ⟨tw5_40, tw4_179, tw4_180, tw1_2, tw4_181, by decide, by decide, by decide +kernel⟩
theorem cv_RX6_71 : CN RX6 71 yX8_wordOf "ParkingCircle" cX8_wordOf 4 (some .long) 1 := ⟨by decide +kernel, tw4_119, tw1_1, tw4_120, by decide, by decide, by decide +kernel⟩
theorem cv_RX6_78 : CV RX6 78 yX6_isWord_ cX6_isWord_ 2 (some .boolean) 1 := ⟨tw4_114, tw4_115, tw4_116, tw1_2, tw4_117, by decide, by decide, by decide +kernel⟩
theorem cv_RX8_122 : CV RX8 122 yX6_begin cX6_begin 1 (none) 0 := ⟨tw4_71, tw4_72, tw4_73, tw1_2, tw4_74, by decide, by decide, by decide +kernel⟩
theorem cv_RX8_125 : CV RX8 125 yX8_readSystem cX8_readSystem 4 (some .boolean) 1 := ⟨tw4_75, tw4_77, ts2_12, tw1_1, tw4_78, by decide, by decide, by decide +kernel⟩
theorem cv_RX8_129 : CV RX8 129 yX8_endReading cX8_endReading 1 (none) 0 := ⟨tw4_227, tw4_229, ts3_1, tw1_1, tw4_230, by decide, by decide, by decide +kernel⟩
theorem cv_RX8_141 : CV RX8 141 yX5_read cX5_read 3 (some .boolean) 1 := ⟨tw5_7, tw5_8, tw5_9, tw1_4, tw5_10, by decide, by decide, by decide +kernel⟩
theorem cv_RX8_150 : CV RX8 150 yX5_count cX5_count 1 (some .int) 0 := ⟨tw5_50, tw5_51, tw5_52, tw1_4, tw5_53, by decide, by decide, by decide +kernel⟩
theorem cv_RX8_151 : CV RX8 151 yX8_doCommands cX8_doCommands 6 (some .boolean) 3 := ⟨tw5_54, tw5_56, ts3_7, tw1_1, tw5_57, by decide, by decide, by decide +kernel⟩
theorem cv_RX8_164 : CV RX8 164 yX2_empty cX2_empty 1 (none) 0 := ⟨tw4_79, tw4_80, tw4_81, tw1_5, tw4_82, by decide, by decide, by decide +kernel⟩
theorem cv_RX8_169 : CV RX8 169 yX6_readWord cX6_readWord 2 (some .boolean) 1 := ⟨tw4_84, tw4_85, tw4_86, tw1_2, tw4_87, by decide, by decide, by decide +kernel⟩
theorem cv_RX8_189 : CV RX8 189 yX6_isWord_ cX6_isWord_ 2 (some .boolean) 1 := ⟨tw4_192, tw4_115, tw4_116, tw1_2, tw4_117, by decide, by decide, by decide +kernel⟩
theorem cv_RX8_192 : CV RX8 192 yX8_readBack cX8_readBack 2 (some .boolean) 1 := ⟨tw4_193, tw4_195, ts2_15, tw1_1, tw4_196, by decide, by decide, by decide +kernel⟩
theorem cv_RX8_195 : CV RX8 195 yX8_readCar cX8_readCar 5 (some .boolean) 2 := ⟨tw4_197, tw4_199, ts3_0, tw1_1, tw4_200, by decide, by decide, by decide +kernel⟩
theorem cv_RX8_201 : CV RX8 201 yX6_fail cX6_fail 2 (some .boolean) 1 := ⟨tw4_202, tw4_171, tw4_172, tw1_2, tw4_173, by decide, by decide, by decide +kernel⟩
theorem cv_RX8_205 : CV RX8 205 yX6_isEnd cX6_isEnd 1 (some .boolean) 0 := ⟨tw4_223, tw4_224, tw4_225, tw1_2, tw4_226, by decide, by decide, by decide +kernel⟩
theorem cv_RX8_212 : CV RX8 212 yX6_readName cX6_readName 1 (some .boolean) 0 := ⟨tw4_203, tw4_204, tw4_205, tw1_2, tw4_206, by decide, by decide, by decide +kernel⟩
theorem cv_RX8_215 : CV RX8 215 yX6_word cX6_word 1 (some .long) 0 := ⟨tw4_211, tw4_212, tw4_213, tw1_2, tw4_214, by decide, by decide, by decide +kernel⟩
theorem cv_RX8_480 : CV RX8 480 yX5_commandAt cX5_commandAt 2 (some (.object "ParkingCircle$Command")) 1 := ⟨tw5_58, tw5_59, tw5_60, tw1_4, tw5_61, by decide, by decide, by decide +kernel⟩
theorem cv_RX8_490 : CV RX8 490 yX8_doRepeat cX8_doRepeat 4 (some .boolean) 2 := ⟨tw5_63, tw5_65, ts3_8, tw1_1, tw5_66, by decide, by decide, by decide +kernel⟩
theorem cv_RX8_493 : CV RX8 493 yX8_doCommand cX8_doCommand 5 (some .boolean) 1 := ⟨tw5_75, tw5_77, ts3_9, tw1_1, tw5_78, by decide, by decide, by decide +kernel⟩
theorem cv_RX8_496 : CV RX8 496 yX5_behind cX5_behind 2 (some .int) 1 := ⟨tw5_71, tw5_72, tw5_73, tw1_4, tw5_74, by decide, by decide, by decide +kernel⟩
theorem cv_RX8_499 : CV RX8 499 yX5_numberAt cX5_numberAt 2 (some .int) 1 := ⟨tw5_67, tw5_68, tw5_69, tw1_4, tw5_70, by decide, by decide, by decide +kernel⟩
theorem cv_RX8_500 : CV RX8 500 yX5_nameAt cX5_nameAt 2 (some .long) 1 := ⟨tw5_79, tw5_80, tw5_81, tw1_4, tw5_82, by decide, by decide, by decide +kernel⟩
theorem cv_RX8_538 : CS RX8 538 yX8_withLetter cX8_withLetter 4 (some .long) 3 := ⟨tw4_169, tw4_105, tw1_1, tw4_106, by decide, by decide, by decide +kernel⟩
theorem dX3_withWord_0 : decode cX3_withWord 0 = .ok (.getstatic 61, 3) := by decide +kernel
theorem dX3_withWord_3 : decode cX3_withWord 3 = .ok (.astore_n 2, 1) := by decide +kernel
theorem dX3_withWord_4 : decode cX3_withWord 4 = .ok (.aload_n 2, 1) := by decide +kernel
theorem dX3_withWord_5 : decode cX3_withWord 5 = .ok (.arraylength, 1) := by decide +kernel
theorem dX3_withWord_6 : decode cX3_withWord 6 = .ok (.istore_n 3, 1) := by decide +kernel
theorem dX3_withWord_7 : decode cX3_withWord 7 = .ok (.iconst 0, 1) := by decide +kernel
theorem dX3_withWord_8 : decode cX3_withWord 8 = .ok (.istore 4, 2) := by decide +kernel
theorem dX3_withWord_10 : decode cX3_withWord 10 = .ok (.iload 4, 2) := by decide +kernel
theorem dX3_withWord_12 : decode cX3_withWord 12 = .ok (.iload_n 3, 1) := by decide +kernel
theorem dX3_withWord_13 : decode cX3_withWord 13 = .ok (.if_icmp .ge 31, 3) := by decide +kernel
theorem dX3_withWord_16 : decode cX3_withWord 16 = .ok (.aload_n 2, 1) := by decide +kernel
theorem dX3_withWord_17 : decode cX3_withWord 17 = .ok (.iload 4, 2) := by decide +kernel
theorem dX3_withWord_19 : decode cX3_withWord 19 = .ok (.aaload, 1) := by decide +kernel
theorem dX3_withWord_20 : decode cX3_withWord 20 = .ok (.astore 5, 2) := by decide +kernel
theorem dX3_withWord_22 : decode cX3_withWord 22 = .ok (.aload 5, 2) := by decide +kernel
theorem dX3_withWord_24 : decode cX3_withWord 24 = .ok (.getfield 50, 3) := by decide +kernel
theorem dX3_withWord_27 : decode cX3_withWord 27 = .ok (.invokestatic 64, 3) := by decide +kernel
theorem dX3_withWord_30 : decode cX3_withWord 30 = .ok (.lload_n 0, 1) := by decide +kernel
theorem dX3_withWord_31 : decode cX3_withWord 31 = .ok (.lcmp, 1) := by decide +kernel
theorem dX3_withWord_32 : decode cX3_withWord 32 = .ok (.ifCond .ne 6, 3) := by decide +kernel
theorem dX3_withWord_35 : decode cX3_withWord 35 = .ok (.aload 5, 2) := by decide +kernel
theorem dX3_withWord_37 : decode cX3_withWord 37 = .ok (.areturn, 1) := by decide +kernel
theorem dX3_withWord_38 : decode cX3_withWord 38 = .ok (.iinc 4 1, 3) := by decide +kernel
theorem dX3_withWord_41 : decode cX3_withWord 41 = .ok (.goto (-31), 3) := by decide +kernel
theorem dX3_withWord_44 : decode cX3_withWord 44 = .ok (.aconst_null, 1) := by decide +kernel
theorem dX3_withWord_45 : decode cX3_withWord 45 = .ok (.areturn, 1) := by decide +kernel
theorem dX5_add_0 : decode cX5_add 0 = .ok (.aload_n 0, 1) := by decide +kernel
theorem dX5_add_1 : decode cX5_add 1 = .ok (.getfield 35, 3) := by decide +kernel
theorem dX5_add_4 : decode cX5_add 4 = .ok (.ifCond .lt 12, 3) := by decide +kernel
theorem dX5_add_7 : decode cX5_add 7 = .ok (.aload_n 0, 1) := by decide +kernel
theorem dX5_add_8 : decode cX5_add 8 = .ok (.getfield 35, 3) := by decide +kernel
theorem dX5_add_11 : decode cX5_add 11 = .ok (.bipush 30, 2) := by decide +kernel
theorem dX5_add_13 : decode cX5_add 13 = .ok (.if_icmp .lt 4, 3) := by decide +kernel
theorem dX5_add_16 : decode cX5_add 16 = .ok (.return_, 1) := by decide +kernel
theorem dX5_add_17 : decode cX5_add 17 = .ok (.aload_n 0, 1) := by decide +kernel
theorem dX5_add_18 : decode cX5_add 18 = .ok (.getfield 11, 3) := by decide +kernel
theorem dX5_add_21 : decode cX5_add 21 = .ok (.aload_n 0, 1) := by decide +kernel
theorem dX5_add_22 : decode cX5_add 22 = .ok (.getfield 35, 3) := by decide +kernel
theorem dX5_add_25 : decode cX5_add 25 = .ok (.aload_n 1, 1) := by decide +kernel
theorem dX5_add_26 : decode cX5_add 26 = .ok (.aastore, 1) := by decide +kernel
theorem dX5_add_27 : decode cX5_add 27 = .ok (.aload_n 0, 1) := by decide +kernel
theorem dX5_add_28 : decode cX5_add 28 = .ok (.getfield 17, 3) := by decide +kernel
theorem dX5_add_31 : decode cX5_add 31 = .ok (.aload_n 0, 1) := by decide +kernel
theorem dX5_add_32 : decode cX5_add 32 = .ok (.getfield 35, 3) := by decide +kernel
theorem dX5_add_35 : decode cX5_add 35 = .ok (.lload_n 2, 1) := by decide +kernel
theorem dX5_add_36 : decode cX5_add 36 = .ok (.lastore, 1) := by decide +kernel
theorem dX5_add_37 : decode cX5_add 37 = .ok (.aload_n 0, 1) := by decide +kernel
theorem dX5_add_38 : decode cX5_add 38 = .ok (.getfield 21, 3) := by decide +kernel
theorem dX5_add_41 : decode cX5_add 41 = .ok (.aload_n 0, 1) := by decide +kernel
theorem dX5_add_42 : decode cX5_add 42 = .ok (.getfield 35, 3) := by decide +kernel
theorem dX5_add_45 : decode cX5_add 45 = .ok (.iload 4, 2) := by decide +kernel
theorem dX5_add_47 : decode cX5_add 47 = .ok (.iastore, 1) := by decide +kernel
theorem dX5_add_48 : decode cX5_add 48 = .ok (.aload_n 0, 1) := by decide +kernel
theorem dX5_add_49 : decode cX5_add 49 = .ok (.getfield 25, 3) := by decide +kernel
theorem dX5_add_52 : decode cX5_add 52 = .ok (.aload_n 0, 1) := by decide +kernel
theorem dX5_add_53 : decode cX5_add 53 = .ok (.getfield 35, 3) := by decide +kernel
theorem dX5_add_56 : decode cX5_add 56 = .ok (.aload_n 0, 1) := by decide +kernel
theorem dX5_add_57 : decode cX5_add 57 = .ok (.getfield 35, 3) := by decide +kernel
theorem dX5_add_60 : decode cX5_add 60 = .ok (.iconst 1, 1) := by decide +kernel
theorem dX5_add_61 : decode cX5_add 61 = .ok (.iadd, 1) := by decide +kernel
theorem dX5_add_62 : decode cX5_add 62 = .ok (.iastore, 1) := by decide +kernel
theorem dX5_add_63 : decode cX5_add 63 = .ok (.aload_n 1, 1) := by decide +kernel
theorem dX5_add_64 : decode cX5_add 64 = .ok (.getstatic 79, 3) := by decide +kernel
theorem dX5_add_67 : decode cX5_add 67 = .ok (.if_acmp .ne 11, 3) := by decide +kernel
theorem dX5_add_70 : decode cX5_add 70 = .ok (.aload_n 0, 1) := by decide +kernel
theorem dX5_add_71 : decode cX5_add 71 = .ok (.aload_n 0, 1) := by decide +kernel
theorem dX5_add_72 : decode cX5_add 72 = .ok (.getfield 35, 3) := by decide +kernel
theorem dX5_add_75 : decode cX5_add 75 = .ok (.invokevirtual 105, 3) := by decide +kernel
theorem dX5_add_78 : decode cX5_add 78 = .ok (.aload_n 0, 1) := by decide +kernel
theorem dX5_add_79 : decode cX5_add 79 = .ok (.dup, 1) := by decide +kernel
theorem dX5_add_80 : decode cX5_add 80 = .ok (.getfield 35, 3) := by decide +kernel
theorem dX5_add_83 : decode cX5_add 83 = .ok (.iconst 1, 1) := by decide +kernel
theorem dX5_add_84 : decode cX5_add 84 = .ok (.iadd, 1) := by decide +kernel
theorem dX5_add_85 : decode cX5_add 85 = .ok (.putfield 35, 3) := by decide +kernel
theorem dX5_add_88 : decode cX5_add 88 = .ok (.return_, 1) := by decide +kernel
theorem dX5_commandAt_0 : decode cX5_commandAt 0 = .ok (.aload_n 0, 1) := by decide +kernel
theorem dX5_commandAt_1 : decode cX5_commandAt 1 = .ok (.iload_n 1, 1) := by decide +kernel
theorem dX5_commandAt_2 : decode cX5_commandAt 2 = .ok (.invokevirtual 38, 3) := by decide +kernel
theorem dX5_commandAt_5 : decode cX5_commandAt 5 = .ok (.ifCond .eq 12, 3) := by decide +kernel
theorem dX5_commandAt_8 : decode cX5_commandAt 8 = .ok (.aload_n 0, 1) := by decide +kernel
theorem dX5_commandAt_9 : decode cX5_commandAt 9 = .ok (.getfield 11, 3) := by decide +kernel
theorem dX5_commandAt_12 : decode cX5_commandAt 12 = .ok (.iload_n 1, 1) := by decide +kernel
theorem dX5_commandAt_13 : decode cX5_commandAt 13 = .ok (.aaload, 1) := by decide +kernel
theorem dX5_commandAt_14 : decode cX5_commandAt 14 = .ok (.goto 4, 3) := by decide +kernel
theorem dX5_commandAt_17 : decode cX5_commandAt 17 = .ok (.aconst_null, 1) := by decide +kernel
theorem dX5_commandAt_18 : decode cX5_commandAt 18 = .ok (.areturn, 1) := by decide +kernel
theorem dX5_read_0 : decode cX5_read 0 = .ok (.aload_n 0, 1) := by decide +kernel
theorem dX5_read_1 : decode cX5_read 1 = .ok (.iconst 0, 1) := by decide +kernel
theorem dX5_read_2 : decode cX5_read 2 = .ok (.putfield 35, 3) := by decide +kernel
theorem dX5_read_5 : decode cX5_read 5 = .ok (.aload_n 0, 1) := by decide +kernel
theorem dX5_read_6 : decode cX5_read 6 = .ok (.iconst 0, 1) := by decide +kernel
theorem dX5_read_7 : decode cX5_read 7 = .ok (.putfield 31, 3) := by decide +kernel
theorem dX5_read_10 : decode cX5_read 10 = .ok (.iconst 0, 1) := by decide +kernel
theorem dX5_read_11 : decode cX5_read 11 = .ok (.istore_n 2, 1) := by decide +kernel
theorem dX5_read_12 : decode cX5_read 12 = .ok (.iload_n 2, 1) := by decide +kernel
theorem dX5_read_13 : decode cX5_read 13 = .ok (.sipush 400, 3) := by decide +kernel
theorem dX5_read_16 : decode cX5_read 16 = .ok (.if_icmp .gt 70, 3) := by decide +kernel
theorem dX5_read_19 : decode cX5_read 19 = .ok (.aload_n 1, 1) := by decide +kernel
theorem dX5_read_20 : decode cX5_read 20 = .ok (.invokevirtual 42, 3) := by decide +kernel
theorem dX5_read_23 : decode cX5_read 23 = .ok (.aload_n 0, 1) := by decide +kernel
theorem dX5_read_24 : decode cX5_read 24 = .ok (.getfield 31, 3) := by decide +kernel
theorem dX5_read_27 : decode cX5_read 27 = .ok (.ifCond .ne 12, 3) := by decide +kernel
theorem dX5_read_30 : decode cX5_read 30 = .ok (.aload_n 1, 1) := by decide +kernel
theorem dX5_read_31 : decode cX5_read 31 = .ok (.invokevirtual 47, 3) := by decide +kernel
theorem dX5_read_34 : decode cX5_read 34 = .ok (.ifCond .eq 5, 3) := by decide +kernel
theorem dX5_read_37 : decode cX5_read 37 = .ok (.iconst 1, 1) := by decide +kernel
theorem dX5_read_38 : decode cX5_read 38 = .ok (.ireturn, 1) := by decide +kernel
theorem dX5_read_39 : decode cX5_read 39 = .ok (.aload_n 0, 1) := by decide +kernel
theorem dX5_read_40 : decode cX5_read 40 = .ok (.getfield 31, 3) := by decide +kernel
theorem dX5_read_43 : decode cX5_read 43 = .ok (.ifCond .le 27, 3) := by decide +kernel
theorem dX5_read_46 : decode cX5_read 46 = .ok (.aload_n 1, 1) := by decide +kernel
theorem dX5_read_47 : decode cX5_read 47 = .ok (.bipush 41, 2) := by decide +kernel
theorem dX5_read_49 : decode cX5_read 49 = .ok (.invokevirtual 51, 3) := by decide +kernel
theorem dX5_read_52 : decode cX5_read 52 = .ok (.ifCond .eq 18, 3) := by decide +kernel
theorem dX5_read_55 : decode cX5_read 55 = .ok (.aload_n 0, 1) := by decide +kernel
theorem dX5_read_56 : decode cX5_read 56 = .ok (.invokevirtual 55, 3) := by decide +kernel
theorem dX5_read_59 : decode cX5_read 59 = .ok (.aload_n 1, 1) := by decide +kernel
theorem dX5_read_60 : decode cX5_read 60 = .ok (.bipush 59, 2) := by decide +kernel
theorem dX5_read_62 : decode cX5_read 62 = .ok (.invokevirtual 58, 3) := by decide +kernel
theorem dX5_read_65 : decode cX5_read 65 = .ok (.ifCond .ne 15, 3) := by decide +kernel
theorem dX5_read_68 : decode cX5_read 68 = .ok (.iconst 0, 1) := by decide +kernel
theorem dX5_read_69 : decode cX5_read 69 = .ok (.ireturn, 1) := by decide +kernel
theorem dX5_read_70 : decode cX5_read 70 = .ok (.aload_n 0, 1) := by decide +kernel
theorem dX5_read_71 : decode cX5_read 71 = .ok (.aload_n 1, 1) := by decide +kernel
theorem dX5_read_72 : decode cX5_read 72 = .ok (.invokevirtual 61, 3) := by decide +kernel
theorem dX5_read_75 : decode cX5_read 75 = .ok (.ifCond .ne 5, 3) := by decide +kernel
theorem dX5_read_78 : decode cX5_read 78 = .ok (.iconst 0, 1) := by decide +kernel
theorem dX5_read_79 : decode cX5_read 79 = .ok (.ireturn, 1) := by decide +kernel
theorem dX5_read_80 : decode cX5_read 80 = .ok (.iinc 2 1, 3) := by decide +kernel
theorem dX5_read_83 : decode cX5_read 83 = .ok (.goto (-71), 3) := by decide +kernel
theorem dX5_read_86 : decode cX5_read 86 = .ok (.aload_n 1, 1) := by decide +kernel
theorem dX5_read_87 : decode cX5_read 87 = .ok (.iconst 1, 1) := by decide +kernel
theorem dX5_read_88 : decode cX5_read 88 = .ok (.invokevirtual 65, 3) := by decide +kernel
theorem dX5_read_91 : decode cX5_read 91 = .ok (.ireturn, 1) := by decide +kernel
theorem dX5_readCommand_0 : decode cX5_readCommand 0 = .ok (.aload_n 1, 1) := by decide +kernel
theorem dX5_readCommand_1 : decode cX5_readCommand 1 = .ok (.invokevirtual 68, 3) := by decide +kernel
theorem dX5_readCommand_4 : decode cX5_readCommand 4 = .ok (.ifCond .eq 13, 3) := by decide +kernel
theorem dX5_readCommand_7 : decode cX5_readCommand 7 = .ok (.aload_n 1, 1) := by decide +kernel
theorem dX5_readCommand_8 : decode cX5_readCommand 8 = .ok (.invokevirtual 71, 3) := by decide +kernel
theorem dX5_readCommand_11 : decode cX5_readCommand 11 = .ok (.invokestatic 75, 3) := by decide +kernel
theorem dX5_readCommand_14 : decode cX5_readCommand 14 = .ok (.goto 4, 3) := by decide +kernel
theorem dX5_readCommand_17 : decode cX5_readCommand 17 = .ok (.aconst_null, 1) := by decide +kernel
theorem dX5_readCommand_18 : decode cX5_readCommand 18 = .ok (.astore_n 2, 1) := by decide +kernel
theorem dX5_readCommand_19 : decode cX5_readCommand 19 = .ok (.aload_n 2, 1) := by decide +kernel
theorem dX5_readCommand_20 : decode cX5_readCommand 20 = .ok (.ifnonnull 9, 3) := by decide +kernel
theorem dX5_readCommand_23 : decode cX5_readCommand 23 = .ok (.aload_n 1, 1) := by decide +kernel
theorem dX5_readCommand_24 : decode cX5_readCommand 24 = .ok (.iconst 1, 1) := by decide +kernel
theorem dX5_readCommand_25 : decode cX5_readCommand 25 = .ok (.invokevirtual 65, 3) := by decide +kernel
theorem dX5_readCommand_28 : decode cX5_readCommand 28 = .ok (.ireturn, 1) := by decide +kernel
theorem dX5_readCommand_29 : decode cX5_readCommand 29 = .ok (.aload_n 2, 1) := by decide +kernel
theorem dX5_readCommand_30 : decode cX5_readCommand 30 = .ok (.getstatic 79, 3) := by decide +kernel
theorem dX5_readCommand_33 : decode cX5_readCommand 33 = .ok (.if_acmp .ne 7, 3) := by decide +kernel
theorem dX5_readCommand_36 : decode cX5_readCommand 36 = .ok (.iconst 1, 1) := by decide +kernel
theorem dX5_readCommand_37 : decode cX5_readCommand 37 = .ok (.goto 4, 3) := by decide +kernel
theorem dX5_readCommand_40 : decode cX5_readCommand 40 = .ok (.iconst 0, 1) := by decide +kernel
theorem dX5_readCommand_41 : decode cX5_readCommand 41 = .ok (.istore_n 3, 1) := by decide +kernel
theorem dX5_readCommand_42 : decode cX5_readCommand 42 = .ok (.iload_n 3, 1) := by decide +kernel
theorem dX5_readCommand_43 : decode cX5_readCommand 43 = .ok (.ifCond .eq 17, 3) := by decide +kernel
theorem dX5_readCommand_46 : decode cX5_readCommand 46 = .ok (.aload_n 0, 1) := by decide +kernel
theorem dX5_readCommand_47 : decode cX5_readCommand 47 = .ok (.getfield 31, 3) := by decide +kernel
theorem dX5_readCommand_50 : decode cX5_readCommand 50 = .ok (.iconst 2, 1) := by decide +kernel
theorem dX5_readCommand_51 : decode cX5_readCommand 51 = .ok (.if_icmp .lt 9, 3) := by decide +kernel
theorem dX5_readCommand_54 : decode cX5_readCommand 54 = .ok (.aload_n 1, 1) := by decide +kernel
theorem dX5_readCommand_55 : decode cX5_readCommand 55 = .ok (.iconst 3, 1) := by decide +kernel
theorem dX5_readCommand_56 : decode cX5_readCommand 56 = .ok (.invokevirtual 65, 3) := by decide +kernel
theorem dX5_readCommand_59 : decode cX5_readCommand 59 = .ok (.ireturn, 1) := by decide +kernel
theorem dX5_readCommand_60 : decode cX5_readCommand 60 = .ok (.aload_n 0, 1) := by decide +kernel
theorem dX5_readCommand_61 : decode cX5_readCommand 61 = .ok (.getfield 35, 3) := by decide +kernel
theorem dX5_readCommand_64 : decode cX5_readCommand 64 = .ok (.bipush 30, 2) := by decide +kernel
theorem dX5_readCommand_66 : decode cX5_readCommand 66 = .ok (.if_icmp .lt 9, 3) := by decide +kernel
theorem dX5_readCommand_69 : decode cX5_readCommand 69 = .ok (.aload_n 1, 1) := by decide +kernel
theorem dX5_readCommand_70 : decode cX5_readCommand 70 = .ok (.iconst 5, 1) := by decide +kernel
theorem dX5_readCommand_71 : decode cX5_readCommand 71 = .ok (.invokevirtual 65, 3) := by decide +kernel
theorem dX5_readCommand_74 : decode cX5_readCommand 74 = .ok (.ireturn, 1) := by decide +kernel
theorem dX5_readCommand_75 : decode cX5_readCommand 75 = .ok (.aload_n 2, 1) := by decide +kernel
theorem dX5_readCommand_76 : decode cX5_readCommand 76 = .ok (.getfield 83, 3) := by decide +kernel
theorem dX5_readCommand_79 : decode cX5_readCommand 79 = .ok (.ifCond .eq 12, 3) := by decide +kernel
theorem dX5_readCommand_82 : decode cX5_readCommand 82 = .ok (.aload_n 1, 1) := by decide +kernel
theorem dX5_readCommand_83 : decode cX5_readCommand 83 = .ok (.invokevirtual 87, 3) := by decide +kernel
theorem dX5_readCommand_86 : decode cX5_readCommand 86 = .ok (.ifCond .ne 5, 3) := by decide +kernel
theorem dX5_readCommand_89 : decode cX5_readCommand 89 = .ok (.iconst 0, 1) := by decide +kernel
theorem dX5_readCommand_90 : decode cX5_readCommand 90 = .ok (.ireturn, 1) := by decide +kernel
theorem dX5_readCommand_91 : decode cX5_readCommand 91 = .ok (.aload_n 2, 1) := by decide +kernel
theorem dX5_readCommand_92 : decode cX5_readCommand 92 = .ok (.getfield 83, 3) := by decide +kernel
theorem dX5_readCommand_95 : decode cX5_readCommand 95 = .ok (.ifCond .eq 10, 3) := by decide +kernel
theorem dX5_readCommand_98 : decode cX5_readCommand 98 = .ok (.aload_n 1, 1) := by decide +kernel
theorem dX5_readCommand_99 : decode cX5_readCommand 99 = .ok (.invokevirtual 71, 3) := by decide +kernel
theorem dX5_readCommand_102 : decode cX5_readCommand 102 = .ok (.goto 4, 3) := by decide +kernel
theorem dX5_readCommand_105 : decode cX5_readCommand 105 = .ok (.lconst 0, 1) := by decide +kernel
theorem dX5_readCommand_106 : decode cX5_readCommand 106 = .ok (.lstore 4, 2) := by decide +kernel
theorem dX5_readCommand_108 : decode cX5_readCommand 108 = .ok (.aload_n 2, 1) := by decide +kernel
theorem dX5_readCommand_109 : decode cX5_readCommand 109 = .ok (.getfield 90, 3) := by decide +kernel
theorem dX5_readCommand_112 : decode cX5_readCommand 112 = .ok (.ifCond .eq 33, 3) := by decide +kernel
theorem dX5_readCommand_115 : decode cX5_readCommand 115 = .ok (.aload_n 1, 1) := by decide +kernel
theorem dX5_readCommand_116 : decode cX5_readCommand 116 = .ok (.iload_n 3, 1) := by decide +kernel
theorem dX5_readCommand_117 : decode cX5_readCommand 117 = .ok (.ifCond .eq 7, 3) := by decide +kernel
theorem dX5_readCommand_120 : decode cX5_readCommand 120 = .ok (.iconst 1, 1) := by decide +kernel
theorem dX5_readCommand_121 : decode cX5_readCommand 121 = .ok (.goto 4, 3) := by decide +kernel
theorem dX5_readCommand_124 : decode cX5_readCommand 124 = .ok (.iconst 0, 1) := by decide +kernel
theorem dX5_readCommand_125 : decode cX5_readCommand 125 = .ok (.iload_n 3, 1) := by decide +kernel
theorem dX5_readCommand_126 : decode cX5_readCommand 126 = .ok (.ifCond .eq 8, 3) := by decide +kernel
theorem dX5_readCommand_129 : decode cX5_readCommand 129 = .ok (.bipush 20, 2) := by decide +kernel
theorem dX5_readCommand_131 : decode cX5_readCommand 131 = .ok (.goto 6, 3) := by decide +kernel
theorem dX5_readCommand_134 : decode cX5_readCommand 134 = .ok (.sipush 999, 3) := by decide +kernel
theorem dX5_readCommand_137 : decode cX5_readCommand 137 = .ok (.invokevirtual 93, 3) := by decide +kernel
theorem dX5_readCommand_140 : decode cX5_readCommand 140 = .ok (.ifCond .ne 5, 3) := by decide +kernel
theorem dX5_readCommand_143 : decode cX5_readCommand 143 = .ok (.iconst 0, 1) := by decide +kernel
theorem dX5_readCommand_144 : decode cX5_readCommand 144 = .ok (.ireturn, 1) := by decide +kernel
theorem dX5_readCommand_145 : decode cX5_readCommand 145 = .ok (.aload_n 2, 1) := by decide +kernel
theorem dX5_readCommand_146 : decode cX5_readCommand 146 = .ok (.getfield 90, 3) := by decide +kernel
theorem dX5_readCommand_149 : decode cX5_readCommand 149 = .ok (.ifCond .eq 10, 3) := by decide +kernel
theorem dX5_readCommand_152 : decode cX5_readCommand 152 = .ok (.aload_n 1, 1) := by decide +kernel
theorem dX5_readCommand_153 : decode cX5_readCommand 153 = .ok (.invokevirtual 97, 3) := by decide +kernel
theorem dX5_readCommand_156 : decode cX5_readCommand 156 = .ok (.goto 4, 3) := by decide +kernel
theorem dX5_readCommand_159 : decode cX5_readCommand 159 = .ok (.iconst 0, 1) := by decide +kernel
theorem dX5_readCommand_160 : decode cX5_readCommand 160 = .ok (.istore 6, 2) := by decide +kernel
theorem dX5_readCommand_162 : decode cX5_readCommand 162 = .ok (.aload_n 1, 1) := by decide +kernel
theorem dX5_readCommand_163 : decode cX5_readCommand 163 = .ok (.iload_n 3, 1) := by decide +kernel
theorem dX5_readCommand_164 : decode cX5_readCommand 164 = .ok (.ifCond .eq 8, 3) := by decide +kernel
theorem dX5_readCommand_167 : decode cX5_readCommand 167 = .ok (.bipush 40, 2) := by decide +kernel
theorem dX5_readCommand_169 : decode cX5_readCommand 169 = .ok (.goto 5, 3) := by decide +kernel
theorem dX5_readCommand_172 : decode cX5_readCommand 172 = .ok (.bipush 59, 2) := by decide +kernel
theorem dX5_readCommand_174 : decode cX5_readCommand 174 = .ok (.invokevirtual 58, 3) := by decide +kernel
theorem dX5_readCommand_177 : decode cX5_readCommand 177 = .ok (.ifCond .ne 5, 3) := by decide +kernel
theorem dX5_readCommand_180 : decode cX5_readCommand 180 = .ok (.iconst 0, 1) := by decide +kernel
theorem dX5_readCommand_181 : decode cX5_readCommand 181 = .ok (.ireturn, 1) := by decide +kernel
theorem dX5_readCommand_182 : decode cX5_readCommand 182 = .ok (.aload_n 0, 1) := by decide +kernel
theorem dX5_readCommand_183 : decode cX5_readCommand 183 = .ok (.aload_n 2, 1) := by decide +kernel
theorem dX5_readCommand_184 : decode cX5_readCommand 184 = .ok (.lload 4, 2) := by decide +kernel
theorem dX5_readCommand_186 : decode cX5_readCommand 186 = .ok (.iload 6, 2) := by decide +kernel
theorem dX5_readCommand_188 : decode cX5_readCommand 188 = .ok (.invokevirtual 101, 3) := by decide +kernel
theorem dX5_readCommand_191 : decode cX5_readCommand 191 = .ok (.iconst 1, 1) := by decide +kernel
theorem dX5_readCommand_192 : decode cX5_readCommand 192 = .ok (.ireturn, 1) := by decide +kernel
theorem dX6_isWord__0 : decode cX6_isWord_ 0 = .ok (.aload_n 0, 1) := by decide +kernel
theorem dX6_isWord__1 : decode cX6_isWord_ 1 = .ok (.getfield 20, 3) := by decide +kernel
theorem dX6_isWord__4 : decode cX6_isWord_ 4 = .ok (.iconst 1, 1) := by decide +kernel
theorem dX6_isWord__5 : decode cX6_isWord_ 5 = .ok (.if_icmp .ne 19, 3) := by decide +kernel
theorem dX6_isWord__8 : decode cX6_isWord_ 8 = .ok (.aload_n 0, 1) := by decide +kernel
theorem dX6_isWord__9 : decode cX6_isWord_ 9 = .ok (.getfield 30, 3) := by decide +kernel
theorem dX6_isWord__12 : decode cX6_isWord_ 12 = .ok (.aload_n 1, 1) := by decide +kernel
theorem dX6_isWord__13 : decode cX6_isWord_ 13 = .ok (.invokestatic 71, 3) := by decide +kernel
theorem dX6_isWord__16 : decode cX6_isWord_ 16 = .ok (.lcmp, 1) := by decide +kernel
theorem dX6_isWord__17 : decode cX6_isWord_ 17 = .ok (.ifCond .ne 7, 3) := by decide +kernel
theorem dX6_isWord__20 : decode cX6_isWord_ 20 = .ok (.iconst 1, 1) := by decide +kernel
theorem dX6_isWord__21 : decode cX6_isWord_ 21 = .ok (.goto 4, 3) := by decide +kernel
theorem dX6_isWord__24 : decode cX6_isWord_ 24 = .ok (.iconst 0, 1) := by decide +kernel
theorem dX6_isWord__25 : decode cX6_isWord_ 25 = .ok (.ireturn, 1) := by decide +kernel
theorem dX6_readWord_0 : decode cX6_readWord 0 = .ok (.aload_n 0, 1) := by decide +kernel
theorem dX6_readWord_1 : decode cX6_readWord 1 = .ok (.invokevirtual 75, 3) := by decide +kernel
theorem dX6_readWord_4 : decode cX6_readWord 4 = .ok (.aload_n 0, 1) := by decide +kernel
theorem dX6_readWord_5 : decode cX6_readWord 5 = .ok (.aload_n 1, 1) := by decide +kernel
theorem dX6_readWord_6 : decode cX6_readWord 6 = .ok (.invokevirtual 78, 3) := by decide +kernel
theorem dX6_readWord_9 : decode cX6_readWord 9 = .ok (.ifCond .ne 11, 3) := by decide +kernel
theorem dX6_readWord_12 : decode cX6_readWord 12 = .ok (.aload_n 0, 1) := by decide +kernel
theorem dX6_readWord_13 : decode cX6_readWord 13 = .ok (.iconst 1, 1) := by decide +kernel
theorem dX6_readWord_14 : decode cX6_readWord 14 = .ok (.invokevirtual 82, 3) := by decide +kernel
theorem dX6_readWord_17 : decode cX6_readWord 17 = .ok (.ifCond .eq 7, 3) := by decide +kernel
theorem dX6_readWord_20 : decode cX6_readWord 20 = .ok (.iconst 1, 1) := by decide +kernel
theorem dX6_readWord_21 : decode cX6_readWord 21 = .ok (.goto 4, 3) := by decide +kernel
theorem dX6_readWord_24 : decode cX6_readWord 24 = .ok (.iconst 0, 1) := by decide +kernel
theorem dX6_readWord_25 : decode cX6_readWord 25 = .ok (.ireturn, 1) := by decide +kernel
theorem dX8_doCommand_0 : decode cX8_doCommand 0 = .ok (.aload_n 0, 1) := by decide +kernel
theorem dX8_doCommand_1 : decode cX8_doCommand 1 = .ok (.getfield 35, 3) := by decide +kernel
theorem dX8_doCommand_4 : decode cX8_doCommand 4 = .ok (.iload_n 1, 1) := by decide +kernel
theorem dX8_doCommand_5 : decode cX8_doCommand 5 = .ok (.invokevirtual 480, 3) := by decide +kernel
theorem dX8_doCommand_8 : decode cX8_doCommand 8 = .ok (.astore_n 2, 1) := by decide +kernel
theorem dX8_doCommand_9 : decode cX8_doCommand 9 = .ok (.aload_n 2, 1) := by decide +kernel
theorem dX8_doCommand_10 : decode cX8_doCommand 10 = .ok (.ifnonnull 5, 3) := by decide +kernel
theorem dX8_doCommand_13 : decode cX8_doCommand 13 = .ok (.iconst 0, 1) := by decide +kernel
theorem dX8_doCommand_14 : decode cX8_doCommand 14 = .ok (.ireturn, 1) := by decide +kernel
theorem dX8_doCommand_15 : decode cX8_doCommand 15 = .ok (.aload_n 0, 1) := by decide +kernel
theorem dX8_doCommand_16 : decode cX8_doCommand 16 = .ok (.getfield 35, 3) := by decide +kernel
theorem dX8_doCommand_19 : decode cX8_doCommand 19 = .ok (.iload_n 1, 1) := by decide +kernel
theorem dX8_doCommand_20 : decode cX8_doCommand 20 = .ok (.invokevirtual 499, 3) := by decide +kernel
theorem dX8_doCommand_23 : decode cX8_doCommand 23 = .ok (.istore_n 3, 1) := by decide +kernel
theorem dX8_doCommand_24 : decode cX8_doCommand 24 = .ok (.aload_n 0, 1) := by decide +kernel
theorem dX8_doCommand_25 : decode cX8_doCommand 25 = .ok (.getfield 42, 3) := by decide +kernel
theorem dX8_doCommand_28 : decode cX8_doCommand 28 = .ok (.aload_n 0, 1) := by decide +kernel
theorem dX8_doCommand_29 : decode cX8_doCommand 29 = .ok (.getfield 35, 3) := by decide +kernel
theorem dX8_doCommand_32 : decode cX8_doCommand 32 = .ok (.iload_n 1, 1) := by decide +kernel
theorem dX8_doCommand_33 : decode cX8_doCommand 33 = .ok (.invokevirtual 500, 3) := by decide +kernel
theorem dX8_doCommand_36 : decode cX8_doCommand 36 = .ok (.invokevirtual 219, 3) := by decide +kernel
theorem dX8_doCommand_39 : decode cX8_doCommand 39 = .ok (.istore 4, 2) := by decide +kernel
theorem dX8_doCommand_41 : decode cX8_doCommand 41 = .ok (.getstatic 503, 3) := by decide +kernel
theorem dX8_doCommand_44 : decode cX8_doCommand 44 = .ok (.aload_n 2, 1) := by decide +kernel
theorem dX8_doCommand_45 : decode cX8_doCommand 45 = .ok (.invokevirtual 508, 3) := by decide +kernel
theorem dX8_doCommand_48 : decode cX8_doCommand 48 = .ok (.iaload, 1) := by decide +kernel
theorem dX8_doCommand_49 : decode cX8_doCommand 49 = .ok (.tableswitch 212 1 8 #[47, 80, 101, 122, 143, 173, 194, 207], 47) := by decide +kernel
theorem dX8_doCommand_96 : decode cX8_doCommand 96 = .ok (.iload 4, 2) := by decide +kernel
theorem dX8_doCommand_98 : decode cX8_doCommand 98 = .ok (.iconst (-1), 1) := by decide +kernel
theorem dX8_doCommand_99 : decode cX8_doCommand 99 = .ok (.if_icmp .eq 28, 3) := by decide +kernel
theorem dX8_doCommand_102 : decode cX8_doCommand 102 = .ok (.aload_n 0, 1) := by decide +kernel
theorem dX8_doCommand_103 : decode cX8_doCommand 103 = .ok (.getfield 42, 3) := by decide +kernel
theorem dX8_doCommand_106 : decode cX8_doCommand 106 = .ok (.iload_n 3, 1) := by decide +kernel
theorem dX8_doCommand_107 : decode cX8_doCommand 107 = .ok (.invokevirtual 339, 3) := by decide +kernel
theorem dX8_doCommand_110 : decode cX8_doCommand 110 = .ok (.ifCond .eq 17, 3) := by decide +kernel
theorem dX8_doCommand_113 : decode cX8_doCommand 113 = .ok (.aload_n 0, 1) := by decide +kernel
theorem dX8_doCommand_114 : decode cX8_doCommand 114 = .ok (.iload 4, 2) := by decide +kernel
theorem dX8_doCommand_116 : decode cX8_doCommand 116 = .ok (.iload_n 3, 1) := by decide +kernel
theorem dX8_doCommand_117 : decode cX8_doCommand 117 = .ok (.invokevirtual 425, 3) := by decide +kernel
theorem dX8_doCommand_120 : decode cX8_doCommand 120 = .ok (.ifCond .eq 7, 3) := by decide +kernel
theorem dX8_doCommand_123 : decode cX8_doCommand 123 = .ok (.iconst 1, 1) := by decide +kernel
theorem dX8_doCommand_124 : decode cX8_doCommand 124 = .ok (.goto 4, 3) := by decide +kernel
theorem dX8_doCommand_127 : decode cX8_doCommand 127 = .ok (.iconst 0, 1) := by decide +kernel
theorem dX8_doCommand_128 : decode cX8_doCommand 128 = .ok (.ireturn, 1) := by decide +kernel
theorem dX8_doCommand_129 : decode cX8_doCommand 129 = .ok (.iload 4, 2) := by decide +kernel
theorem dX8_doCommand_131 : decode cX8_doCommand 131 = .ok (.iconst (-1), 1) := by decide +kernel
theorem dX8_doCommand_132 : decode cX8_doCommand 132 = .ok (.if_icmp .eq 16, 3) := by decide +kernel
theorem dX8_doCommand_135 : decode cX8_doCommand 135 = .ok (.aload_n 0, 1) := by decide +kernel
theorem dX8_doCommand_136 : decode cX8_doCommand 136 = .ok (.iload 4, 2) := by decide +kernel
theorem dX8_doCommand_138 : decode cX8_doCommand 138 = .ok (.invokevirtual 428, 3) := by decide +kernel
theorem dX8_doCommand_141 : decode cX8_doCommand 141 = .ok (.ifCond .eq 7, 3) := by decide +kernel
theorem dX8_doCommand_144 : decode cX8_doCommand 144 = .ok (.iconst 1, 1) := by decide +kernel
theorem dX8_doCommand_145 : decode cX8_doCommand 145 = .ok (.goto 4, 3) := by decide +kernel
theorem dX8_doCommand_148 : decode cX8_doCommand 148 = .ok (.iconst 0, 1) := by decide +kernel
theorem dX8_doCommand_149 : decode cX8_doCommand 149 = .ok (.ireturn, 1) := by decide +kernel
theorem dX8_doCommand_150 : decode cX8_doCommand 150 = .ok (.iload_n 3, 1) := by decide +kernel
theorem dX8_doCommand_151 : decode cX8_doCommand 151 = .ok (.invokestatic 435, 3) := by decide +kernel
theorem dX8_doCommand_154 : decode cX8_doCommand 154 = .ok (.ifCond .eq 15, 3) := by decide +kernel
theorem dX8_doCommand_157 : decode cX8_doCommand 157 = .ok (.aload_n 0, 1) := by decide +kernel
theorem dX8_doCommand_158 : decode cX8_doCommand 158 = .ok (.iload_n 3, 1) := by decide +kernel
theorem dX8_doCommand_159 : decode cX8_doCommand 159 = .ok (.invokevirtual 440, 3) := by decide +kernel
theorem dX8_doCommand_162 : decode cX8_doCommand 162 = .ok (.ifCond .eq 7, 3) := by decide +kernel
theorem dX8_doCommand_165 : decode cX8_doCommand 165 = .ok (.iconst 1, 1) := by decide +kernel
theorem dX8_doCommand_166 : decode cX8_doCommand 166 = .ok (.goto 4, 3) := by decide +kernel
theorem dX8_doCommand_169 : decode cX8_doCommand 169 = .ok (.iconst 0, 1) := by decide +kernel
theorem dX8_doCommand_170 : decode cX8_doCommand 170 = .ok (.ireturn, 1) := by decide +kernel
theorem dX8_doCommand_171 : decode cX8_doCommand 171 = .ok (.iload_n 3, 1) := by decide +kernel
theorem dX8_doCommand_172 : decode cX8_doCommand 172 = .ok (.invokestatic 346, 3) := by decide +kernel
theorem dX8_doCommand_175 : decode cX8_doCommand 175 = .ok (.ifCond .eq 15, 3) := by decide +kernel
theorem dX8_doCommand_178 : decode cX8_doCommand 178 = .ok (.aload_n 0, 1) := by decide +kernel
theorem dX8_doCommand_179 : decode cX8_doCommand 179 = .ok (.iload_n 3, 1) := by decide +kernel
theorem dX8_doCommand_180 : decode cX8_doCommand 180 = .ok (.invokevirtual 443, 3) := by decide +kernel
theorem dX8_doCommand_183 : decode cX8_doCommand 183 = .ok (.ifCond .eq 7, 3) := by decide +kernel
theorem dX8_doCommand_186 : decode cX8_doCommand 186 = .ok (.iconst 1, 1) := by decide +kernel
theorem dX8_doCommand_187 : decode cX8_doCommand 187 = .ok (.goto 4, 3) := by decide +kernel
theorem dX8_doCommand_190 : decode cX8_doCommand 190 = .ok (.iconst 0, 1) := by decide +kernel
theorem dX8_doCommand_191 : decode cX8_doCommand 191 = .ok (.ireturn, 1) := by decide +kernel
theorem dX8_doCommand_192 : decode cX8_doCommand 192 = .ok (.aload_n 0, 1) := by decide +kernel
theorem dX8_doCommand_193 : decode cX8_doCommand 193 = .ok (.iload_n 3, 1) := by decide +kernel
theorem dX8_doCommand_194 : decode cX8_doCommand 194 = .ok (.invokevirtual 446, 3) := by decide +kernel
theorem dX8_doCommand_197 : decode cX8_doCommand 197 = .ok (.ifCond .eq 23, 3) := by decide +kernel
theorem dX8_doCommand_200 : decode cX8_doCommand 200 = .ok (.aload_n 0, 1) := by decide +kernel
theorem dX8_doCommand_201 : decode cX8_doCommand 201 = .ok (.aload_n 0, 1) := by decide +kernel
theorem dX8_doCommand_202 : decode cX8_doCommand 202 = .ok (.getfield 35, 3) := by decide +kernel
theorem dX8_doCommand_205 : decode cX8_doCommand 205 = .ok (.iload_n 1, 1) := by decide +kernel
theorem dX8_doCommand_206 : decode cX8_doCommand 206 = .ok (.invokevirtual 500, 3) := by decide +kernel
theorem dX8_doCommand_209 : decode cX8_doCommand 209 = .ok (.iload_n 3, 1) := by decide +kernel
theorem dX8_doCommand_210 : decode cX8_doCommand 210 = .ok (.invokevirtual 454, 3) := by decide +kernel
theorem dX8_doCommand_213 : decode cX8_doCommand 213 = .ok (.ifCond .eq 7, 3) := by decide +kernel
theorem dX8_doCommand_216 : decode cX8_doCommand 216 = .ok (.iconst 1, 1) := by decide +kernel
theorem dX8_doCommand_217 : decode cX8_doCommand 217 = .ok (.goto 4, 3) := by decide +kernel
theorem dX8_doCommand_220 : decode cX8_doCommand 220 = .ok (.iconst 0, 1) := by decide +kernel
theorem dX8_doCommand_221 : decode cX8_doCommand 221 = .ok (.ireturn, 1) := by decide +kernel
theorem dX8_doCommand_222 : decode cX8_doCommand 222 = .ok (.iload 4, 2) := by decide +kernel
theorem dX8_doCommand_224 : decode cX8_doCommand 224 = .ok (.iconst (-1), 1) := by decide +kernel
theorem dX8_doCommand_225 : decode cX8_doCommand 225 = .ok (.if_icmp .eq 16, 3) := by decide +kernel
theorem dX8_doCommand_228 : decode cX8_doCommand 228 = .ok (.aload_n 0, 1) := by decide +kernel
theorem dX8_doCommand_229 : decode cX8_doCommand 229 = .ok (.iload 4, 2) := by decide +kernel
theorem dX8_doCommand_231 : decode cX8_doCommand 231 = .ok (.invokevirtual 458, 3) := by decide +kernel
theorem dX8_doCommand_234 : decode cX8_doCommand 234 = .ok (.ifCond .eq 7, 3) := by decide +kernel
theorem dX8_doCommand_237 : decode cX8_doCommand 237 = .ok (.iconst 1, 1) := by decide +kernel
theorem dX8_doCommand_238 : decode cX8_doCommand 238 = .ok (.goto 4, 3) := by decide +kernel
theorem dX8_doCommand_241 : decode cX8_doCommand 241 = .ok (.iconst 0, 1) := by decide +kernel
theorem dX8_doCommand_242 : decode cX8_doCommand 242 = .ok (.ireturn, 1) := by decide +kernel
theorem dX8_doCommand_243 : decode cX8_doCommand 243 = .ok (.aload_n 0, 1) := by decide +kernel
theorem dX8_doCommand_244 : decode cX8_doCommand 244 = .ok (.invokevirtual 461, 3) := by decide +kernel
theorem dX8_doCommand_247 : decode cX8_doCommand 247 = .ok (.ifCond .lt 7, 3) := by decide +kernel
theorem dX8_doCommand_250 : decode cX8_doCommand 250 = .ok (.iconst 1, 1) := by decide +kernel
theorem dX8_doCommand_251 : decode cX8_doCommand 251 = .ok (.goto 4, 3) := by decide +kernel
theorem dX8_doCommand_254 : decode cX8_doCommand 254 = .ok (.iconst 0, 1) := by decide +kernel
theorem dX8_doCommand_255 : decode cX8_doCommand 255 = .ok (.ireturn, 1) := by decide +kernel
theorem dX8_doCommand_256 : decode cX8_doCommand 256 = .ok (.aload_n 0, 1) := by decide +kernel
theorem dX8_doCommand_257 : decode cX8_doCommand 257 = .ok (.invokevirtual 464, 3) := by decide +kernel
theorem dX8_doCommand_260 : decode cX8_doCommand 260 = .ok (.ireturn, 1) := by decide +kernel
theorem dX8_doCommand_261 : decode cX8_doCommand 261 = .ok (.iconst 0, 1) := by decide +kernel
theorem dX8_doCommand_262 : decode cX8_doCommand 262 = .ok (.ireturn, 1) := by decide +kernel
theorem dX8_doCommands_0 : decode cX8_doCommands 0 = .ok (.iload_n 1, 1) := by decide +kernel
theorem dX8_doCommands_1 : decode cX8_doCommands 1 = .ok (.istore 4, 2) := by decide +kernel
theorem dX8_doCommands_3 : decode cX8_doCommands 3 = .ok (.iconst 0, 1) := by decide +kernel
theorem dX8_doCommands_4 : decode cX8_doCommands 4 = .ok (.istore 5, 2) := by decide +kernel
theorem dX8_doCommands_6 : decode cX8_doCommands 6 = .ok (.iload 5, 2) := by decide +kernel
theorem dX8_doCommands_8 : decode cX8_doCommands 8 = .ok (.bipush 30, 2) := by decide +kernel
theorem dX8_doCommands_10 : decode cX8_doCommands 10 = .ok (.if_icmp .ge 83, 3) := by decide +kernel
theorem dX8_doCommands_13 : decode cX8_doCommands 13 = .ok (.iload 4, 2) := by decide +kernel
theorem dX8_doCommands_15 : decode cX8_doCommands 15 = .ok (.iload_n 2, 1) := by decide +kernel
theorem dX8_doCommands_16 : decode cX8_doCommands 16 = .ok (.if_icmp .ge 77, 3) := by decide +kernel
theorem dX8_doCommands_19 : decode cX8_doCommands 19 = .ok (.aload_n 0, 1) := by decide +kernel
theorem dX8_doCommands_20 : decode cX8_doCommands 20 = .ok (.getfield 35, 3) := by decide +kernel
theorem dX8_doCommands_23 : decode cX8_doCommands 23 = .ok (.iload 4, 2) := by decide +kernel
theorem dX8_doCommands_25 : decode cX8_doCommands 25 = .ok (.invokevirtual 480, 3) := by decide +kernel
theorem dX8_doCommands_28 : decode cX8_doCommands 28 = .ok (.getstatic 484, 3) := by decide +kernel
theorem dX8_doCommands_31 : decode cX8_doCommands 31 = .ok (.if_acmp .ne 15, 3) := by decide +kernel
theorem dX8_doCommands_34 : decode cX8_doCommands 34 = .ok (.aload_n 0, 1) := by decide +kernel
theorem dX8_doCommands_35 : decode cX8_doCommands 35 = .ok (.iload 4, 2) := by decide +kernel
theorem dX8_doCommands_37 : decode cX8_doCommands 37 = .ok (.iload_n 3, 1) := by decide +kernel
theorem dX8_doCommands_38 : decode cX8_doCommands 38 = .ok (.invokevirtual 490, 3) := by decide +kernel
theorem dX8_doCommands_41 : decode cX8_doCommands 41 = .ok (.ifCond .ne 35, 3) := by decide +kernel
theorem dX8_doCommands_44 : decode cX8_doCommands 44 = .ok (.iconst 0, 1) := by decide +kernel
theorem dX8_doCommands_45 : decode cX8_doCommands 45 = .ok (.ireturn, 1) := by decide +kernel
theorem dX8_doCommands_46 : decode cX8_doCommands 46 = .ok (.aload_n 0, 1) := by decide +kernel
theorem dX8_doCommands_47 : decode cX8_doCommands 47 = .ok (.getfield 88, 3) := by decide +kernel
theorem dX8_doCommands_50 : decode cX8_doCommands 50 = .ok (.bipush 40, 2) := by decide +kernel
theorem dX8_doCommands_52 : decode cX8_doCommands 52 = .ok (.if_icmp .ge 12, 3) := by decide +kernel
theorem dX8_doCommands_55 : decode cX8_doCommands 55 = .ok (.aload_n 0, 1) := by decide +kernel
theorem dX8_doCommands_56 : decode cX8_doCommands 56 = .ok (.iload 4, 2) := by decide +kernel
theorem dX8_doCommands_58 : decode cX8_doCommands 58 = .ok (.invokevirtual 493, 3) := by decide +kernel
theorem dX8_doCommands_61 : decode cX8_doCommands 61 = .ok (.ifCond .ne 5, 3) := by decide +kernel
theorem dX8_doCommands_64 : decode cX8_doCommands 64 = .ok (.iconst 0, 1) := by decide +kernel
theorem dX8_doCommands_65 : decode cX8_doCommands 65 = .ok (.ireturn, 1) := by decide +kernel
theorem dX8_doCommands_66 : decode cX8_doCommands 66 = .ok (.aload_n 0, 1) := by decide +kernel
theorem dX8_doCommands_67 : decode cX8_doCommands 67 = .ok (.dup, 1) := by decide +kernel
theorem dX8_doCommands_68 : decode cX8_doCommands 68 = .ok (.getfield 88, 3) := by decide +kernel
theorem dX8_doCommands_71 : decode cX8_doCommands 71 = .ok (.iconst 1, 1) := by decide +kernel
theorem dX8_doCommands_72 : decode cX8_doCommands 72 = .ok (.iadd, 1) := by decide +kernel
theorem dX8_doCommands_73 : decode cX8_doCommands 73 = .ok (.putfield 88, 3) := by decide +kernel
theorem dX8_doCommands_76 : decode cX8_doCommands 76 = .ok (.aload_n 0, 1) := by decide +kernel
theorem dX8_doCommands_77 : decode cX8_doCommands 77 = .ok (.getfield 35, 3) := by decide +kernel
theorem dX8_doCommands_80 : decode cX8_doCommands 80 = .ok (.iload 4, 2) := by decide +kernel
theorem dX8_doCommands_82 : decode cX8_doCommands 82 = .ok (.invokevirtual 496, 3) := by decide +kernel
theorem dX8_doCommands_85 : decode cX8_doCommands 85 = .ok (.istore 4, 2) := by decide +kernel
theorem dX8_doCommands_87 : decode cX8_doCommands 87 = .ok (.iinc 5 1, 3) := by decide +kernel
theorem dX8_doCommands_90 : decode cX8_doCommands 90 = .ok (.goto (-84), 3) := by decide +kernel
theorem dX8_doCommands_93 : decode cX8_doCommands 93 = .ok (.iconst 1, 1) := by decide +kernel
theorem dX8_doCommands_94 : decode cX8_doCommands 94 = .ok (.ireturn, 1) := by decide +kernel
theorem dX8_doRepeat_0 : decode cX8_doRepeat 0 = .ok (.iload_n 2, 1) := by decide +kernel
theorem dX8_doRepeat_1 : decode cX8_doRepeat 1 = .ok (.iconst 2, 1) := by decide +kernel
theorem dX8_doRepeat_2 : decode cX8_doRepeat 2 = .ok (.if_icmp .lt 5, 3) := by decide +kernel
theorem dX8_doRepeat_5 : decode cX8_doRepeat 5 = .ok (.iconst 0, 1) := by decide +kernel
theorem dX8_doRepeat_6 : decode cX8_doRepeat 6 = .ok (.ireturn, 1) := by decide +kernel
theorem dX8_doRepeat_7 : decode cX8_doRepeat 7 = .ok (.aload_n 0, 1) := by decide +kernel
theorem dX8_doRepeat_8 : decode cX8_doRepeat 8 = .ok (.getfield 35, 3) := by decide +kernel
theorem dX8_doRepeat_11 : decode cX8_doRepeat 11 = .ok (.iload_n 1, 1) := by decide +kernel
theorem dX8_doRepeat_12 : decode cX8_doRepeat 12 = .ok (.invokevirtual 499, 3) := by decide +kernel
theorem dX8_doRepeat_15 : decode cX8_doRepeat 15 = .ok (.istore_n 3, 1) := by decide +kernel
theorem dX8_doRepeat_16 : decode cX8_doRepeat 16 = .ok (.iload_n 3, 1) := by decide +kernel
theorem dX8_doRepeat_17 : decode cX8_doRepeat 17 = .ok (.ifCond .le 32, 3) := by decide +kernel
theorem dX8_doRepeat_20 : decode cX8_doRepeat 20 = .ok (.aload_n 0, 1) := by decide +kernel
theorem dX8_doRepeat_21 : decode cX8_doRepeat 21 = .ok (.iload_n 1, 1) := by decide +kernel
theorem dX8_doRepeat_22 : decode cX8_doRepeat 22 = .ok (.iconst 1, 1) := by decide +kernel
theorem dX8_doRepeat_23 : decode cX8_doRepeat 23 = .ok (.iadd, 1) := by decide +kernel
theorem dX8_doRepeat_24 : decode cX8_doRepeat 24 = .ok (.aload_n 0, 1) := by decide +kernel
theorem dX8_doRepeat_25 : decode cX8_doRepeat 25 = .ok (.getfield 35, 3) := by decide +kernel
theorem dX8_doRepeat_28 : decode cX8_doRepeat 28 = .ok (.iload_n 1, 1) := by decide +kernel
theorem dX8_doRepeat_29 : decode cX8_doRepeat 29 = .ok (.invokevirtual 496, 3) := by decide +kernel
theorem dX8_doRepeat_32 : decode cX8_doRepeat 32 = .ok (.iload_n 2, 1) := by decide +kernel
theorem dX8_doRepeat_33 : decode cX8_doRepeat 33 = .ok (.iconst 1, 1) := by decide +kernel
theorem dX8_doRepeat_34 : decode cX8_doRepeat 34 = .ok (.iadd, 1) := by decide +kernel
theorem dX8_doRepeat_35 : decode cX8_doRepeat 35 = .ok (.invokevirtual 151, 3) := by decide +kernel
theorem dX8_doRepeat_38 : decode cX8_doRepeat 38 = .ok (.ifCond .ne 5, 3) := by decide +kernel
theorem dX8_doRepeat_41 : decode cX8_doRepeat 41 = .ok (.iconst 0, 1) := by decide +kernel
theorem dX8_doRepeat_42 : decode cX8_doRepeat 42 = .ok (.ireturn, 1) := by decide +kernel
theorem dX8_doRepeat_43 : decode cX8_doRepeat 43 = .ok (.iinc 3 (-1), 3) := by decide +kernel
theorem dX8_doRepeat_46 : decode cX8_doRepeat 46 = .ok (.goto (-30), 3) := by decide +kernel
theorem dX8_doRepeat_49 : decode cX8_doRepeat 49 = .ok (.iconst 1, 1) := by decide +kernel
theorem dX8_doRepeat_50 : decode cX8_doRepeat 50 = .ok (.ireturn, 1) := by decide +kernel
theorem dX8_readCar_0 : decode cX8_readCar 0 = .ok (.aload_n 0, 1) := by decide +kernel
theorem dX8_readCar_1 : decode cX8_readCar 1 = .ok (.getfield 12, 3) := by decide +kernel
theorem dX8_readCar_4 : decode cX8_readCar 4 = .ok (.ldc 199, 2) := by decide +kernel
theorem dX8_readCar_6 : decode cX8_readCar 6 = .ok (.invokevirtual 189, 3) := by decide +kernel
theorem dX8_readCar_9 : decode cX8_readCar 9 = .ok (.ifCond .ne 12, 3) := by decide +kernel
theorem dX8_readCar_12 : decode cX8_readCar 12 = .ok (.aload_n 0, 1) := by decide +kernel
theorem dX8_readCar_13 : decode cX8_readCar 13 = .ok (.getfield 12, 3) := by decide +kernel
theorem dX8_readCar_16 : decode cX8_readCar 16 = .ok (.iconst 1, 1) := by decide +kernel
theorem dX8_readCar_17 : decode cX8_readCar 17 = .ok (.invokevirtual 201, 3) := by decide +kernel
theorem dX8_readCar_20 : decode cX8_readCar 20 = .ok (.ireturn, 1) := by decide +kernel
theorem dX8_readCar_21 : decode cX8_readCar 21 = .ok (.aload_n 0, 1) := by decide +kernel
theorem dX8_readCar_22 : decode cX8_readCar 22 = .ok (.getfield 12, 3) := by decide +kernel
theorem dX8_readCar_25 : decode cX8_readCar 25 = .ok (.invokevirtual 212, 3) := by decide +kernel
theorem dX8_readCar_28 : decode cX8_readCar 28 = .ok (.ifCond .ne 5, 3) := by decide +kernel
theorem dX8_readCar_31 : decode cX8_readCar 31 = .ok (.iconst 0, 1) := by decide +kernel
theorem dX8_readCar_32 : decode cX8_readCar 32 = .ok (.ireturn, 1) := by decide +kernel
theorem dX8_readCar_33 : decode cX8_readCar 33 = .ok (.aload_n 0, 1) := by decide +kernel
theorem dX8_readCar_34 : decode cX8_readCar 34 = .ok (.getfield 12, 3) := by decide +kernel
theorem dX8_readCar_37 : decode cX8_readCar 37 = .ok (.invokevirtual 215, 3) := by decide +kernel
theorem dX8_readCar_40 : decode cX8_readCar 40 = .ok (.lstore_n 3, 1) := by decide +kernel
theorem dX8_readCar_41 : decode cX8_readCar 41 = .ok (.aload_n 1, 1) := by decide +kernel
theorem dX8_readCar_42 : decode cX8_readCar 42 = .ok (.lload_n 3, 1) := by decide +kernel
theorem dX8_readCar_43 : decode cX8_readCar 43 = .ok (.invokevirtual 219, 3) := by decide +kernel
theorem dX8_readCar_46 : decode cX8_readCar 46 = .ok (.iconst (-1), 1) := by decide +kernel
theorem dX8_readCar_47 : decode cX8_readCar 47 = .ok (.if_icmp .eq 12, 3) := by decide +kernel
theorem dX8_readCar_50 : decode cX8_readCar 50 = .ok (.aload_n 0, 1) := by decide +kernel
theorem dX8_readCar_51 : decode cX8_readCar 51 = .ok (.getfield 12, 3) := by decide +kernel
theorem dX8_readCar_54 : decode cX8_readCar 54 = .ok (.iconst 3, 1) := by decide +kernel
theorem dX8_readCar_55 : decode cX8_readCar 55 = .ok (.invokevirtual 201, 3) := by decide +kernel
theorem dX8_readCar_58 : decode cX8_readCar 58 = .ok (.ireturn, 1) := by decide +kernel
theorem dX8_readCar_59 : decode cX8_readCar 59 = .ok (.aload_n 0, 1) := by decide +kernel
theorem dX8_readCar_60 : decode cX8_readCar 60 = .ok (.getfield 12, 3) := by decide +kernel
theorem dX8_readCar_63 : decode cX8_readCar 63 = .ok (.iconst 0, 1) := by decide +kernel
theorem dX8_readCar_64 : decode cX8_readCar 64 = .ok (.iload_n 2, 1) := by decide +kernel
theorem dX8_readCar_65 : decode cX8_readCar 65 = .ok (.invokevirtual 173, 3) := by decide +kernel
theorem dX8_readCar_68 : decode cX8_readCar 68 = .ok (.ifCond .ne 5, 3) := by decide +kernel
theorem dX8_readCar_71 : decode cX8_readCar 71 = .ok (.iconst 0, 1) := by decide +kernel
theorem dX8_readCar_72 : decode cX8_readCar 72 = .ok (.ireturn, 1) := by decide +kernel
theorem dX8_readCar_73 : decode cX8_readCar 73 = .ok (.aload_n 1, 1) := by decide +kernel
theorem dX8_readCar_74 : decode cX8_readCar 74 = .ok (.lload_n 3, 1) := by decide +kernel
theorem dX8_readCar_75 : decode cX8_readCar 75 = .ok (.aload_n 0, 1) := by decide +kernel
theorem dX8_readCar_76 : decode cX8_readCar 76 = .ok (.getfield 12, 3) := by decide +kernel
theorem dX8_readCar_79 : decode cX8_readCar 79 = .ok (.invokevirtual 177, 3) := by decide +kernel
theorem dX8_readCar_82 : decode cX8_readCar 82 = .ok (.invokevirtual 223, 3) := by decide +kernel
theorem dX8_readCar_85 : decode cX8_readCar 85 = .ok (.aload_n 0, 1) := by decide +kernel
theorem dX8_readCar_86 : decode cX8_readCar 86 = .ok (.getfield 12, 3) := by decide +kernel
theorem dX8_readCar_89 : decode cX8_readCar 89 = .ok (.bipush 59, 2) := by decide +kernel
theorem dX8_readCar_91 : decode cX8_readCar 91 = .ok (.invokevirtual 180, 3) := by decide +kernel
theorem dX8_readCar_94 : decode cX8_readCar 94 = .ok (.ifCond .ne 5, 3) := by decide +kernel
theorem dX8_readCar_97 : decode cX8_readCar 97 = .ok (.iconst 0, 1) := by decide +kernel
theorem dX8_readCar_98 : decode cX8_readCar 98 = .ok (.ireturn, 1) := by decide +kernel
theorem dX8_readCar_99 : decode cX8_readCar 99 = .ok (.aload_n 0, 1) := by decide +kernel
theorem dX8_readCar_100 : decode cX8_readCar 100 = .ok (.getfield 12, 3) := by decide +kernel
theorem dX8_readCar_103 : decode cX8_readCar 103 = .ok (.invokevirtual 184, 3) := by decide +kernel
theorem dX8_readCar_106 : decode cX8_readCar 106 = .ok (.iconst 1, 1) := by decide +kernel
theorem dX8_readCar_107 : decode cX8_readCar 107 = .ok (.ireturn, 1) := by decide +kernel
theorem dX8_readSystem_0 : decode cX8_readSystem 0 = .ok (.aload_n 1, 1) := by decide +kernel
theorem dX8_readSystem_1 : decode cX8_readSystem 1 = .ok (.invokevirtual 164, 3) := by decide +kernel
theorem dX8_readSystem_4 : decode cX8_readSystem 4 = .ok (.aload_n 0, 1) := by decide +kernel
theorem dX8_readSystem_5 : decode cX8_readSystem 5 = .ok (.getfield 12, 3) := by decide +kernel
theorem dX8_readSystem_8 : decode cX8_readSystem 8 = .ok (.ldc 167, 2) := by decide +kernel
theorem dX8_readSystem_10 : decode cX8_readSystem 10 = .ok (.invokevirtual 169, 3) := by decide +kernel
theorem dX8_readSystem_13 : decode cX8_readSystem 13 = .ok (.ifCond .eq 16, 3) := by decide +kernel
theorem dX8_readSystem_16 : decode cX8_readSystem 16 = .ok (.aload_n 0, 1) := by decide +kernel
theorem dX8_readSystem_17 : decode cX8_readSystem 17 = .ok (.getfield 12, 3) := by decide +kernel
theorem dX8_readSystem_20 : decode cX8_readSystem 20 = .ok (.iconst 0, 1) := by decide +kernel
theorem dX8_readSystem_21 : decode cX8_readSystem 21 = .ok (.bipush 11, 2) := by decide +kernel
theorem dX8_readSystem_23 : decode cX8_readSystem 23 = .ok (.invokevirtual 173, 3) := by decide +kernel
theorem dX8_readSystem_26 : decode cX8_readSystem 26 = .ok (.ifCond .ne 5, 3) := by decide +kernel
theorem dX8_readSystem_29 : decode cX8_readSystem 29 = .ok (.iconst 0, 1) := by decide +kernel
theorem dX8_readSystem_30 : decode cX8_readSystem 30 = .ok (.ireturn, 1) := by decide +kernel
theorem dX8_readSystem_31 : decode cX8_readSystem 31 = .ok (.aload_n 0, 1) := by decide +kernel
theorem dX8_readSystem_32 : decode cX8_readSystem 32 = .ok (.getfield 12, 3) := by decide +kernel
theorem dX8_readSystem_35 : decode cX8_readSystem 35 = .ok (.invokevirtual 177, 3) := by decide +kernel
theorem dX8_readSystem_38 : decode cX8_readSystem 38 = .ok (.istore_n 2, 1) := by decide +kernel
theorem dX8_readSystem_39 : decode cX8_readSystem 39 = .ok (.aload_n 0, 1) := by decide +kernel
theorem dX8_readSystem_40 : decode cX8_readSystem 40 = .ok (.getfield 12, 3) := by decide +kernel
theorem dX8_readSystem_43 : decode cX8_readSystem 43 = .ok (.bipush 59, 2) := by decide +kernel
theorem dX8_readSystem_45 : decode cX8_readSystem 45 = .ok (.invokevirtual 180, 3) := by decide +kernel
theorem dX8_readSystem_48 : decode cX8_readSystem 48 = .ok (.ifCond .ne 5, 3) := by decide +kernel
theorem dX8_readSystem_51 : decode cX8_readSystem 51 = .ok (.iconst 0, 1) := by decide +kernel
theorem dX8_readSystem_52 : decode cX8_readSystem 52 = .ok (.ireturn, 1) := by decide +kernel
theorem dX8_readSystem_53 : decode cX8_readSystem 53 = .ok (.aload_n 0, 1) := by decide +kernel
theorem dX8_readSystem_54 : decode cX8_readSystem 54 = .ok (.getfield 12, 3) := by decide +kernel
theorem dX8_readSystem_57 : decode cX8_readSystem 57 = .ok (.invokevirtual 184, 3) := by decide +kernel
theorem dX8_readSystem_60 : decode cX8_readSystem 60 = .ok (.aload_n 0, 1) := by decide +kernel
theorem dX8_readSystem_61 : decode cX8_readSystem 61 = .ok (.getfield 12, 3) := by decide +kernel
theorem dX8_readSystem_64 : decode cX8_readSystem 64 = .ok (.ldc 187, 2) := by decide +kernel
theorem dX8_readSystem_66 : decode cX8_readSystem 66 = .ok (.invokevirtual 189, 3) := by decide +kernel
theorem dX8_readSystem_69 : decode cX8_readSystem 69 = .ok (.ifCond .eq 13, 3) := by decide +kernel
theorem dX8_readSystem_72 : decode cX8_readSystem 72 = .ok (.aload_n 0, 1) := by decide +kernel
theorem dX8_readSystem_73 : decode cX8_readSystem 73 = .ok (.aload_n 1, 1) := by decide +kernel
theorem dX8_readSystem_74 : decode cX8_readSystem 74 = .ok (.invokevirtual 192, 3) := by decide +kernel
theorem dX8_readSystem_77 : decode cX8_readSystem 77 = .ok (.ifCond .ne 5, 3) := by decide +kernel
theorem dX8_readSystem_80 : decode cX8_readSystem 80 = .ok (.iconst 0, 1) := by decide +kernel
theorem dX8_readSystem_81 : decode cX8_readSystem 81 = .ok (.ireturn, 1) := by decide +kernel
theorem dX8_readSystem_82 : decode cX8_readSystem 82 = .ok (.iconst 0, 1) := by decide +kernel
theorem dX8_readSystem_83 : decode cX8_readSystem 83 = .ok (.istore_n 3, 1) := by decide +kernel
theorem dX8_readSystem_84 : decode cX8_readSystem 84 = .ok (.iload_n 3, 1) := by decide +kernel
theorem dX8_readSystem_85 : decode cX8_readSystem 85 = .ok (.iload_n 2, 1) := by decide +kernel
theorem dX8_readSystem_86 : decode cX8_readSystem 86 = .ok (.if_icmp .ge 20, 3) := by decide +kernel
theorem dX8_readSystem_89 : decode cX8_readSystem 89 = .ok (.aload_n 0, 1) := by decide +kernel
theorem dX8_readSystem_90 : decode cX8_readSystem 90 = .ok (.aload_n 1, 1) := by decide +kernel
theorem dX8_readSystem_91 : decode cX8_readSystem 91 = .ok (.iload_n 2, 1) := by decide +kernel
theorem dX8_readSystem_92 : decode cX8_readSystem 92 = .ok (.invokevirtual 195, 3) := by decide +kernel
theorem dX8_readSystem_95 : decode cX8_readSystem 95 = .ok (.ifCond .ne 5, 3) := by decide +kernel
theorem dX8_readSystem_98 : decode cX8_readSystem 98 = .ok (.iconst 0, 1) := by decide +kernel
theorem dX8_readSystem_99 : decode cX8_readSystem 99 = .ok (.ireturn, 1) := by decide +kernel
theorem dX8_readSystem_100 : decode cX8_readSystem 100 = .ok (.iinc 3 1, 3) := by decide +kernel
theorem dX8_readSystem_103 : decode cX8_readSystem 103 = .ok (.goto (-19), 3) := by decide +kernel
theorem dX8_readSystem_106 : decode cX8_readSystem 106 = .ok (.aload_n 0, 1) := by decide +kernel
theorem dX8_readSystem_107 : decode cX8_readSystem 107 = .ok (.getfield 12, 3) := by decide +kernel
theorem dX8_readSystem_110 : decode cX8_readSystem 110 = .ok (.ldc 199, 2) := by decide +kernel
theorem dX8_readSystem_112 : decode cX8_readSystem 112 = .ok (.invokevirtual 189, 3) := by decide +kernel
theorem dX8_readSystem_115 : decode cX8_readSystem 115 = .ok (.ifCond .eq 12, 3) := by decide +kernel
theorem dX8_readSystem_118 : decode cX8_readSystem 118 = .ok (.aload_n 0, 1) := by decide +kernel
theorem dX8_readSystem_119 : decode cX8_readSystem 119 = .ok (.getfield 12, 3) := by decide +kernel
theorem dX8_readSystem_122 : decode cX8_readSystem 122 = .ok (.iconst 5, 1) := by decide +kernel
theorem dX8_readSystem_123 : decode cX8_readSystem 123 = .ok (.invokevirtual 201, 3) := by decide +kernel
theorem dX8_readSystem_126 : decode cX8_readSystem 126 = .ok (.ireturn, 1) := by decide +kernel
theorem dX8_readSystem_127 : decode cX8_readSystem 127 = .ok (.aload_n 0, 1) := by decide +kernel
theorem dX8_readSystem_128 : decode cX8_readSystem 128 = .ok (.getfield 12, 3) := by decide +kernel
theorem dX8_readSystem_131 : decode cX8_readSystem 131 = .ok (.invokevirtual 205, 3) := by decide +kernel
theorem dX8_readSystem_134 : decode cX8_readSystem 134 = .ok (.ifCond .ne 14, 3) := by decide +kernel
theorem dX8_readSystem_137 : decode cX8_readSystem 137 = .ok (.aload_n 0, 1) := by decide +kernel
theorem dX8_readSystem_138 : decode cX8_readSystem 138 = .ok (.getfield 12, 3) := by decide +kernel
theorem dX8_readSystem_141 : decode cX8_readSystem 141 = .ok (.iconst 1, 1) := by decide +kernel
theorem dX8_readSystem_142 : decode cX8_readSystem 142 = .ok (.invokevirtual 201, 3) := by decide +kernel
theorem dX8_readSystem_145 : decode cX8_readSystem 145 = .ok (.ifCond .eq 7, 3) := by decide +kernel
theorem dX8_readSystem_148 : decode cX8_readSystem 148 = .ok (.iconst 1, 1) := by decide +kernel
theorem dX8_readSystem_149 : decode cX8_readSystem 149 = .ok (.goto 4, 3) := by decide +kernel
theorem dX8_readSystem_152 : decode cX8_readSystem 152 = .ok (.iconst 0, 1) := by decide +kernel
theorem dX8_readSystem_153 : decode cX8_readSystem 153 = .ok (.ireturn, 1) := by decide +kernel
theorem dX8_readText_0 : decode cX8_readText 0 = .ok (.aload_n 0, 1) := by decide +kernel
theorem dX8_readText_1 : decode cX8_readText 1 = .ok (.getfield 12, 3) := by decide +kernel
theorem dX8_readText_4 : decode cX8_readText 4 = .ok (.invokevirtual 122, 3) := by decide +kernel
theorem dX8_readText_7 : decode cX8_readText 7 = .ok (.aload_n 0, 1) := by decide +kernel
theorem dX8_readText_8 : decode cX8_readText 8 = .ok (.aload_n 0, 1) := by decide +kernel
theorem dX8_readText_9 : decode cX8_readText 9 = .ok (.getfield 46, 3) := by decide +kernel
theorem dX8_readText_12 : decode cX8_readText 12 = .ok (.invokevirtual 125, 3) := by decide +kernel
theorem dX8_readText_15 : decode cX8_readText 15 = .ok (.istore_n 1, 1) := by decide +kernel
theorem dX8_readText_16 : decode cX8_readText 16 = .ok (.aload_n 0, 1) := by decide +kernel
theorem dX8_readText_17 : decode cX8_readText 17 = .ok (.invokevirtual 129, 3) := by decide +kernel
theorem dX8_readText_20 : decode cX8_readText 20 = .ok (.iload_n 1, 1) := by decide +kernel
theorem dX8_readText_21 : decode cX8_readText 21 = .ok (.ifCond .ne 13, 3) := by decide +kernel
theorem dX8_readText_24 : decode cX8_readText 24 = .ok (.new 114, 3) := by decide +kernel
theorem dX8_readText_27 : decode cX8_readText 27 = .ok (.dup, 1) := by decide +kernel
theorem dX8_readText_28 : decode cX8_readText 28 = .ok (.ldc 132, 2) := by decide +kernel
theorem dX8_readText_30 : decode cX8_readText 30 = .ok (.invokespecial 118, 3) := by decide +kernel
theorem dX8_readText_33 : decode cX8_readText 33 = .ok (.athrow, 1) := by decide +kernel
theorem dX8_readText_34 : decode cX8_readText 34 = .ok (.aload_n 0, 1) := by decide +kernel
theorem dX8_readText_35 : decode cX8_readText 35 = .ok (.getfield 42, 3) := by decide +kernel
theorem dX8_readText_38 : decode cX8_readText 38 = .ok (.aload_n 0, 1) := by decide +kernel
theorem dX8_readText_39 : decode cX8_readText 39 = .ok (.getfield 46, 3) := by decide +kernel
theorem dX8_readText_42 : decode cX8_readText 42 = .ok (.invokevirtual 134, 3) := by decide +kernel
theorem dX8_readText_45 : decode cX8_readText 45 = .ok (.aload_n 0, 1) := by decide +kernel
theorem dX8_readText_46 : decode cX8_readText 46 = .ok (.iconst 0, 1) := by decide +kernel
theorem dX8_readText_47 : decode cX8_readText 47 = .ok (.putfield 80, 3) := by decide +kernel
theorem dX8_readText_50 : decode cX8_readText 50 = .ok (.aload_n 0, 1) := by decide +kernel
theorem dX8_readText_51 : decode cX8_readText 51 = .ok (.getfield 42, 3) := by decide +kernel
theorem dX8_readText_54 : decode cX8_readText 54 = .ok (.invokevirtual 138, 3) := by decide +kernel
theorem dX8_readText_57 : decode cX8_readText 57 = .ok (.ireturn, 1) := by decide +kernel
theorem dX8_runScript_0 : decode cX8_runScript 0 = .ok (.aload_n 0, 1) := by decide +kernel
theorem dX8_runScript_1 : decode cX8_runScript 1 = .ok (.getfield 12, 3) := by decide +kernel
theorem dX8_runScript_4 : decode cX8_runScript 4 = .ok (.invokevirtual 122, 3) := by decide +kernel
theorem dX8_runScript_7 : decode cX8_runScript 7 = .ok (.aload_n 0, 1) := by decide +kernel
theorem dX8_runScript_8 : decode cX8_runScript 8 = .ok (.getfield 35, 3) := by decide +kernel
theorem dX8_runScript_11 : decode cX8_runScript 11 = .ok (.aload_n 0, 1) := by decide +kernel
theorem dX8_runScript_12 : decode cX8_runScript 12 = .ok (.getfield 12, 3) := by decide +kernel
theorem dX8_runScript_15 : decode cX8_runScript 15 = .ok (.invokevirtual 141, 3) := by decide +kernel
theorem dX8_runScript_18 : decode cX8_runScript 18 = .ok (.istore_n 1, 1) := by decide +kernel
theorem dX8_runScript_19 : decode cX8_runScript 19 = .ok (.aload_n 0, 1) := by decide +kernel
theorem dX8_runScript_20 : decode cX8_runScript 20 = .ok (.invokevirtual 129, 3) := by decide +kernel
theorem dX8_runScript_23 : decode cX8_runScript 23 = .ok (.iload_n 1, 1) := by decide +kernel
theorem dX8_runScript_24 : decode cX8_runScript 24 = .ok (.ifCond .ne 13, 3) := by decide +kernel
theorem dX8_runScript_27 : decode cX8_runScript 27 = .ok (.new 114, 3) := by decide +kernel
theorem dX8_runScript_30 : decode cX8_runScript 30 = .ok (.dup, 1) := by decide +kernel
theorem dX8_runScript_31 : decode cX8_runScript 31 = .ok (.ldc 145, 2) := by decide +kernel
theorem dX8_runScript_33 : decode cX8_runScript 33 = .ok (.invokespecial 118, 3) := by decide +kernel
theorem dX8_runScript_36 : decode cX8_runScript 36 = .ok (.athrow, 1) := by decide +kernel
theorem dX8_runScript_37 : decode cX8_runScript 37 = .ok (.aload_n 0, 1) := by decide +kernel
theorem dX8_runScript_38 : decode cX8_runScript 38 = .ok (.invokevirtual 147, 3) := by decide +kernel
theorem dX8_runScript_41 : decode cX8_runScript 41 = .ok (.aload_n 0, 1) := by decide +kernel
theorem dX8_runScript_42 : decode cX8_runScript 42 = .ok (.iconst 0, 1) := by decide +kernel
theorem dX8_runScript_43 : decode cX8_runScript 43 = .ok (.putfield 88, 3) := by decide +kernel
theorem dX8_runScript_46 : decode cX8_runScript 46 = .ok (.aload_n 0, 1) := by decide +kernel
theorem dX8_runScript_47 : decode cX8_runScript 47 = .ok (.iconst 0, 1) := by decide +kernel
theorem dX8_runScript_48 : decode cX8_runScript 48 = .ok (.aload_n 0, 1) := by decide +kernel
theorem dX8_runScript_49 : decode cX8_runScript 49 = .ok (.getfield 35, 3) := by decide +kernel
theorem dX8_runScript_52 : decode cX8_runScript 52 = .ok (.invokevirtual 150, 3) := by decide +kernel
theorem dX8_runScript_55 : decode cX8_runScript 55 = .ok (.iconst 0, 1) := by decide +kernel
theorem dX8_runScript_56 : decode cX8_runScript 56 = .ok (.invokevirtual 151, 3) := by decide +kernel
theorem dX8_runScript_59 : decode cX8_runScript 59 = .ok (.pop, 1) := by decide +kernel
theorem dX8_runScript_60 : decode cX8_runScript 60 = .ok (.aload_n 0, 1) := by decide +kernel
theorem dX8_runScript_61 : decode cX8_runScript 61 = .ok (.invokevirtual 155, 3) := by decide +kernel
theorem dX8_runScript_64 : decode cX8_runScript 64 = .ok (.aload_n 0, 1) := by decide +kernel
theorem dX8_runScript_65 : decode cX8_runScript 65 = .ok (.getfield 88, 3) := by decide +kernel
theorem dX8_runScript_68 : decode cX8_runScript 68 = .ok (.ireturn, 1) := by decide +kernel
theorem dX8_wordOf_0 : decode cX8_wordOf 0 = .ok (.lconst 0, 1) := by decide +kernel
theorem dX8_wordOf_1 : decode cX8_wordOf 1 = .ok (.lstore_n 1, 1) := by decide +kernel
theorem dX8_wordOf_2 : decode cX8_wordOf 2 = .ok (.iconst 0, 1) := by decide +kernel
theorem dX8_wordOf_3 : decode cX8_wordOf 3 = .ok (.istore_n 3, 1) := by decide +kernel
theorem dX8_wordOf_4 : decode cX8_wordOf 4 = .ok (.iload_n 3, 1) := by decide +kernel
theorem dX8_wordOf_5 : decode cX8_wordOf 5 = .ok (.aload_n 0, 1) := by decide +kernel
theorem dX8_wordOf_6 : decode cX8_wordOf 6 = .ok (.invokevirtual 531, 3) := by decide +kernel
theorem dX8_wordOf_9 : decode cX8_wordOf 9 = .ok (.if_icmp .ge 31, 3) := by decide +kernel
theorem dX8_wordOf_12 : decode cX8_wordOf 12 = .ok (.iload_n 3, 1) := by decide +kernel
theorem dX8_wordOf_13 : decode cX8_wordOf 13 = .ok (.bipush 8, 2) := by decide +kernel
theorem dX8_wordOf_15 : decode cX8_wordOf 15 = .ok (.if_icmp .ge 25, 3) := by decide +kernel
theorem dX8_wordOf_18 : decode cX8_wordOf 18 = .ok (.lload_n 1, 1) := by decide +kernel
theorem dX8_wordOf_19 : decode cX8_wordOf 19 = .ok (.iload_n 3, 1) := by decide +kernel
theorem dX8_wordOf_20 : decode cX8_wordOf 20 = .ok (.aload_n 0, 1) := by decide +kernel
theorem dX8_wordOf_21 : decode cX8_wordOf 21 = .ok (.iload_n 3, 1) := by decide +kernel
theorem dX8_wordOf_22 : decode cX8_wordOf 22 = .ok (.invokevirtual 534, 3) := by decide +kernel
theorem dX8_wordOf_25 : decode cX8_wordOf 25 = .ok (.bipush 97, 2) := by decide +kernel
theorem dX8_wordOf_27 : decode cX8_wordOf 27 = .ok (.isub, 1) := by decide +kernel
theorem dX8_wordOf_28 : decode cX8_wordOf 28 = .ok (.iconst 1, 1) := by decide +kernel
theorem dX8_wordOf_29 : decode cX8_wordOf 29 = .ok (.iadd, 1) := by decide +kernel
theorem dX8_wordOf_30 : decode cX8_wordOf 30 = .ok (.invokestatic 538, 3) := by decide +kernel
theorem dX8_wordOf_33 : decode cX8_wordOf 33 = .ok (.lstore_n 1, 1) := by decide +kernel
theorem dX8_wordOf_34 : decode cX8_wordOf 34 = .ok (.iinc 3 1, 3) := by decide +kernel
theorem dX8_wordOf_37 : decode cX8_wordOf 37 = .ok (.goto (-33), 3) := by decide +kernel
theorem dX8_wordOf_40 : decode cX8_wordOf 40 = .ok (.lload_n 1, 1) := by decide +kernel
theorem dX8_wordOf_41 : decode cX8_wordOf 41 = .ok (.lreturn, 1) := by decide +kernel
