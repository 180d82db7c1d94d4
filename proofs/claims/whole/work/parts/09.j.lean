def jJ9_floorMod_7cf53 (p1 : Int32) (p2 : Int32) (h : HD) : Option Int32 :=
  if p2 = 0 then none else (if 0 ≤ (p1 ^^^ p2) then some (p1 - p1 / p2 * p2) else (if (p1 - p1 / p2 * p2) = 0 then some (p1 - p1 / p2 * p2) else some ((p1 - p1 / p2 * p2) + p2)))
def jJ7_fill_53178_L5 (r1 : Rf) (p2 : Int32) (x3 : Int32) : Nat → Int32 → HD → Option HD
  | 0, _, _ => none
  | n5 + 1, x2, h => (if x3 ≤ x2 then some h else if inB x2 (arrT r1).2 = true then lt (sI h r1 x2.toNatClampNeg p2) fun h1 =>
  jJ7_fill_53178_L5 r1 p2 x3 n5 (x2 + 1) h1 else none)
def jJ7_fill_53178 (r1 : Rf) (p2 : Int32) (h : HD) : Option HD :=
  jJ7_fill_53178_L5 r1 p2 (Int32.ofNat (arrT r1).2) FU (0 : Int32) h
def jX1_length (o : Nat) (h : HD) : Int32 :=
  gI h (0, o, 0) 1
def jX1_add (o : Nat) (p1 : Int32) (h : HD) : Option HD :=
  (if (Int32.ofNat (bN o)) ≤ (gI h (0, o, 0) 1) then some h else if inB (gI h (0, o, 0) 1) (bN o) = true then lt (sI h (0, o, 1) ((gI h (0, o, 0) 1).toNatClampNeg) (vp_nar .byte p1.toInt8.toInt32)) fun h1 =>
  lt (sI h1 (0, o, 0) 1 ((gI h1 (0, o, 0) 1) + (1 : Int32))) fun h3 =>
  some h3 else none)
def jX1_addFour_L3 (o : Nat) (p1 : Int32) : Nat → Int32 → HD → Option HD
  | 0, _, _ => none
  | n3 + 1, x2, h => (if x2 < 0 then some h else (jX1_add o (p1 >>> (x2 &&& 31)) h).bind fun q1 =>
  jX1_addFour_L3 o p1 n3 (x2 + (-8)) q1)
def jX1_addFour (o : Nat) (p1 : Int32) (h : HD) : Option HD :=
  jX1_addFour_L3 o p1 FU (24 : Int32) h
def jX8_feed (p1 : Int32) (p2 : Int32) (p3 : Int32) (p4 : Int32) (p5 : Int32) (h : HD) : Option ((Nat ⊕ Int32) × HD) :=
  (if ((jX1_length 0 h) + (20 : Int32)) ≤ (400 : Int32) then (jX1_addFour 0 p1 h).bind fun q1 =>
  (jX1_addFour 0 p2 q1).bind fun q2 =>
  (jX1_addFour 0 p3 q2).bind fun q3 =>
  (jX1_addFour 0 p4 q3).bind fun q4 =>
  (jX1_addFour 0 p5 q4).bind fun q5 =>
  some (.inr (jX1_length 0 q5), q5) else some (.inl 0, h))
def jX1_shorten (o : Nat) (p1 : Int32) (h : HD) : Option HD :=
  (if p1 < 0 then some h else (if (gI h (0, o, 0) 1) ≤ p1 then some h else lt (sI h (0, o, 0) 1 p1) fun h1 =>
  some h1))
def jX8_truncate (p1 : Int32) (h : HD) : Option ((Nat ⊕ Int32) × HD) :=
  (if p1 < 0 then some (.inl 1, h) else (if p1 ≤ (jX1_length 0 h) then (jX1_shorten 0 p1 h).bind fun q1 =>
  some (.inr p1, q1) else some (.inl 1, h)))
def jX8_errorCode  (h : HD) : Int32 :=
  gI h (6, 0, 0) 17
def jX8_errorPosition  (h : HD) : Int32 :=
  gI h (6, 0, 0) 18
def jX6_wrongCode  (h : HD) : Int32 :=
  gI h (4, 0, 0) 7
def jX6_wrongPosition  (h : HD) : Int32 :=
  gI h (4, 0, 0) 8
def jX8_endReading  (h : HD) : Option HD :=
  lt (sI h (6, 0, 0) 17 (jX6_wrongCode h)) fun h1 =>
  lt (sI h1 (6, 0, 0) 18 (jX6_wrongPosition h1)) fun h2 =>
  (jX1_shorten 0 (0 : Int32) h2).bind fun q3 =>
  some q3
def jX1_at (o : Nat) (p1 : Int32) (h : HD) : Option Int32 :=
  (if p1 < 0 then some (-1 : Int32) else (if (gI h (0, o, 0) 1) ≤ p1 then some (-1 : Int32) else (if (Int32.ofNat (bN o)) ≤ p1 then some (-1 : Int32) else if inB p1 (bN o) = true then some (gI h (0, o, 1) p1.toNatClampNeg) else none)))
def jX8_isLetter (p1 : Int32) (h : HD) : Bool :=
  (if p1 < (97 : Int32) then false else (if (122 : Int32) < p1 then false else true))
def jX8_withLetter (p1 : Int64) (p2 : Int32) (p3 : Int32) (h : HD) : Int64 :=
  p1 ||| (p3.toInt64 <<< (((5 : Int32) * ((7 : Int32) - p2)).toInt64 &&& 63))
def jX6_takeWord_L5 (k99 : HD → Option HD) : Nat → HD → Option HD
  | 0, _ => none
  | n5 + 1, h => (if (jX1_length 0 h) ≤ (gI h (4, 0, 0) 3) then k99 h else (jX1_at 0 (gI h (4, 0, 0) 3) h).bind fun q2 =>
  (if (jX8_isLetter q2 h) = true then (if (8 : Int32) ≤ ((gI h (4, 0, 0) 3) - (gI h (4, 0, 0) 2)) then lt (sI h (4, 0, 0) 3 ((gI h (4, 0, 0) 3) + (1 : Int32))) fun h3 =>
  jX6_takeWord_L5 k99 n5 h3 else (jX1_at 0 (gI h (4, 0, 0) 3) h).bind fun q4 =>
  lt (sJ h (4, 0, 0) 4 (jX8_withLetter (gJ h (4, 0, 0) 4) ((gI h (4, 0, 0) 3) - (gI h (4, 0, 0) 2)) ((q4 - (97 : Int32)) + (1 : Int32)) h)) fun h5 =>
  lt (sI h5 (4, 0, 0) 3 ((gI h5 (4, 0, 0) 3) + (1 : Int32))) fun h6 =>
  jX6_takeWord_L5 k99 n5 h6) else k99 h))
def jX6_takeWord  (h : HD) : Option HD :=
  lt (sJ h (4, 0, 0) 4 (0 : Int64)) fun h1 =>
  jX6_takeWord_L5 (fun h7 => (if ((gI h7 (4, 0, 0) 3) - (gI h7 (4, 0, 0) 2)) ≤ (8 : Int32) then lt (sI h7 (4, 0, 0) 1 (1 : Int32)) fun h8 =>
  some h8 else lt (sI h7 (4, 0, 0) 1 (4 : Int32)) fun h9 =>
  some h9)) FU h1
def jX8_isDigit (p1 : Int32) (h : HD) : Bool :=
  (if p1 < (48 : Int32) then false else (if (57 : Int32) < p1 then false else true))
def jX6_takeNumber_L5 (k88 : HD → Option HD) : Nat → HD → Option HD
  | 0, _ => none
  | n5 + 1, h => (if (jX1_length 0 h) ≤ (gI h (4, 0, 0) 3) then k88 h else (jX1_at 0 (gI h (4, 0, 0) 3) h).bind fun q2 =>
  (if (jX8_isDigit q2 h) = true then (if (3 : Int32) ≤ ((gI h (4, 0, 0) 3) - (gI h (4, 0, 0) 2)) then lt (sI h (4, 0, 0) 3 ((gI h (4, 0, 0) 3) + (1 : Int32))) fun h3 =>
  jX6_takeNumber_L5 k88 n5 h3 else (jX1_at 0 (gI h (4, 0, 0) 3) h).bind fun q4 =>
  lt (sI h (4, 0, 0) 5 (((10 : Int32) * (gI h (4, 0, 0) 5)) + (q4 - (48 : Int32)))) fun h5 =>
  lt (sI h5 (4, 0, 0) 3 ((gI h5 (4, 0, 0) 3) + (1 : Int32))) fun h6 =>
  jX6_takeNumber_L5 k88 n5 h6) else k88 h))
def jX6_takeNumber  (h : HD) : Option HD :=
  lt (sI h (4, 0, 0) 5 (0 : Int32)) fun h1 =>
  jX6_takeNumber_L5 (fun h7 => (if ((gI h7 (4, 0, 0) 3) - (gI h7 (4, 0, 0) 2)) ≤ (3 : Int32) then lt (sI h7 (4, 0, 0) 1 (2 : Int32)) fun h8 =>
  some h8 else lt (sI h7 (4, 0, 0) 1 (4 : Int32)) fun h9 =>
  some h9)) FU h1
def jX6_advance_L0 (k59 : HD → Option HD) : Nat → HD → Option HD
  | 0, _ => none
  | n0 + 1, h => (if (jX1_length 0 h) ≤ (gI h (4, 0, 0) 3) then k59 h else (jX1_at 0 (gI h (4, 0, 0) 3) h).bind fun q1 =>
  (if q1 = (32 : Int32) then lt (sI h (4, 0, 0) 3 ((gI h (4, 0, 0) 3) + (1 : Int32))) fun h2 =>
  jX6_advance_L0 k59 n0 h2 else (jX1_at 0 (gI h (4, 0, 0) 3) h).bind fun q3 =>
  (if q3 = (10 : Int32) then lt (sI h (4, 0, 0) 3 ((gI h (4, 0, 0) 3) + (1 : Int32))) fun h4 =>
  jX6_advance_L0 k59 n0 h4 else k59 h)))
def jX6_advance  (h : HD) : Option HD :=
  jX6_advance_L0 (fun h5 => lt (sI h5 (4, 0, 0) 2 (gI h5 (4, 0, 0) 3)) fun h6 =>
  (jX1_at 0 (gI h6 (4, 0, 0) 3) h6).bind fun q7 =>
  (if (gI h6 (4, 0, 0) 3) < (jX1_length 0 h6) then (if (jX8_isLetter q7 h6) = true then (jX6_takeWord h6).bind fun q21 =>
  some q21 else (if (jX8_isDigit q7 h6) = true then (jX6_takeNumber h6).bind fun q20 =>
  some q20 else (if q7 = (59 : Int32) then lt (sI h6 (4, 0, 0) 1 (3 : Int32)) fun h8 =>
  lt (sI h8 (4, 0, 0) 6 q7) fun h9 =>
  lt (sI h9 (4, 0, 0) 3 ((gI h9 (4, 0, 0) 3) + (1 : Int32))) fun h10 =>
  some h10 else (if q7 = (40 : Int32) then lt (sI h6 (4, 0, 0) 1 (3 : Int32)) fun h11 =>
  lt (sI h11 (4, 0, 0) 6 q7) fun h12 =>
  lt (sI h12 (4, 0, 0) 3 ((gI h12 (4, 0, 0) 3) + (1 : Int32))) fun h13 =>
  some h13 else (if q7 = (41 : Int32) then lt (sI h6 (4, 0, 0) 1 (3 : Int32)) fun h17 =>
  lt (sI h17 (4, 0, 0) 6 q7) fun h18 =>
  lt (sI h18 (4, 0, 0) 3 ((gI h18 (4, 0, 0) 3) + (1 : Int32))) fun h19 =>
  some h19 else lt (sI h6 (4, 0, 0) 1 (4 : Int32)) fun h14 =>
  lt (sI h14 (4, 0, 0) 6 q7) fun h15 =>
  lt (sI h15 (4, 0, 0) 3 ((gI h15 (4, 0, 0) 3) + (1 : Int32))) fun h16 =>
  some h16))))) else lt (sI h6 (4, 0, 0) 1 (0 : Int32)) fun h22 =>
  some h22)) FU h
def jX6_fail (p1 : Int32) (h : HD) : Option (Bool × HD) :=
  lt (sI h (4, 0, 0) 7 p1) fun h1 =>
  lt (sI h1 (4, 0, 0) 8 (gI h1 (4, 0, 0) 2)) fun h2 =>
  some (false, h2)
def jX6_readNumber (p1 : Int32) (p2 : Int32) (h : HD) : Option (Bool × HD) :=
  (jX6_advance h).bind fun q1 =>
  (if (gI q1 (4, 0, 0) 1) = (2 : Int32) then (if (gI q1 (4, 0, 0) 5) < p1 then (jX6_fail (2 : Int32) q1).bind fun q2 =>
  (if q2.1 = true then some (true, q2.2) else some (false, q2.2)) else (if (gI q1 (4, 0, 0) 5) ≤ p2 then some (true, q1) else (jX6_fail (2 : Int32) q1).bind fun q3 =>
  (if q3.1 = true then some (true, q3.2) else some (false, q3.2)))) else (jX6_fail (1 : Int32) q1).bind fun q4 =>
  some (q4.1, q4.2))
def jX6_number  (h : HD) : Int32 :=
  gI h (4, 0, 0) 5
def jX2_changeBack (o : Nat) (p1 : Int32) (h : HD) : Option HD :=
  lt (sI h (1, o, 0) 3 p1) fun h1 =>
  some h1
def jX6_isMark (p1 : Int32) (h : HD) : Bool :=
  (if (gI h (4, 0, 0) 1) = (3 : Int32) then (if (gI h (4, 0, 0) 6) = p1 then true else false) else false)
def jX6_readMark (p1 : Int32) (h : HD) : Option (Bool × HD) :=
  (jX6_advance h).bind fun q1 =>
  (if (jX6_isMark p1 q1) = true then some (true, q1) else (jX6_fail (1 : Int32) q1).bind fun q2 =>
  (if q2.1 = true then some (true, q2.2) else some (false, q2.2)))
def jX8_readBack (r1 : Nat) (h : HD) : Option (Bool × HD) :=
  (jX6_readNumber (0 : Int32) (5 : Int32) h).bind fun q1 =>
  (if q1.1 = true then (jX2_changeBack r1 (jX6_number q1.2) q1.2).bind fun q2 =>
  (jX6_readMark (59 : Int32) q2).bind fun q3 =>
  (if q3.1 = true then (jX6_advance q3.2).bind fun q4 =>
  some (true, q4) else some (false, q3.2)) else some (false, q1.2))
def jX8_needSetting (p1 : Int32) (h : HD) : Option (Nat ⊕ Unit) :=
  (if p1 < 0 then some (.inl 1) else (if p1 ≤ (9 : Int32) then some (.inr ()) else some (.inl 1)))
def jX2_count (o : Nat) (h : HD) : Int32 :=
  gI h (1, o, 0) 2
def jX2_spots (o : Nat) (h : HD) : Int32 :=
  (gI h (1, o, 0) 2) + (1 : Int32)
def jX2_back (o : Nat) (h : HD) : Int32 :=
  gI h (1, o, 0) 3
def jX4_open (o : Nat) (p1 : Int32) (p2 : Int32) (p3 : Bool) (h : HD) : Option HD :=
  (if (12 : Int32) ≤ p1 then lt (sI h (2, o, 0) 4 (12 : Int32)) fun h1 =>
  lt (sI h1 (2, o, 0) 5 p2) fun h2 =>
  lt (sI h2 (2, o, 0) 6 (b2i p3)) fun h3 =>
  lt (sI h3 (2, o, 0) 7 (0 : Int32)) fun h4 =>
  (jJ7_fill_53178 (2, o, 4) (-1 : Int32) h4).bind fun q5 =>
  some q5 else lt (sI h (2, o, 0) 4 p1) fun h6 =>
  lt (sI h6 (2, o, 0) 5 p2) fun h7 =>
  lt (sI h7 (2, o, 0) 6 (b2i p3)) fun h8 =>
  lt (sI h8 (2, o, 0) 7 (0 : Int32)) fun h9 =>
  (jJ7_fill_53178 (2, o, 4) (-1 : Int32) h9).bind fun q10 =>
  some q10)
def jX2_hasCar (o : Nat) (p1 : Int32) (h : HD) : Bool :=
  (if p1 < 0 then false else (if (gI h (1, o, 0) 2) ≤ p1 then false else (if (11 : Int32) ≤ p1 then false else true)))
def jX2_preferenceOf (o : Nat) (p1 : Int32) (h : HD) : Option Int32 :=
  (if (jX2_hasCar o p1 h) = true then if inB p1 11 = true then some (gI h (1, o, 2) p1.toNatClampNeg) else none else some (-1 : Int32))
def jX4_isSpot (o : Nat) (p1 : Int32) (h : HD) : Bool :=
  (if p1 < 0 then false else (if (gI h (2, o, 0) 4) ≤ p1 then false else (if (12 : Int32) ≤ p1 then false else true)))
def jX4_isFree (o : Nat) (p1 : Int32) (h : HD) : Option Bool :=
  (if (jX4_isSpot o p1 h) = true then if inB p1 12 = true then (if (gI h (2, o, 4) p1.toNatClampNeg) = (-1 : Int32) then some true else some false) else none else some false)
def jX8_wrapped (p1 : Int32) (p2 : Int32) (h : HD) : Option Int32 :=
  (if (1 : Int32) ≤ p2 then (jJ9_floorMod_7cf53 p1 p2 h).bind fun q1 =>
  some q1 else some (-1 : Int32))
def jX4_spotAt (o : Nat) (p1 : Int32) (h : HD) : Option Int32 :=
  (if (gI h (2, o, 0) 6) = 0 then some p1 else (jX8_wrapped p1 (gI h (2, o, 0) 4) h).bind fun q1 =>
  some q1)
def jX4_moveFrom_L12 (o : Nat) (p1 : Int32) (h : HD) (k43 : Option Int32) : Nat → Int32 → Option Int32
  | 0, _ => none
  | n12 + 1, x2 => (if (gI h (2, o, 0) 5) < x2 then k43 else (jX4_spotAt o (p1 - x2) h).bind fun q2 =>
  (jX4_isFree o q2 h).bind fun q3 =>
  (if q3 = true then some (-x2) else jX4_moveFrom_L12 o p1 h k43 n12 (x2 + 1)))
def jX4_moveFrom_L45 (o : Nat) (p1 : Int32) (h : HD) : Nat → Int32 → Option Int32
  | 0, _ => none
  | n45 + 1, x2 => (if (gI h (2, o, 0) 4) ≤ x2 then some (0 : Int32) else (jX4_spotAt o (p1 + x2) h).bind fun q4 =>
  (jX4_isFree o q4 h).bind fun q5 =>
  (if q5 = true then some x2 else jX4_moveFrom_L45 o p1 h n45 (x2 + 1)))
def jX4_moveFrom (o : Nat) (p1 : Int32) (h : HD) : Option Int32 :=
  (jX4_isFree o p1 h).bind fun q1 =>
  (if q1 = true then some (0 : Int32) else jX4_moveFrom_L12 o p1 h (jX4_moveFrom_L45 o p1 h FU (1 : Int32)) FU (1 : Int32))
def jX4_bring (o : Nat) (p1 : Int32) (h : HD) : Option HD :=
  (if (gI h (2, o, 0) 7) < (11 : Int32) then (jX4_moveFrom o p1 h).bind fun q1 =>
  (jX4_spotAt o (p1 + q1) h).bind fun q2 =>
  if inB (gI h (2, o, 0) 7) 11 = true then lt (sI h (2, o, 1) ((gI h (2, o, 0) 7).toNatClampNeg) p1) fun h3 =>
  if inB (gI h3 (2, o, 0) 7) 11 = true then lt (sI h3 (2, o, 3) ((gI h3 (2, o, 0) 7).toNatClampNeg) q1) fun h5 =>
  if inB (gI h5 (2, o, 0) 7) 11 = true then lt (sI h5 (2, o, 2) ((gI h5 (2, o, 0) 7).toNatClampNeg) (-1 : Int32)) fun h7 =>
  (jX4_isFree o q2 h7).bind fun q9 =>
  (if q9 = true then if inB (gI h7 (2, o, 0) 7) 11 = true then lt (sI h7 (2, o, 2) ((gI h7 (2, o, 0) 7).toNatClampNeg) q2) fun h11 =>
  if inB q2 12 = true then lt (sI h11 (2, o, 4) q2.toNatClampNeg (gI h11 (2, o, 0) 7)) fun h13 =>
  lt (sI h13 (2, o, 0) 7 ((gI h13 (2, o, 0) 7) + (1 : Int32))) fun h15 =>
  some h15 else none else none else lt (sI h7 (2, o, 0) 7 ((gI h7 (2, o, 0) 7) + (1 : Int32))) fun h10 =>
  some h10) else none else none else none else some h)
def jX4_findFree_L7 (o : Nat) : Nat → Int32 → HD → Option HD
  | 0, _, _ => none
  | n7 + 1, x1, h => (if (gI h (2, o, 0) 4) ≤ x1 then some h else (if (gI h (2, o, 0) 8) = (-1 : Int32) then (jX4_isFree o x1 h).bind fun q2 =>
  (if q2 = true then lt (sI h (2, o, 0) 8 x1) fun h3 =>
  jX4_findFree_L7 o n7 (x1 + 1) h3 else jX4_findFree_L7 o n7 (x1 + 1) h) else some h))
def jX4_findFree (o : Nat) (h : HD) : Option HD :=
  lt (sI h (2, o, 0) 8 (-1 : Int32)) fun h1 =>
  jX4_findFree_L7 o FU (0 : Int32) h1
def jX4_comeRound_L15 (o : Nat) (r1 : Nat) (p2 : Int32) (k35 : HD → Option HD) : Nat → Int32 → HD → Option HD
  | 0, _, _ => none
  | n15 + 1, x3, h => (if p2 ≤ x3 then k35 h else (jX2_preferenceOf r1 x3 h).bind fun q2 =>
  (jX4_bring o q2 h).bind fun q3 =>
  jX4_comeRound_L15 o r1 p2 k35 n15 (x3 + 1) q3)
def jX4_comeRound (o : Nat) (r1 : Nat) (p2 : Int32) (h : HD) : Option HD :=
  (jX4_open o (jX2_spots r1 h) (jX2_back r1 h) true h).bind fun q1 =>
  jX4_comeRound_L15 o r1 p2 (fun h4 => (jX4_findFree o h4).bind fun q5 =>
  some q5) FU (0 : Int32) q1
def jX4_freeSpot (o : Nat) (h : HD) : Int32 :=
  gI h (2, o, 0) 8
def jX4_hasCome (o : Nat) (p1 : Int32) (h : HD) : Bool :=
  (if p1 < 0 then false else (if (gI h (2, o, 0) 7) ≤ p1 then false else (if (11 : Int32) ≤ p1 then false else true)))
def jX4_isLucky (o : Nat) (p1 : Int32) (h : HD) : Option Bool :=
  (if (jX4_hasCome o p1 h) = true then if inB p1 11 = true then if inB p1 11 = true then (if (gI h (2, o, 2) p1.toNatClampNeg) = (gI h (2, o, 1) p1.toNatClampNeg) then some true else some false) else none else none else some false)
def jX4_luckyCars_L4 (o : Nat) (h : HD) : Nat → Int32 → Int32 → Option Int32
  | 0, _, _ => none
  | n4 + 1, x1, x2 => (if (gI h (2, o, 0) 7) ≤ x2 then some x1 else (jX4_isLucky o x2 h).bind fun q1 =>
  (if q1 = true then jX4_luckyCars_L4 o h n4 (x1 + 1) (x2 + 1) else jX4_luckyCars_L4 o h n4 x1 (x2 + 1)))
def jX4_luckyCars (o : Nat) (h : HD) : Option Int32 :=
  jX4_luckyCars_L4 o h FU (0 : Int32) (0 : Int32)
def jX4_movedOf (o : Nat) (p1 : Int32) (h : HD) : Option Int32 :=
  (if (jX4_hasCome o p1 h) = true then if inB p1 11 = true then some (gI h (2, o, 3) p1.toNatClampNeg) else none else some (0 : Int32))
def jX4_area_L4 (o : Nat) (h : HD) : Nat → Int32 → Int32 → Option Int32
  | 0, _, _ => none
  | n4 + 1, x1, x2 => (if (gI h (2, o, 0) 7) ≤ x2 then some x1 else (jX4_movedOf o x2 h).bind fun q1 =>
  jX4_area_L4 o h n4 (x1 + q1) (x2 + 1))
def jX4_area (o : Nat) (h : HD) : Option Int32 :=
  jX4_area_L4 o h FU (0 : Int32) (0 : Int32)
def jX4_wayOfAll_L4 (o : Nat) (h : HD) : Nat → Int32 → Int32 → Option Int32
  | 0, _, _ => none
  | n4 + 1, x1, x2 => (if (gI h (2, o, 0) 7) ≤ x2 then some x1 else (jX4_movedOf o x2 h).bind fun q1 =>
  jX4_wayOfAll_L4 o h n4 (x1 + (if 0 ≤ q1 then q1 else 0 - q1)) (x2 + 1))
def jX4_wayOfAll (o : Nat) (h : HD) : Option Int32 :=
  jX4_wayOfAll_L4 o h FU (0 : Int32) (0 : Int32)
def jX4_turnNumber (o : Nat) (h : HD) : Int32 :=
  ((gI h (2, o, 0) 4) - (1 : Int32)) - (gI h (2, o, 0) 8)
def jX4_turnedPreferenceOf (o : Nat) (p1 : Int32) (h : HD) : Option Int32 :=
  (if (jX4_hasCome o p1 h) = true then if inB p1 11 = true then (jX8_wrapped ((gI h (2, o, 1) p1.toNatClampNeg) + (jX4_turnNumber o h)) (gI h (2, o, 0) 4) h).bind fun q2 =>
  some q2 else none else some (-1 : Int32))
def jX4_isBreak_L4 (o : Nat) (p1 : Int32) (h : HD) (k30 : Int32 → Option Bool) : Nat → Int32 → Int32 → Option Bool
  | 0, _, _ => none
  | n4 + 1, x2, x3 => (if (gI h (2, o, 0) 7) ≤ x3 then k30 x2 else (jX4_turnedPreferenceOf o x3 h).bind fun q1 =>
  (if p1 ≤ q1 then jX4_isBreak_L4 o p1 h k30 n4 x2 (x3 + 1) else jX4_isBreak_L4 o p1 h k30 n4 (x2 + 1) (x3 + 1)))
def jX4_isBreak (o : Nat) (p1 : Int32) (h : HD) : Option Bool :=
  jX4_isBreak_L4 o p1 h (fun y4_2 => (if y4_2 = p1 then some true else some false)) FU (0 : Int32) (0 : Int32)
def jX4_breaks_L4 (o : Nat) (h : HD) : Nat → Int32 → Int32 → Option Int32
  | 0, _, _ => none
  | n4 + 1, x1, x2 => (if (gI h (2, o, 0) 7) < x2 then some x1 else (jX4_isBreak o x2 h).bind fun q1 =>
  (if q1 = true then jX4_breaks_L4 o h n4 (x1 + 1) (x2 + 1) else jX4_breaks_L4 o h n4 x1 (x2 + 1)))
def jX4_breaks (o : Nat) (h : HD) : Option Int32 :=
  jX4_breaks_L4 o h FU (0 : Int32) (1 : Int32)
def jX2_wishesFor_L4 (o : Nat) (p1 : Int32) (h : HD) : Nat → Int32 → Int32 → Option Int32
  | 0, _, _ => none
  | n4 + 1, x2, x3 => (if (gI h (1, o, 0) 2) ≤ x3 then some x2 else (jX2_preferenceOf o x3 h).bind fun q1 =>
  (if q1 = p1 then jX2_wishesFor_L4 o p1 h n4 (x2 + 1) (x3 + 1) else jX2_wishesFor_L4 o p1 h n4 x2 (x3 + 1)))
def jX2_wishesFor (o : Nat) (p1 : Int32) (h : HD) : Option Int32 :=
  jX2_wishesFor_L4 o p1 h FU (0 : Int32) (0 : Int32)
def jX2_preferredSpots_L4 (o : Nat) (h : HD) : Nat → Int32 → Int32 → Option Int32
  | 0, _, _ => none
  | n4 + 1, x1, x2 => (if (gI h (1, o, 0) 2) < x2 then some x1 else (jX2_wishesFor o x2 h).bind fun q1 =>
  (if q1 ≤ 0 then jX2_preferredSpots_L4 o h n4 x1 (x2 + 1) else jX2_preferredSpots_L4 o h n4 (x1 + 1) (x2 + 1)))
def jX2_preferredSpots (o : Nat) (h : HD) : Option Int32 :=
  jX2_preferredSpots_L4 o h FU (0 : Int32) (0 : Int32)
def jX8_settingOf (r1 : Nat) (p2 : Int32) (h : HD) : Option (Int32 × HD) :=
  (jX4_comeRound 0 r1 (jX2_count r1 h) h).bind fun q1 =>
  (if p2 = 0 then some ((jX2_count r1 q1), q1) else if p2 = 1 then some ((jX2_spots r1 q1), q1) else if p2 = 2 then some ((jX2_back r1 q1), q1) else if p2 = 3 then some ((jX4_freeSpot 0 q1), q1) else if p2 = 4 then (jX4_luckyCars 0 q1).bind fun q6 =>
  some (q6, q1) else if p2 = 5 then (jX4_area 0 q1).bind fun q8 =>
  some (q8, q1) else if p2 = 6 then (jX4_wayOfAll 0 q1).bind fun q10 =>
  some (q10, q1) else if p2 = 7 then some ((jX4_turnNumber 0 q1), q1) else if p2 = 8 then (jX4_breaks 0 q1).bind fun q13 =>
  some (q13, q1) else (jX2_preferredSpots r1 q1).bind fun q15 =>
  some (q15, q1))
def jX8_setting (p1 : Int32) (h : HD) : Option ((Nat ⊕ Int32) × HD) :=
  (jX8_needSetting p1 h).bind fun q1 =>
  sm q1 (fun e => some (.inl e, h)) fun v2 =>
  (jX8_settingOf 0 p1 h).bind fun q3 =>
  some (.inr q3.1, q3.2)
def jX8_needCar (p1 : Int32) (h : HD) : Option (Nat ⊕ Unit) :=
  (if (jX2_hasCar 0 p1 h) = true then some (.inr ()) else some (.inl 2))
def jX2_nameOf (o : Nat) (p1 : Int32) (h : HD) : Option Int64 :=
  (if (jX2_hasCar o p1 h) = true then if inB p1 11 = true then some (gJ h (1, o, 1) p1.toNatClampNeg) else none else some (0 : Int64))
def jX8_letterOf (p1 : Int64) (p2 : Int32) (h : HD) : Int32 :=
  (if p2 < 0 then (0 : Int32) else (if p2 < (8 : Int32) then ((p1 >>> (((5 : Int32) * ((7 : Int32) - p2)).toInt64 &&& 63)).toInt32) &&& (31 : Int32) else (0 : Int32)))
def jX8_letter (p1 : Int32) (p2 : Int32) (h : HD) : Option (Nat ⊕ Int32) :=
  (jX8_needCar p1 h).bind fun q1 =>
  sm q1 (fun e => some (.inl e)) fun v2 =>
  (jX2_nameOf 0 p1 h).bind fun q3 =>
  some (.inr (jX8_letterOf q3 p2 h))
def jX8_parked  (h : HD) : Option HD :=
  (jX4_comeRound 0 0 (jX2_count 0 h) h).bind fun q1 =>
  some q1
def jX4_spotOf (o : Nat) (p1 : Int32) (h : HD) : Option Int32 :=
  (if (jX4_hasCome o p1 h) = true then if inB p1 11 = true then some (gI h (2, o, 2) p1.toNatClampNeg) else none else some (-1 : Int32))
def jX4_takerOf (o : Nat) (p1 : Int32) (h : HD) : Option Int32 :=
  (if (jX4_isSpot o p1 h) = true then if inB p1 12 = true then some (gI h (2, o, 4) p1.toNatClampNeg) else none else some (-1 : Int32))
def jX4_isTakenBy (o : Nat) (p1 : Int32) (p2 : Int32) (h : HD) : Option Bool :=
  (jX4_takerOf o p1 h).bind fun q1 =>
  (if q1 = (-1 : Int32) then some false else (if p2 < q1 then some false else some true))
def jX4_runOf_L8 (o : Nat) (p1 : Int32) (x2 : Int32) (h : HD) : Nat → Int32 → Option Int32
  | 0, _ => none
  | n8 + 1, x3 => (if (gI h (2, o, 0) 4) ≤ x3 then some x3 else (jX8_wrapped (x2 - x3) (gI h (2, o, 0) 4) h).bind fun q2 =>
  (jX4_isTakenBy o q2 p1 h).bind fun q3 =>
  (if q3 = true then jX4_runOf_L8 o p1 x2 h n8 (x3 + 1) else some x3))
def jX4_runOf (o : Nat) (p1 : Int32) (h : HD) : Option Int32 :=
  (jX4_spotOf o p1 h).bind fun q1 =>
  jX4_runOf_L8 o p1 q1 h FU (0 : Int32)
def jX8_car (p1 : Int32) (p2 : Int32) (h : HD) : Option ((Nat ⊕ Int32) × HD) :=
  (jX8_needCar p1 h).bind fun q1 =>
  sm q1 (fun e => some (.inl e, h)) fun v2 =>
  (jX8_parked h).bind fun q3 =>
  (if p2 = 0 then (jX2_preferenceOf 0 p1 q3).bind fun q4 =>
  some (.inr q4, q3) else if p2 = 1 then (jX4_spotOf 0 p1 q3).bind fun q6 =>
  some (.inr q6, q3) else if p2 = 2 then (jX4_movedOf 0 p1 q3).bind fun q8 =>
  some (.inr q8, q3) else if p2 = 3 then (jX4_isLucky 0 p1 q3).bind fun q10 =>
  (if q10 = true then some (.inr (1 : Int32), q3) else some (.inr (0 : Int32), q3)) else if p2 = 4 then (jX4_runOf 0 p1 q3).bind fun q12 =>
  some (.inr q12, q3) else if p2 = 5 then (jX4_turnedPreferenceOf 0 p1 q3).bind fun q14 =>
  some (.inr q14, q3) else some (.inl 1, q3))
def jX2_hasSpot (o : Nat) (p1 : Int32) (h : HD) : Bool :=
  (if p1 < 0 then false else (if (gI h (1, o, 0) 2) < p1 then false else true))
def jX8_needSpot (p1 : Int32) (h : HD) : Option (Nat ⊕ Unit) :=
  (if (jX2_hasSpot 0 p1 h) = true then some (.inr ()) else some (.inl 2))
def jX8_who (p1 : Int32) (h : HD) : Option ((Nat ⊕ Int32) × HD) :=
  (jX8_needSpot p1 h).bind fun q1 =>
  sm q1 (fun e => some (.inl e, h)) fun v2 =>
  (jX8_parked h).bind fun q3 =>
  (jX4_takerOf 0 p1 q3).bind fun q4 =>
  some (.inr q4, q3)
def jX8_wanted (p1 : Int32) (h : HD) : Option (Nat ⊕ Int32) :=
  (jX8_needSpot p1 h).bind fun q1 =>
  sm q1 (fun e => some (.inl e)) fun v2 =>
  (jX2_wishesFor 0 p1 h).bind fun q3 =>
  some (.inr q3)
def jX2_rankOf_L22 (o : Nat) (p1 : Int32) (x2 : Int32) (h : HD) : Nat → Int32 → Int32 → Option Int32
  | 0, _, _ => none
  | n22 + 1, x3, x4 => (if (gI h (1, o, 0) 2) ≤ x4 then some x3 else (if (11 : Int32) ≤ x4 then some x3 else if inB x4 11 = true then (if (gI h (1, o, 2) x4.toNatClampNeg) < x2 then jX2_rankOf_L22 o p1 x2 h n22 (x3 + 1) (x4 + 1) else if inB x4 11 = true then (if (gI h (1, o, 2) x4.toNatClampNeg) = x2 then (if p1 ≤ x4 then jX2_rankOf_L22 o p1 x2 h n22 x3 (x4 + 1) else jX2_rankOf_L22 o p1 x2 h n22 (x3 + 1) (x4 + 1)) else jX2_rankOf_L22 o p1 x2 h n22 x3 (x4 + 1)) else none) else none))
def jX2_rankOf (o : Nat) (p1 : Int32) (h : HD) : Option Int32 :=
  (if (jX2_hasCar o p1 h) = true then if inB p1 11 = true then jX2_rankOf_L22 o p1 (gI h (1, o, 2) p1.toNatClampNeg) h FU (0 : Int32) (0 : Int32) else none else some (-1 : Int32))
def jX8_ranked_L2 (p1 : Int32) (h : HD) : Nat → Int32 → Option Int32
  | 0, _ => none
  | n2 + 1, x2 => (if (jX2_count 0 h) ≤ x2 then some (-1 : Int32) else (jX2_rankOf 0 x2 h).bind fun q1 =>
  (if q1 = p1 then some x2 else jX8_ranked_L2 p1 h n2 (x2 + 1)))
def jX8_ranked (p1 : Int32) (h : HD) : Option Int32 :=
  jX8_ranked_L2 p1 h FU (0 : Int32)
def jX4_comeInLine_L15 (o : Nat) (r1 : Nat) (k38 : HD → Option HD) : Nat → Int32 → HD → Option HD
  | 0, _, _ => none
  | n15 + 1, x2, h => (if (gI h (2, r1, 0) 7) ≤ x2 then k38 h else (jX4_turnedPreferenceOf r1 x2 h).bind fun q2 =>
  (jX4_bring o q2 h).bind fun q3 =>
  jX4_comeInLine_L15 o r1 k38 n15 (x2 + 1) q3)
def jX4_comeInLine (o : Nat) (r1 : Nat) (h : HD) : Option HD :=
  (jX4_open o (gI h (2, r1, 0) 7) (gI h (2, r1, 0) 5) false h).bind fun q1 =>
  jX4_comeInLine_L15 o r1 (fun h4 => (jX4_findFree o h4).bind fun q5 =>
  some q5) FU (0 : Int32) q1
def jX8_spotInLine (p1 : Int32) (h : HD) : Option Int32 :=
  (jX4_spotOf 1 p1 h).bind fun q1 =>
  (if q1 = (-1 : Int32) then some (-1 : Int32) else (jX8_wrapped (q1 - (jX4_turnNumber 0 h)) (jX2_spots 0 h) h).bind fun q2 =>
  some q2)
def jX8_spotByLine (p1 : Int32) (h : HD) : Option ((Nat ⊕ Int32) × HD) :=
  (jX8_needCar p1 h).bind fun q1 =>
  sm q1 (fun e => some (.inl e, h)) fun v2 =>
  (jX8_parked h).bind fun q3 =>
  (jX4_comeInLine 1 0 q3).bind fun q4 =>
  (jX8_spotInLine p1 q4).bind fun q5 =>
  some (.inr q5, q4)
def jX4_areaByPreferences_L16 (o : Nat) (h : HD) : Nat → Int32 → Int32 → Option Int32
  | 0, _, _ => none
  | n16 + 1, x1, x2 => (if (gI h (2, o, 0) 7) ≤ x2 then some x1 else (jX4_turnedPreferenceOf o x2 h).bind fun q1 =>
  jX4_areaByPreferences_L16 o h n16 (x1 - q1) (x2 + 1))
def jX4_areaByPreferences (o : Nat) (h : HD) : Option Int32 :=
  jX4_areaByPreferences_L16 o h FU (((gI h (2, o, 0) 7) * ((gI h (2, o, 0) 7) - (1 : Int32))) / (2 : Int32)) (0 : Int32)
def jX8_gap_L36 (h : HD) : Nat → Int32 → Int32 → Option (Int32 × HD)
  | 0, _, _ => none
  | n36 + 1, x1, x2 => (if (jX2_count 0 h) ≤ x2 then some (x1, h) else (jX8_spotInLine x2 h).bind fun q5 =>
  (jX4_spotOf 0 x2 h).bind fun q6 =>
  (if q5 = q6 then jX8_gap_L36 h n36 x1 (x2 + 1) else jX8_gap_L36 h n36 (x1 + 1) (x2 + 1)))
def jX8_gap  (h : HD) : Option (Int32 × HD) :=
  (jX8_parked h).bind fun q1 =>
  (jX4_comeInLine 1 0 q1).bind fun q2 =>
  (jX4_area 0 q2).bind fun q3 =>
  (jX4_areaByPreferences 0 q2).bind fun q4 =>
  (if q3 = q4 then jX8_gap_L36 q2 FU (0 : Int32) (0 : Int32) else jX8_gap_L36 q2 FU (1 : Int32) (0 : Int32))
def jX8_isParking  (h : HD) : Option (Bool × HD) :=
  (jX8_parked h).bind fun q1 =>
  (if (jX4_turnNumber 0 q1) = 0 then some (true, q1) else some (false, q1))
def jX8_breakAt_L10 (p1 : Int32) (h : HD) : Nat → Int32 → Int32 → Option (Int32 × HD)
  | 0, _, _ => none
  | n10 + 1, x3, x4 => (if (jX2_count 0 h) < x4 then some ((-1 : Int32), h) else (jX4_isBreak 0 x4 h).bind fun q2 =>
  (if q2 = true then (if x3 = p1 then some (x4, h) else jX8_breakAt_L10 p1 h n10 (x3 + 1) (x4 + 1)) else jX8_breakAt_L10 p1 h n10 x3 (x4 + 1)))
def jX8_breakAt (p1 : Int32) (h : HD) : Option (Int32 × HD) :=
  (jX8_parked h).bind fun q1 =>
  jX8_breakAt_L10 p1 q1 FU (0 : Int32) (1 : Int32)
def jX8_needPreference (p1 : Int32) (h : HD) : Option (Nat ⊕ Unit) :=
  (if (jX2_hasSpot 0 p1 h) = true then some (.inr ()) else some (.inl 1))
def jX8_isBack (p1 : Int32) (h : HD) : Bool :=
  (if p1 < 0 then false else (if (5 : Int32) < p1 then false else true))
def jX8_needBack (p1 : Int32) (h : HD) : Option (Nat ⊕ Unit) :=
  (if (jX8_isBack p1 h) = true then some (.inr ()) else some (.inl 1))
def jX8_parkedAfter (p1 : Int32) (h : HD) : Option ((Nat ⊕ Unit) × HD) :=
  (if p1 < 0 then some (.inl 1, h) else (if p1 ≤ (jX2_count 0 h) then (jX4_comeRound 0 0 p1 h).bind fun q1 =>
  some (.inr (), q1) else some (.inl 1, h)))
def jX8_whoAfter (p1 : Int32) (p2 : Int32) (h : HD) : Option ((Nat ⊕ Int32) × HD) :=
  (jX8_needSpot p2 h).bind fun q1 =>
  sm q1 (fun e => some (.inl e, h)) fun v2 =>
  (jX8_parkedAfter p1 h).bind fun q3 =>
  sm q3.1 (fun e => some (.inl e, q3.2)) fun v4 =>
  (jX4_takerOf 0 p2 q3.2).bind fun q5 =>
  some (.inr q5, q3.2)
def jX4_longestRow_L14 (o : Nat) (x1 : Int32) (x2 : Int32) (h : HD) (k46 : Int32 → Option Int32) : Nat → Int32 → Option Int32
  | 0, _ => none
  | n14 + 1, x3 => (if (gI h (2, o, 0) 4) ≤ x3 then k46 x3 else (jX8_wrapped (x2 + x3) (gI h (2, o, 0) 4) h).bind fun q1 =>
  (jX4_takerOf o q1 h).bind fun q2 =>
  (if q2 = (-1 : Int32) then k46 x3 else jX4_longestRow_L14 o x1 x2 h k46 n14 (x3 + 1)))
def jX4_longestRow_L4 (o : Nat) (h : HD) : Nat → Int32 → Int32 → Option Int32
  | 0, _, _ => none
  | n4 + 1, x1, x2 => (if (gI h (2, o, 0) 4) ≤ x2 then some x1 else jX4_longestRow_L14 o x1 x2 h (fun y14_3 => jX4_longestRow_L4 o h n4 (if x1 < y14_3 then y14_3 else x1) (x2 + 1)) FU (0 : Int32))
def jX4_longestRow (o : Nat) (h : HD) : Option Int32 :=
  jX4_longestRow_L4 o h FU (0 : Int32) (0 : Int32)
def jX8_longestAfter (p1 : Int32) (h : HD) : Option ((Nat ⊕ Int32) × HD) :=
  (jX8_parkedAfter p1 h).bind fun q1 =>
  sm q1.1 (fun e => some (.inl e, q1.2)) fun v2 =>
  (jX4_longestRow 0 q1.2).bind fun q3 =>
  some (.inr q3, q1.2)
def jX8_inWay (p1 : Int32) (h : HD) : Option ((Nat ⊕ Int32) × HD) :=
  (jX8_parkedAfter p1 h).bind fun q1 =>
  sm q1.1 (fun e => some (.inl e, q1.2)) fun v2 =>
  (if (jX2_hasCar 0 p1 q1.2) = true then (jX2_preferenceOf 0 p1 q1.2).bind fun q3 =>
  (jX4_takerOf 0 q3 q1.2).bind fun q4 =>
  some (.inr q4, q1.2) else some (.inr (-1 : Int32), q1.2))
def jX8_fibre_L10 (h : HD) : Nat → Int64 → Int32 → Option (Int64 × HD)
  | 0, _, _ => none
  | n10 + 1, x2, x4 => (if (jX2_count 0 h) ≤ x4 then some (x2, h) else (jX4_runOf 0 x4 h).bind fun q2 =>
  jX8_fibre_L10 h n10 (x2 * q2.toInt64) (x4 + 1))
def jX8_fibre  (h : HD) : Option (Int64 × HD) :=
  (jX8_parked h).bind fun q1 =>
  jX8_fibre_L10 q1 FU (1 : Int64) (0 : Int32)
def jX8_factorial_L4 (p1 : Int32) (h : HD) : Nat → Int64 → Int32 → Option Int64
  | 0, _, _ => none
  | n4 + 1, x1, x3 => (if p1 < x3 then some x1 else jX8_factorial_L4 p1 h n4 (x1 * x3.toInt64) (x3 + 1))
def jX8_factorial (p1 : Int32) (h : HD) : Option Int64 :=
  jX8_factorial_L4 p1 h FU (1 : Int64) (2 : Int32)
def jX8_arrangements_L13 (h : HD) : Nat → Int64 → Int32 → Option Int64
  | 0, _, _ => none
  | n13 + 1, x1, x3 => (if (jX2_spots 0 h) ≤ x3 then some x1 else (jX2_wishesFor 0 x3 h).bind fun q2 =>
  (jX8_factorial q2 h).bind fun q3 =>
  (if (lg_cmp q3 (1 : Int64)) ≤ 0 then jX8_arrangements_L13 h n13 x1 (x3 + 1) else if q3 = 0 then none else jX8_arrangements_L13 h n13 (x1 / q3) (x3 + 1)))
def jX8_arrangements  (h : HD) : Option Int64 :=
  (jX8_factorial (jX2_count 0 h) h).bind fun q1 =>
  jX8_arrangements_L13 h FU q1 (0 : Int32)
def jX8_all_L4 (h : HD) : Nat → Int64 → Int32 → Option Int64
  | 0, _, _ => none
  | n4 + 1, x1, x3 => (if (jX2_count 0 h) ≤ x3 then some x1 else jX8_all_L4 h n4 (x1 * ((jX2_spots 0 h).toInt64)) (x3 + 1))
def jX8_all  (h : HD) : Option Int64 :=
  jX8_all_L4 h FU (1 : Int64) (1 : Int32)
def jX4_turnedSpotOf (o : Nat) (p1 : Int32) (h : HD) : Option Int32 :=
  (jX4_spotOf o p1 h).bind fun q1 =>
  (jX8_wrapped (q1 + (jX4_turnNumber o h)) (gI h (2, o, 0) 4) h).bind fun q2 =>
  some q2
def jX8_inversions_L23 (x3 : Int32) (h : HD) (k52 : Int32 → Option (Int32 × HD)) : Nat → Int32 → Int32 → Option (Int32 × HD)
  | 0, _, _ => none
  | n23 + 1, x2, x4 => (if x3 ≤ x4 then k52 x2 else (jX4_turnedSpotOf 0 x4 h).bind fun q2 =>
  (jX4_turnedSpotOf 0 x3 h).bind fun q3 =>
  (if q2 ≤ q3 then jX8_inversions_L23 x3 h k52 n23 x2 (x4 + 1) else jX8_inversions_L23 x3 h k52 n23 (x2 + 1) (x4 + 1)))
def jX8_inversions_L9 (h : HD) : Nat → Int32 → Int32 → Option (Int32 × HD)
  | 0, _, _ => none
  | n9 + 1, x2, x3 => (if (jX2_count 0 h) ≤ x3 then some (x2, h) else jX8_inversions_L23 x3 h (fun y23_2 => jX8_inversions_L9 h n9 y23_2 (x3 + 1)) FU x2 (0 : Int32))
def jX8_inversions  (h : HD) : Option (Int32 × HD) :=
  (jX8_parked h).bind fun q1 =>
  jX8_inversions_L9 q1 FU (0 : Int32) (1 : Int32)
def jX8_descents_L4 (h : HD) : Nat → Int32 → Int32 → Option Int32
  | 0, _, _ => none
  | n4 + 1, x1, x2 => (if (jX2_count 0 h) ≤ x2 then some x1 else (jX2_preferenceOf 0 x2 h).bind fun q1 =>
  (jX2_preferenceOf 0 (x2 - (1 : Int32)) h).bind fun q2 =>
  (if q2 ≤ q1 then jX8_descents_L4 h n4 x1 (x2 + 1) else jX8_descents_L4 h n4 (x1 + 1) (x2 + 1)))
def jX8_descents  (h : HD) : Option Int32 :=
  jX8_descents_L4 h FU (0 : Int32) (1 : Int32)
def jX7_isNode (p1 : Int32) (h : HD) : Bool :=
  (if p1 < 0 then false else (if (gI h (5, 0, 0) 6) ≤ p1 then false else (if (12 : Int32) ≤ p1 then false else true)))
def jX7_leastOfWeightOne_L2 (p1 : Int32) (h : HD) : Nat → Int32 → Option Int32
  | 0, _ => none
  | n2 + 1, x2 => (if (gI h (5, 0, 0) 6) ≤ x2 then some (-1 : Int32) else (if (12 : Int32) ≤ x2 then some (-1 : Int32) else if inB x2 12 = true then (if (gI h (5, 0, 5) x2.toNatClampNeg) = (1 : Int32) then (if x2 = p1 then jX7_leastOfWeightOne_L2 p1 h n2 (x2 + 1) else some x2) else jX7_leastOfWeightOne_L2 p1 h n2 (x2 + 1)) else none))
def jX7_leastOfWeightOne (p1 : Int32) (h : HD) : Option Int32 :=
  jX7_leastOfWeightOne_L2 p1 h FU (0 : Int32)
def jX7_numberAt (p1 : Int32) (h : HD) : Option Int32 :=
  (if p1 < 0 then some (-1 : Int32) else (if (gI h (5, 0, 0) 7) ≤ p1 then some (-1 : Int32) else (if (11 : Int32) ≤ p1 then some (-1 : Int32) else if inB p1 11 = true then some (gI h (5, 0, 1) p1.toNatClampNeg) else none)))
def jX7_join (p1 : Int32) (p2 : Int32) (h : HD) : Option HD :=
  (if (jX7_isNode p1 h) = true then (if (jX7_isNode p2 h) = true then (if (11 : Int32) ≤ (gI h (5, 0, 0) 8) then some h else if inB (gI h (5, 0, 0) 8) 11 = true then lt (sI h (5, 0, 2) ((gI h (5, 0, 0) 8).toNatClampNeg) p1) fun h1 =>
  if inB (gI h1 (5, 0, 0) 8) 11 = true then lt (sI h1 (5, 0, 3) ((gI h1 (5, 0, 0) 8).toNatClampNeg) p2) fun h3 =>
  lt (sI h3 (5, 0, 0) 8 ((gI h3 (5, 0, 0) 8) + (1 : Int32))) fun h5 =>
  if inB p1 12 = true then lt (sI h5 (5, 0, 5) p1.toNatClampNeg (0 : Int32)) fun h6 =>
  if inB p2 12 = true then if inB p2 12 = true then lt (sI h6 (5, 0, 5) p2.toNatClampNeg ((gI h6 (5, 0, 5) p2.toNatClampNeg) - (1 : Int32))) fun h9 =>
  some h9 else none else none else none else none else none) else some h) else some h)
def jX7_grow_L45 (r1 : Nat) (k111 : HD → Option HD) : Nat → Int32 → HD → Option HD
  | 0, _, _ => none
  | n45 + 1, x2, h => (if (gI h (5, 0, 0) 7) ≤ x2 then k111 h else (if (11 : Int32) ≤ x2 then k111 h else (jX2_preferenceOf r1 (x2 + (1 : Int32)) h).bind fun q5 =>
  (jX2_preferenceOf r1 x2 h).bind fun q6 =>
  (jX8_wrapped (q5 - q6) (gI h (5, 0, 0) 6) h).bind fun q7 =>
  if inB x2 11 = true then lt (sI h (5, 0, 1) x2.toNatClampNeg q7) fun h8 =>
  (if (jX7_isNode q7 h8) = true then if inB q7 12 = true then if inB q7 12 = true then lt (sI h8 (5, 0, 5) q7.toNatClampNeg ((gI h8 (5, 0, 5) q7.toNatClampNeg) + (1 : Int32))) fun h11 =>
  jX7_grow_L45 r1 k111 n45 (x2 + 1) h11 else none else none else jX7_grow_L45 r1 k111 n45 (x2 + 1) h8) else none))
def jX7_grow_L113 (r1 : Nat) (k141 : HD → Option HD) : Nat → Int32 → HD → Option HD
  | 0, _, _ => none
  | n113 + 1, x2, h => (if (gI h (5, 0, 0) 7) ≤ x2 then k141 h else (jX7_leastOfWeightOne (-1 : Int32) h).bind fun q14 =>
  (jX7_numberAt x2 h).bind fun q15 =>
  (jX7_join q14 q15 h).bind fun q16 =>
  jX7_grow_L113 r1 k141 n113 (x2 + 1) q16)
def jX7_grow (r1 : Nat) (h : HD) : Option HD :=
  lt (sI h (5, 0, 0) 6 (jX2_spots r1 h)) fun h1 =>
  (if (jX2_count r1 h1) ≤ (1 : Int32) then lt (sI h1 (5, 0, 0) 7 (0 : Int32)) fun h2 =>
  lt (sI h2 (5, 0, 0) 8 (0 : Int32)) fun h3 =>
  (jJ7_fill_53178 (5, 0, 5) (1 : Int32) h3).bind fun q4 =>
  jX7_grow_L45 r1 (fun h13 => jX7_grow_L113 r1 (fun h17 => (jX7_leastOfWeightOne (-1 : Int32) h17).bind fun q18 =>
  (jX7_leastOfWeightOne q18 h17).bind fun q19 =>
  (jX7_join q18 q19 h17).bind fun q20 =>
  some q20) FU (0 : Int32) h13) FU (0 : Int32) q4 else lt (sI h1 (5, 0, 0) 7 ((jX2_count r1 h1) - (1 : Int32))) fun h21 =>
  lt (sI h21 (5, 0, 0) 8 (0 : Int32)) fun h22 =>
  (jJ7_fill_53178 (5, 0, 5) (1 : Int32) h22).bind fun q23 =>
  jX7_grow_L45 r1 (fun h32 => jX7_grow_L113 r1 (fun h36 => (jX7_leastOfWeightOne (-1 : Int32) h36).bind fun q37 =>
  (jX7_leastOfWeightOne q37 h36).bind fun q38 =>
  (jX7_join q37 q38 h36).bind fun q39 =>
  some q39) FU (0 : Int32) h32) FU (0 : Int32) q23)
def jX8_grown  (h : HD) : Option HD :=
  (jX7_grow 0 h).bind fun q1 =>
  some q1
def jX8_code (p1 : Int32) (h : HD) : Option (Int32 × HD) :=
  (jX8_grown h).bind fun q1 =>
  (jX7_numberAt p1 q1).bind fun q2 =>
  some (q2, q1)
def jX7_isEdge (p1 : Int32) (h : HD) : Bool :=
  (if p1 < 0 then false else (if (gI h (5, 0, 0) 8) ≤ p1 then false else (if (11 : Int32) ≤ p1 then false else true)))
def jX7_edgeAt (p1 : Int32) (h : HD) : Option Int32 :=
  (if (jX7_isEdge p1 h) = true then if inB p1 11 = true then if inB p1 11 = true then if inB p1 11 = true then if inB p1 11 = true then some (((100 : Int32) * (if (gI h (5, 0, 3) p1.toNatClampNeg) < (gI h (5, 0, 2) p1.toNatClampNeg) then gI h (5, 0, 3) p1.toNatClampNeg else gI h (5, 0, 2) p1.toNatClampNeg)) + (if (gI h (5, 0, 2) p1.toNatClampNeg) < (gI h (5, 0, 3) p1.toNatClampNeg) then gI h (5, 0, 3) p1.toNatClampNeg else gI h (5, 0, 2) p1.toNatClampNeg)) else none else none else none else none else some (-1 : Int32))
def jX8_edge (p1 : Int32) (h : HD) : Option (Int32 × HD) :=
  (jX8_grown h).bind fun q1 =>
  (jX7_edgeAt p1 q1).bind fun q2 =>
  some (q2, q1)
def jX8_needNode (p1 : Int32) (h : HD) : Option (Nat ⊕ Unit) :=
  (if (jX2_hasSpot 0 p1 h) = true then some (.inr ()) else some (.inl 2))
def jX7_isAtEdge (p1 : Int32) (p2 : Int32) (h : HD) : Option Bool :=
  (if (jX7_isEdge p2 h) = true then if inB p2 11 = true then (if (gI h (5, 0, 2) p2.toNatClampNeg) = p1 then some true else if inB p2 11 = true then (if (gI h (5, 0, 3) p2.toNatClampNeg) = p1 then some true else some false) else none) else none else some false)
def jX7_edgesAt_L4 (p1 : Int32) (h : HD) : Nat → Int32 → Int32 → Option Int32
  | 0, _, _ => none
  | n4 + 1, x2, x3 => (if (gI h (5, 0, 0) 8) ≤ x3 then some x2 else (jX7_isAtEdge p1 x3 h).bind fun q1 =>
  (if q1 = true then jX7_edgesAt_L4 p1 h n4 (x2 + 1) (x3 + 1) else jX7_edgesAt_L4 p1 h n4 x2 (x3 + 1)))
def jX7_edgesAt (p1 : Int32) (h : HD) : Option Int32 :=
  jX7_edgesAt_L4 p1 h FU (0 : Int32) (0 : Int32)
def jX8_degree (p1 : Int32) (h : HD) : Option ((Nat ⊕ Int32) × HD) :=
  (jX8_needNode p1 h).bind fun q1 =>
  sm q1 (fun e => some (.inl e, h)) fun v2 =>
  (jX8_grown h).bind fun q3 =>
  (jX7_edgesAt p1 q3).bind fun q4 =>
  some (.inr q4, q3)
def jX7_measureFrom_L19 (p1 : Int32) (p2 : Int32) : Nat → Int32 → HD → Option HD
  | 0, _, _ => none
  | n19 + 1, x3, h => (if (gI h (5, 0, 0) 6) ≤ x3 then some h else (if (12 : Int32) ≤ x3 then some h else if inB p2 12 = true then if inB x3 12 = true then (if x3 = p1 then jX7_measureFrom_L19 p1 p2 n19 (x3 + 1) h else (if (gI h (5, p2.toNatClampNeg, 7) x3.toNatClampNeg) = (-1 : Int32) then jX7_measureFrom_L19 p1 p2 n19 (x3 + 1) h else if inB p1 12 = true then if inB x3 12 = true then lt (sI h (5, p1.toNatClampNeg, 7) x3.toNatClampNeg ((gI h (5, p2.toNatClampNeg, 7) x3.toNatClampNeg) + (1 : Int32))) fun h4 =>
  if inB x3 12 = true then if inB p1 12 = true then lt (sI h4 (5, x3.toNatClampNeg, 7) p1.toNatClampNeg ((gI h (5, p2.toNatClampNeg, 7) x3.toNatClampNeg) + (1 : Int32))) fun h7 =>
  jX7_measureFrom_L19 p1 p2 n19 (x3 + 1) h7 else none else none else none else none)) else none else none))
def jX7_measureFrom (p1 : Int32) (p2 : Int32) (h : HD) : Option HD :=
  (if (jX7_isNode p1 h) = true then (if (jX7_isNode p2 h) = true then jX7_measureFrom_L19 p1 p2 FU (0 : Int32) h else some h) else some h)
def jX7_measure_L2 (k41 : HD → Option HD) : Nat → Int32 → HD → Option HD
  | 0, _, _ => none
  | n2 + 1, x1, h => (if (gI h (5, 0, 0) 6) ≤ x1 then k41 h else (if (12 : Int32) ≤ x1 then k41 h else if inB x1 12 = true then (jJ7_fill_53178 (5, x1.toNatClampNeg, 7) (-1 : Int32) h).bind fun q2 =>
  if inB x1 12 = true then if inB x1 12 = true then lt (sI q2 (5, x1.toNatClampNeg, 7) x1.toNatClampNeg (0 : Int32)) fun h4 =>
  jX7_measure_L2 k41 n2 (x1 + 1) h4 else none else none else none))
def jX7_measure_L48  : Nat → Int32 → HD → Option HD
  | 0, _, _ => none
  | n48 + 1, x1, h => (if x1 < 0 then some h else (if (jX7_isEdge x1 h) = true then if inB x1 11 = true then if inB x1 11 = true then (jX7_measureFrom (gI h (5, 0, 2) x1.toNatClampNeg) (gI h (5, 0, 3) x1.toNatClampNeg) h).bind fun q9 =>
  jX7_measure_L48 n48 (x1 + (-1)) q9 else none else none else jX7_measure_L48 n48 (x1 + (-1)) h))
def jX7_measure  (h : HD) : Option HD :=
  jX7_measure_L2 (fun h6 => jX7_measure_L48  FU ((gI h6 (5, 0, 0) 8) - (1 : Int32)) h6) FU (0 : Int32) h
def jX8_measured  (h : HD) : Option HD :=
  (jX7_grow 0 h).bind fun q1 =>
  (jX7_measure q1).bind fun q2 =>
  some q2
def jX7_distance (p1 : Int32) (p2 : Int32) (h : HD) : Option Int32 :=
  (if (jX7_isNode p1 h) = true then (if (jX7_isNode p2 h) = true then if inB p1 12 = true then if inB p2 12 = true then some (gI h (5, p1.toNatClampNeg, 7) p2.toNatClampNeg) else none else none else some (-1 : Int32)) else some (-1 : Int32))
def jX8_far (p1 : Int32) (p2 : Int32) (h : HD) : Option ((Nat ⊕ Int32) × HD) :=
  (jX8_needNode p1 h).bind fun q1 =>
  sm q1 (fun e => some (.inl e, h)) fun v2 =>
  (jX8_needNode p2 h).bind fun q3 =>
  sm q3 (fun e => some (.inl e, h)) fun v4 =>
  (jX8_measured h).bind fun q5 =>
  (jX7_distance p1 p2 q5).bind fun q6 =>
  some (.inr q6, q5)
def jX7_greatestDistance_L14 (x2 : Int32) (h : HD) (k36 : Int32 → Option Int32) : Nat → Int32 → Int32 → Option Int32
  | 0, _, _ => none
  | n14 + 1, x1, x3 => (if x2 ≤ x3 then k36 x1 else (jX7_distance x2 x3 h).bind fun q1 =>
  jX7_greatestDistance_L14 x2 h k36 n14 (if x1 < q1 then q1 else x1) (x3 + 1))
def jX7_greatestDistance_L4 (h : HD) : Nat → Int32 → Int32 → Option Int32
  | 0, _, _ => none
  | n4 + 1, x1, x2 => (if (gI h (5, 0, 0) 6) ≤ x2 then some x1 else jX7_greatestDistance_L14 x2 h (fun y14_1 => jX7_greatestDistance_L4 h n4 y14_1 (x2 + 1)) FU x1 (0 : Int32))
def jX7_greatestDistance  (h : HD) : Option Int32 :=
  jX7_greatestDistance_L4 h FU (0 : Int32) (0 : Int32)
def jX8_wide  (h : HD) : Option (Int32 × HD) :=
  (jX8_measured h).bind fun q1 =>
  (jX7_greatestDistance q1).bind fun q2 =>
  some (q2, q1)
def jX7_nodesWithOneEdge_L4 (h : HD) : Nat → Int32 → Int32 → Option Int32
  | 0, _, _ => none
  | n4 + 1, x1, x2 => (if (gI h (5, 0, 0) 6) ≤ x2 then some x1 else (jX7_edgesAt x2 h).bind fun q1 =>
  (if q1 = (1 : Int32) then jX7_nodesWithOneEdge_L4 h n4 (x1 + 1) (x2 + 1) else jX7_nodesWithOneEdge_L4 h n4 x1 (x2 + 1)))
def jX7_nodesWithOneEdge  (h : HD) : Option Int32 :=
  jX7_nodesWithOneEdge_L4 h FU (0 : Int32) (0 : Int32)
def jX8_leaves  (h : HD) : Option (Int32 × HD) :=
  (jX8_grown h).bind fun q1 =>
  (jX7_nodesWithOneEdge q1).bind fun q2 =>
  some (q2, q1)
def jX7_lighten (p1 : Int32) (h : HD) : Option HD :=
  (if (jX7_isNode p1 h) = true then if inB p1 12 = true then if inB p1 12 = true then lt (sI h (5, 0, 5) p1.toNatClampNeg ((gI h (5, 0, 5) p1.toNatClampNeg) - (1 : Int32))) fun h2 =>
  some h2 else none else none else some h)
def jX7_cutOff_L2 (p1 : Int32) (h : HD) (k28 : Int32 → Option (Int32 × HD)) : Nat → Int32 → Option (Int32 × HD)
  | 0, _ => none
  | n2 + 1, x2 => (if (gI h (5, 0, 0) 8) ≤ x2 then some ((-1 : Int32), h) else (jX7_isAtEdge p1 x2 h).bind fun q1 =>
  (if q1 = true then if inB x2 11 = true then (if (gI h (5, 0, 4) x2.toNatClampNeg) = 0 then k28 x2 else jX7_cutOff_L2 p1 h k28 n2 (x2 + 1)) else none else jX7_cutOff_L2 p1 h k28 n2 (x2 + 1)))
def jX7_cutOff (p1 : Int32) (h : HD) : Option (Int32 × HD) :=
  jX7_cutOff_L2 p1 h (fun y2_2 => if inB y2_2 11 = true then lt (sI h (5, 0, 4) y2_2.toNatClampNeg (vp_nar .boolean (1 : Int32))) fun h3 =>
  if inB y2_2 11 = true then (jX7_lighten (gI h3 (5, 0, 2) y2_2.toNatClampNeg) h3).bind fun q6 =>
  if inB y2_2 11 = true then (jX7_lighten (gI q6 (5, 0, 3) y2_2.toNatClampNeg) q6).bind fun q8 =>
  if inB y2_2 11 = true then (if (gI q8 (5, 0, 2) y2_2.toNatClampNeg) = p1 then if inB y2_2 11 = true then some (gI q8 (5, 0, 3) y2_2.toNatClampNeg, q8) else none else if inB y2_2 11 = true then some (gI q8 (5, 0, 2) y2_2.toNatClampNeg, q8) else none) else none else none else none else none) FU (0 : Int32)
def jX7_differencesOfCodes_L2 (k29 : HD → Option (Int32 × HD)) : Nat → Int32 → HD → Option (Int32 × HD)
  | 0, _, _ => none
  | n2 + 1, x1, h => (if (gI h (5, 0, 0) 8) ≤ x1 then k29 h else (if (11 : Int32) ≤ x1 then k29 h else if inB x1 11 = true then lt (sI h (5, 0, 4) x1.toNatClampNeg (vp_nar .boolean (0 : Int32))) fun h1 =>
  jX7_differencesOfCodes_L2 k29 n2 (x1 + 1) h1 else none))
def jX7_differencesOfCodes_L31 (k62 : HD → Option (Int32 × HD)) : Nat → Int32 → HD → Option (Int32 × HD)
  | 0, _, _ => none
  | n31 + 1, x1, h => (if (gI h (5, 0, 0) 6) ≤ x1 then k62 h else (if (12 : Int32) ≤ x1 then k62 h else (jX7_edgesAt x1 h).bind fun q4 =>
  if inB x1 12 = true then lt (sI h (5, 0, 5) x1.toNatClampNeg q4) fun h5 =>
  jX7_differencesOfCodes_L31 k62 n31 (x1 + 1) h5 else none))
def jX7_differencesOfCodes_L66  : Nat → Int32 → Int32 → HD → Option (Int32 × HD)
  | 0, _, _, _ => none
  | n66 + 1, x1, x2, h => (if (gI h (5, 0, 0) 7) ≤ x2 then some (x1, h) else (jX7_leastOfWeightOne (-1 : Int32) h).bind fun q8 =>
  (jX7_cutOff q8 h).bind fun q9 =>
  (jX7_numberAt x2 q9.2).bind fun q10 =>
  (if q9.1 = q10 then jX7_differencesOfCodes_L66 n66 x1 (x2 + 1) q9.2 else jX7_differencesOfCodes_L66 n66 (x1 + 1) (x2 + 1) q9.2))
def jX7_differencesOfCodes  (h : HD) : Option (Int32 × HD) :=
  jX7_differencesOfCodes_L2 (fun h3 => jX7_differencesOfCodes_L31 (fun h7 => jX7_differencesOfCodes_L66  FU (0 : Int32) (0 : Int32) h7) FU (0 : Int32) h3) FU (0 : Int32) h
def jX8_codeGap  (h : HD) : Option (Int32 × HD) :=
  (jX8_grown h).bind fun q1 =>
  (jX7_differencesOfCodes q1).bind fun q2 =>
  some (q2.1, q2.2)
def jX8_meanWay  (h : HD) : Option (UInt64 × HD) :=
  (if (jX2_count 0 h) = 0 then some (FP.dconst0, h) else (jX8_parked h).bind fun q1 =>
  (jX4_wayOfAll 0 q1).bind fun q2 =>
  if nn64 (FP.ddiv (FP.i2d q2) (FP.i2d (jX2_count 0 h))) = true then some (FP.ddiv (FP.i2d q2) (FP.i2d (jX2_count 0 h)), q1) else none)
def jX8_luckyShare  (h : HD) : Option (UInt32 × HD) :=
  (if (jX2_count 0 h) = 0 then some (FP.fconst0, h) else (jX8_parked h).bind fun q1 =>
  (jX4_luckyCars 0 q1).bind fun q2 =>
  if nn32 (FP.fdiv (FP.i2f q2) (FP.i2f (jX2_count 0 h))) = true then some (FP.fdiv (FP.i2f q2) (FP.i2f (jX2_count 0 h)), q1) else none)
def jX2_copyFrom (o : Nat) (r1 : Nat) (h : HD) : Option HD :=
  lt (cpJ h (1, r1, 1) (1, o, 1) 0 0 11) fun h1 =>
  lt (cpI h1 (1, r1, 2) (1, o, 2) 0 0 11) fun h2 =>
  lt (sI h2 (1, o, 0) 2 (gI h2 (1, r1, 0) 2)) fun h3 =>
  lt (sI h3 (1, o, 0) 3 (gI h3 (1, r1, 0) 3)) fun h4 =>
  some h4
def jX2_changePreference (o : Nat) (p1 : Int32) (p2 : Int32) (h : HD) : Option HD :=
  (if (jX2_hasCar o p1 h) = true then if inB p1 11 = true then lt (sI h (1, o, 2) p1.toNatClampNeg p2) fun h1 =>
  some h1 else none else some h)
def jX8_parkedIf (p1 : Int32) (p2 : Int32) (h : HD) : Option HD :=
  (jX2_copyFrom 1 0 h).bind fun q1 =>
  (jX2_changePreference 1 p1 p2 q1).bind fun q2 =>
  (jX4_comeRound 0 1 (jX2_count 1 q2) q2).bind fun q3 =>
  some q3
def jX8_spotIf (p1 : Int32) (p2 : Int32) (h : HD) : Option ((Nat ⊕ Int32) × HD) :=
  (jX8_needCar p1 h).bind fun q1 =>
  sm q1 (fun e => some (.inl e, h)) fun v2 =>
  (jX8_needPreference p2 h).bind fun q3 =>
  sm q3 (fun e => some (.inl e, h)) fun v4 =>
  (jX8_parkedIf p1 p2 h).bind fun q5 =>
  (jX4_spotOf 0 p1 q5).bind fun q6 =>
  some (.inr q6, q5)
def jX8_settingIf (p1 : Int32) (p2 : Int32) (p3 : Int32) (h : HD) : Option ((Nat ⊕ Int32) × HD) :=
  (jX8_needCar p1 h).bind fun q1 =>
  sm q1 (fun e => some (.inl e, h)) fun v2 =>
  (jX8_needPreference p2 h).bind fun q3 =>
  sm q3 (fun e => some (.inl e, h)) fun v4 =>
  (jX8_needSetting p3 h).bind fun q5 =>
  sm q5 (fun e => some (.inl e, h)) fun v6 =>
  (jX2_copyFrom 1 0 h).bind fun q7 =>
  (jX2_changePreference 1 p1 p2 q7).bind fun q8 =>
  (jX8_settingOf 1 p3 q8).bind fun q9 =>
  some (.inr q9.1, q9.2)
def jX8_bestFor_L12 (p1 : Int32) : Nat → Int32 → Int32 → Int32 → HD → Option ((Nat ⊕ Int32) × HD)
  | 0, _, _, _, _ => none
  | n12 + 1, x2, x3, x4, h => (if (jX2_spots 0 h) ≤ x4 then some (.inr x2, h) else (jX8_parkedIf p1 x4 h).bind fun q3 =>
  (jX4_luckyCars 0 q3).bind fun q4 =>
  (if q4 ≤ x3 then jX8_bestFor_L12 p1 n12 x2 x3 (x4 + 1) q3 else jX8_bestFor_L12 p1 n12 x4 q4 (x4 + 1) q3))
def jX8_bestFor (p1 : Int32) (h : HD) : Option ((Nat ⊕ Int32) × HD) :=
  (jX8_needCar p1 h).bind fun q1 =>
  sm q1 (fun e => some (.inl e, h)) fun v2 =>
  jX8_bestFor_L12 p1 FU (-1 : Int32) (-1 : Int32) (0 : Int32) h
def jX2_exchange (o : Nat) (p1 : Int32) (p2 : Int32) (h : HD) : Option HD :=
  (if (jX2_hasCar o p1 h) = true then (if (jX2_hasCar o p2 h) = true then if inB p1 11 = true then if inB p1 11 = true then if inB p2 11 = true then if inB p1 11 = true then lt (sJ h (1, o, 1) p1.toNatClampNeg (gJ h (1, o, 1) p2.toNatClampNeg)) fun h4 =>
  if inB p2 11 = true then if inB p1 11 = true then lt (sI h4 (1, o, 2) p1.toNatClampNeg (gI h4 (1, o, 2) p2.toNatClampNeg)) fun h7 =>
  if inB p2 11 = true then lt (sJ h7 (1, o, 1) p2.toNatClampNeg (gJ h (1, o, 1) p1.toNatClampNeg)) fun h9 =>
  if inB p2 11 = true then lt (sI h9 (1, o, 2) p2.toNatClampNeg (gI h (1, o, 2) p1.toNatClampNeg)) fun h11 =>
  some h11 else none else none else none else none else none else none else none else none else some h) else some h)
def jX8_latest_L18 (p1 : Int32) (k48 : HD → Option ((Nat ⊕ Int32) × HD)) : Nat → Int32 → HD → Option ((Nat ⊕ Int32) × HD)
  | 0, _, _ => none
  | n18 + 1, x2, h => (if (jX2_count 0 h) ≤ (x2 + (1 : Int32)) then k48 h else (jX2_exchange 1 x2 (x2 + (1 : Int32)) h).bind fun q4 =>
  jX8_latest_L18 p1 k48 n18 (x2 + 1) q4)
def jX8_latest (p1 : Int32) (h : HD) : Option ((Nat ⊕ Int32) × HD) :=
  (jX8_needCar p1 h).bind fun q1 =>
  sm q1 (fun e => some (.inl e, h)) fun v2 =>
  (jX2_copyFrom 1 0 h).bind fun q3 =>
  jX8_latest_L18 p1 (fun h5 => (jX4_comeRound 0 1 (jX2_count 1 h5) h5).bind fun q6 =>
  (jX2_preferenceOf 0 p1 q6).bind fun q7 =>
  (jX4_takerOf 0 q7 q6).bind fun q8 =>
  some (.inr q8, q6)) FU p1 q3
def jX8_wayWith (p1 : Int32) (h : HD) : Option (Int32 × HD) :=
  (jX2_copyFrom 1 0 h).bind fun q1 =>
  (jX2_changeBack 1 p1 q1).bind fun q2 =>
  (jX4_comeRound 0 1 (jX2_count 1 q2) q2).bind fun q3 =>
  (jX4_wayOfAll 0 q3).bind fun q4 =>
  some (q4, q3)
def jX8_wayBy (p1 : Int32) (h : HD) : Option ((Nat ⊕ Int32) × HD) :=
  (jX8_needBack p1 h).bind fun q1 =>
  sm q1 (fun e => some (.inl e, h)) fun v2 =>
  (jX8_wayWith p1 h).bind fun q3 =>
  some (.inr q3.1, q3.2)
def jX8_bestBack_L10  : Nat → Int32 → Int32 → Int32 → HD → Option (Int32 × HD)
  | 0, _, _, _, _ => none
  | n10 + 1, x1, x2, x3, h => (if (5 : Int32) < x3 then some (x1, h) else (jX8_wayWith x3 h).bind fun q2 =>
  (if x2 ≤ q2.1 then jX8_bestBack_L10 n10 x1 x2 (x3 + 1) q2.2 else jX8_bestBack_L10 n10 x3 q2.1 (x3 + 1) q2.2))
def jX8_bestBack  (h : HD) : Option (Int32 × HD) :=
  (jX8_wayWith (0 : Int32) h).bind fun q1 =>
  jX8_bestBack_L10  FU (0 : Int32) q1.1 (1 : Int32) q1.2
def jX8_note  (h : HD) : Option HD :=
  (jX2_copyFrom 3 0 h).bind fun q1 =>
  some q1
def jX8_doPrefer (p1 : Int32) (p2 : Int32) (h : HD) : Option (Bool × HD) :=
  lt (sI h (6, 0, 2) 0 ((gI h (6, 0, 2) 0) + (1 : Int32))) fun h1 =>
  (jX2_changePreference 0 p1 p2 h1).bind fun q2 =>
  some (true, q2)
def jX8_keepNoted_L18 (y1 : Nat) (k44 : HD → Option HD) : Nat → Int32 → HD → Option HD
  | 0, _, _ => none
  | n18 + 1, x2, h => (if (6 : Int32) ≤ x2 then k44 h else if inB x2 6 = true then if inB (x2 - (1 : Int32)) 6 = true then lt (sK h ((x2 - (1 : Int32)).toNatClampNeg) (gK h x2.toNatClampNeg)) fun h8 =>
  jX8_keepNoted_L18 y1 k44 n18 (x2 + 1) h8 else none else none)
def jX8_keepNoted  (h : HD) : Option HD :=
  (if (gI h (6, 0, 0) 13) < (6 : Int32) then (if (gI h (6, 0, 0) 13) < 0 then some h else (if (6 : Int32) ≤ (gI h (6, 0, 0) 13) then some h else if inB (gI h (6, 0, 0) 13) 6 = true then (jX2_copyFrom (gK h ((gI h (6, 0, 0) 13).toNatClampNeg)) 3 h).bind fun q3 =>
  lt (sI q3 (6, 0, 0) 13 ((gI q3 (6, 0, 0) 13) + (1 : Int32))) fun h4 =>
  some h4 else none)) else jX8_keepNoted_L18 (gK h 0) (fun h10 => lt (sK h10 5 (gK h 0)) fun h11 =>
  lt (sI h11 (6, 0, 0) 13 (5 : Int32)) fun h12 =>
  (if (gI h12 (6, 0, 0) 13) < 0 then some h12 else (if (6 : Int32) ≤ (gI h12 (6, 0, 0) 13) then some h12 else if inB (gI h12 (6, 0, 0) 13) 6 = true then (jX2_copyFrom (gK h12 ((gI h12 (6, 0, 0) 13).toNatClampNeg)) 3 h12).bind fun q15 =>
  lt (sI q15 (6, 0, 0) 13 ((gI q15 (6, 0, 0) 13) + (1 : Int32))) fun h16 =>
  some h16 else none))) FU (1 : Int32) h)
def jX8_prefer (p1 : Int32) (p2 : Int32) (h : HD) : Option ((Nat ⊕ Int32) × HD) :=
  (jX8_needCar p1 h).bind fun q1 =>
  sm q1 (fun e => some (.inl e, h)) fun v2 =>
  (jX8_needPreference p2 h).bind fun q3 =>
  sm q3 (fun e => some (.inl e, h)) fun v4 =>
  (jX2_preferenceOf 0 p1 h).bind fun q5 =>
  (jX8_note h).bind fun q6 =>
  (jX8_doPrefer p1 p2 q6).bind fun q7 =>
  (jX8_keepNoted q7.2).bind fun q8 =>
  some (.inr q5, q8)
def jX8_refuse (p1 : Int32) (h : HD) : Option (Bool × HD) :=
  lt (sI h (6, 0, 0) 16 p1) fun h1 =>
  lt (sI h1 (6, 0, 2) 1 ((gI h1 (6, 0, 2) 1) + (1 : Int32))) fun h2 =>
  some (false, h2)
def jX8_doSwap (p1 : Int32) (h : HD) : Option (Bool × HD) :=
  (if (jX2_hasCar 0 (p1 + (1 : Int32)) h) = true then lt (sI h (6, 0, 2) 0 ((gI h (6, 0, 2) 0) + (1 : Int32))) fun h1 =>
  (jX2_exchange 0 p1 (p1 + (1 : Int32)) h1).bind fun q2 =>
  some (true, q2) else (jX8_refuse (3 : Int32) h).bind fun q3 =>
  some (q3.1, q3.2))
def jX8_keepNotedIf (p1 : Bool) (h : HD) : Option (Bool × HD) :=
  (if p1 = true then (jX8_keepNoted h).bind fun q1 =>
  some (p1, q1) else some (p1, h))
def jX8_swap (p1 : Int32) (h : HD) : Option ((Nat ⊕ Bool) × HD) :=
  (jX8_needCar p1 h).bind fun q1 =>
  sm q1 (fun e => some (.inl e, h)) fun v2 =>
  (jX8_note h).bind fun q3 =>
  (jX8_doSwap p1 q3).bind fun q4 =>
  (jX8_keepNotedIf q4.1 q4.2).bind fun q5 =>
  some (.inr q5.1, q5.2)
def jX8_isTurn (p1 : Int32) (h : HD) : Bool :=
  (if p1 < 0 then false else (if (99 : Int32) < p1 then false else true))
def jX2_turnBy_L2 (o : Nat) (p1 : Int32) : Nat → Int32 → HD → Option HD
  | 0, _, _ => none
  | n2 + 1, x2, h => (if (gI h (1, o, 0) 2) ≤ x2 then some h else (jX2_preferenceOf o x2 h).bind fun q1 =>
  (jX8_wrapped (q1 + p1) ((gI h (1, o, 0) 2) + (1 : Int32)) h).bind fun q2 =>
  (jX2_changePreference o x2 q2 h).bind fun q3 =>
  jX2_turnBy_L2 o p1 n2 (x2 + 1) q3)
def jX2_turnBy (o : Nat) (p1 : Int32) (h : HD) : Option HD :=
  jX2_turnBy_L2 o p1 FU (0 : Int32) h
def jX8_doTurn (p1 : Int32) (h : HD) : Option (Bool × HD) :=
  lt (sI h (6, 0, 2) 0 ((gI h (6, 0, 2) 0) + (1 : Int32))) fun h1 =>
  (jX2_turnBy 0 p1 h1).bind fun q2 =>
  some (true, q2)
def jX8_turn (p1 : Int32) (h : HD) : Option ((Nat ⊕ Int32) × HD) :=
  (if (jX8_isTurn p1 h) = true then (jX8_note h).bind fun q1 =>
  (jX8_doTurn p1 q1).bind fun q2 =>
  (jX8_keepNoted q2.2).bind fun q3 =>
  (jX8_parked q3).bind fun q4 =>
  some (.inr (jX4_turnNumber 0 q4), q4) else some (.inl 1, h))
def jX8_doSetBack (p1 : Int32) (h : HD) : Option (Bool × HD) :=
  lt (sI h (6, 0, 2) 0 ((gI h (6, 0, 2) 0) + (1 : Int32))) fun h1 =>
  (jX2_changeBack 0 p1 h1).bind fun q2 =>
  some (true, q2)
def jX8_setBack (p1 : Int32) (h : HD) : Option ((Nat ⊕ Int32) × HD) :=
  (jX8_needBack p1 h).bind fun q1 =>
  sm q1 (fun e => some (.inl e, h)) fun v2 =>
  (jX8_note h).bind fun q3 =>
  (jX8_doSetBack p1 q3).bind fun q4 =>
  (jX8_keepNoted q4.2).bind fun q5 =>
  some (.inr (jX2_back 0 h), q5)
def jX8_canComeTo (p1 : Int32) (h : HD) : Bool :=
  (if p1 < 0 then false else (if (jX2_spots 0 h) < p1 then false else true))
def jX1_wholeName_L15 (o : Nat) (h : HD) : Nat → Int64 → Int32 → Option Int64
  | 0, _, _ => none
  | n15 + 1, x1, x3 => (if (gI h (0, o, 0) 1) ≤ x3 then some x1 else (jX1_at o x3 h).bind fun q1 =>
  (if (jX8_isLetter q1 h) = true then (jX1_at o x3 h).bind fun q2 =>
  jX1_wholeName_L15 o h n15 (jX8_withLetter x1 x3 ((q2 - (97 : Int32)) + (1 : Int32)) h) (x3 + 1) else some (0 : Int64)))
def jX1_wholeName (o : Nat) (h : HD) : Option Int64 :=
  (if (gI h (0, o, 0) 1) ≤ (8 : Int32) then jX1_wholeName_L15 o h FU (0 : Int64) (0 : Int32) else some (0 : Int64))
def jX2_carNamed_L2 (o : Nat) (p1 : Int64) (h : HD) : Nat → Int32 → Option Int32
  | 0, _ => none
  | n2 + 1, x3 => (if (gI h (1, o, 0) 2) ≤ x3 then some (-1 : Int32) else (jX2_nameOf o x3 h).bind fun q1 =>
  (if (lg_cmp q1 p1) = 0 then some x3 else jX2_carNamed_L2 o p1 h n2 (x3 + 1)))
def jX2_carNamed (o : Nat) (p1 : Int64) (h : HD) : Option Int32 :=
  jX2_carNamed_L2 o p1 h FU (0 : Int32)
def jX2_put (o : Nat) (p1 : Int32) (p2 : Int64) (p3 : Int32) (h : HD) : Option HD :=
  (if (jX2_hasCar o p1 h) = true then if inB p1 11 = true then lt (sJ h (1, o, 1) p1.toNatClampNeg p2) fun h1 =>
  if inB p1 11 = true then lt (sI h1 (1, o, 2) p1.toNatClampNeg p3) fun h3 =>
  some h3 else none else none else some h)
def jX2_add (o : Nat) (p1 : Int64) (p2 : Int32) (h : HD) : Option HD :=
  (if (11 : Int32) ≤ (gI h (1, o, 0) 2) then some h else lt (sI h (1, o, 0) 2 ((gI h (1, o, 0) 2) + (1 : Int32))) fun h1 =>
  (jX2_put o ((gI h1 (1, o, 0) 2) - (1 : Int32)) p1 p2 h1).bind fun q2 =>
  some q2)
def jX8_doCome (p1 : Int64) (p2 : Int32) (h : HD) : Option (Bool × HD) :=
  (if (jX2_count 0 h) < (11 : Int32) then (if (lg_cmp p1 (0 : Int64)) = 0 then (jX8_refuse (2 : Int32) h).bind fun q1 =>
  some (q1.1, q1.2) else (jX2_carNamed 0 p1 h).bind fun q2 =>
  (if q2 = (-1 : Int32) then lt (sI h (6, 0, 2) 0 ((gI h (6, 0, 2) 0) + (1 : Int32))) fun h3 =>
  (jX2_add 0 p1 p2 h3).bind fun q4 =>
  lt (sI q4 (6, 0, 2) 2 ((gI q4 (6, 0, 2) 2) + (1 : Int32))) fun h5 =>
  some (true, h5) else (jX8_refuse (2 : Int32) h).bind fun q6 =>
  some (q6.1, q6.2))) else (jX8_refuse (1 : Int32) h).bind fun q7 =>
  some (q7.1, q7.2))
def jX8_come (p1 : Int32) (h : HD) : Option ((Nat ⊕ Bool) × HD) :=
  (if (jX8_canComeTo p1 h) = true then (jX8_note h).bind fun q1 =>
  (jX1_wholeName 0 q1).bind fun q2 =>
  (jX8_doCome q2 p1 q1).bind fun q3 =>
  (jX8_keepNotedIf q3.1 q3.2).bind fun q4 =>
  (if q4.1 = true then (jX1_shorten 0 (0 : Int32) q4.2).bind fun q5 =>
  some (.inr q4.1, q5) else some (.inr q4.1, q4.2)) else some (.inl 1, h))
def jX2_remove_L4 (o : Nat) (p1 : Int32) (k26 : HD → Option HD) : Nat → Int32 → HD → Option HD
  | 0, _, _ => none
  | n4 + 1, x2, h => (if (gI h (1, o, 0) 2) ≤ x2 then k26 h else (jX2_exchange o (x2 - (1 : Int32)) x2 h).bind fun q1 =>
  jX2_remove_L4 o p1 k26 n4 (x2 + 1) q1)
def jX2_remove (o : Nat) (p1 : Int32) (h : HD) : Option HD :=
  jX2_remove_L4 o p1 (fun h2 => (if (jX2_hasCar o p1 h2) = true then lt (sI h2 (1, o, 0) 2 ((gI h2 (1, o, 0) 2) - (1 : Int32))) fun h3 =>
  some h3 else some h2)) FU (p1 + (1 : Int32)) h
def jX8_doGo (p1 : Int32) (h : HD) : Option (Bool × HD) :=
  (jX2_preferenceOf 0 p1 h).bind fun q1 =>
  (if q1 = ((jX2_spots 0 h) - (1 : Int32)) then (jX2_wishesFor 0 ((jX2_spots 0 h) - (1 : Int32)) h).bind fun q7 =>
  (if q7 ≤ (1 : Int32) then lt (sI h (6, 0, 2) 0 ((gI h (6, 0, 2) 0) + (1 : Int32))) fun h8 =>
  (jX2_remove 0 p1 h8).bind fun q9 =>
  lt (sI q9 (6, 0, 2) 3 ((gI q9 (6, 0, 2) 3) + (1 : Int32))) fun h10 =>
  some (true, h10) else (jX8_refuse (4 : Int32) h).bind fun q11 =>
  some (q11.1, q11.2)) else (jX2_wishesFor 0 ((jX2_spots 0 h) - (1 : Int32)) h).bind fun q2 =>
  (if q2 ≤ (0 : Int32) then lt (sI h (6, 0, 2) 0 ((gI h (6, 0, 2) 0) + (1 : Int32))) fun h3 =>
  (jX2_remove 0 p1 h3).bind fun q4 =>
  lt (sI q4 (6, 0, 2) 3 ((gI q4 (6, 0, 2) 3) + (1 : Int32))) fun h5 =>
  some (true, h5) else (jX8_refuse (4 : Int32) h).bind fun q6 =>
  some (q6.1, q6.2)))
def jX8_go (p1 : Int32) (h : HD) : Option ((Nat ⊕ Bool) × HD) :=
  (jX8_needCar p1 h).bind fun q1 =>
  sm q1 (fun e => some (.inl e, h)) fun v2 =>
  (jX8_note h).bind fun q3 =>
  (jX8_doGo p1 q3).bind fun q4 =>
  (jX8_keepNotedIf q4.1 q4.2).bind fun q5 =>
  some (.inr q5.1, q5.2)
def jX2_takeSorted_L9 (o : Nat) (r1 : Nat) : Nat → Int32 → Int32 → HD → Option (Int32 × HD)
  | 0, _, _, _ => none
  | n9 + 1, x2, x3, h => (if (gI h (1, o, 0) 2) ≤ x3 then some (x2, h) else (jX2_rankOf r1 x3 h).bind fun q2 =>
  (jX2_nameOf r1 x3 h).bind fun q3 =>
  (jX2_preferenceOf r1 x3 h).bind fun q4 =>
  (jX2_put o q2 q3 q4 h).bind fun q5 =>
  (if q2 = x3 then jX2_takeSorted_L9 o r1 n9 x2 (x3 + 1) q5 else jX2_takeSorted_L9 o r1 n9 (x2 + 1) (x3 + 1) q5))
def jX2_takeSorted (o : Nat) (r1 : Nat) (h : HD) : Option (Int32 × HD) :=
  (jX2_copyFrom o r1 h).bind fun q1 =>
  jX2_takeSorted_L9 o r1 FU (0 : Int32) (0 : Int32) q1
def jX8_doSort  (h : HD) : Option (Int32 × HD) :=
  lt (sI h (6, 0, 2) 0 ((gI h (6, 0, 2) 0) + (1 : Int32))) fun h1 =>
  (jX2_copyFrom 1 0 h1).bind fun q2 =>
  (jX2_takeSorted 0 1 q2).bind fun q3 =>
  some (q3.1, q3.2)
def jX8_sort  (h : HD) : Option (Int32 × HD) :=
  (jX8_note h).bind fun q1 =>
  (jX8_doSort q1).bind fun q2 =>
  (jX8_keepNoted q2.2).bind fun q3 =>
  some (q2.1, q3)
def jX8_doReverse_L20 (x1 : Int32) : Nat → Int32 → HD → Option (Bool × HD)
  | 0, _, _ => none
  | n20 + 1, x2, h => (if ((x1 - (1 : Int32)) - x2) ≤ x2 then some (true, h) else (jX2_exchange 0 x2 ((x1 - (1 : Int32)) - x2) h).bind fun q2 =>
  jX8_doReverse_L20 x1 n20 (x2 + 1) q2)
def jX8_doReverse  (h : HD) : Option (Bool × HD) :=
  lt (sI h (6, 0, 2) 0 ((gI h (6, 0, 2) 0) + (1 : Int32))) fun h1 =>
  jX8_doReverse_L20 (jX2_count 0 h1) FU (0 : Int32) h1
def jX8_reverse  (h : HD) : Option (Int32 × HD) :=
  (jX8_note h).bind fun q1 =>
  (jX8_doReverse q1).bind fun q2 =>
  (jX8_keepNoted q2.2).bind fun q3 =>
  (jX8_parked q3).bind fun q4 =>
  (jX4_luckyCars 0 q4).bind fun q5 =>
  some (q5, q4)
def jX8_refusal  (h : HD) : Int32 :=
  gI h (6, 0, 0) 16
def jX8_account (p1 : Int32) (h : HD) : Option (Nat ⊕ Int32) :=
  (if p1 < 0 then some (.inl 1) else (if p1 < (5 : Int32) then if inB p1 5 = true then some (.inr (gI h (6, 0, 2) p1.toNatClampNeg)) else none else some (.inl 1)))
def jX8_undo  (h : HD) : Option (Int32 × HD) :=
  (if (gI h (6, 0, 0) 13) < (1 : Int32) then some ((-1 : Int32), h) else (if (gI h (6, 0, 0) 13) ≤ (6 : Int32) then lt (sI h (6, 0, 0) 13 ((gI h (6, 0, 0) 13) - (1 : Int32))) fun h1 =>
  if inB (gI h1 (6, 0, 0) 13) 6 = true then (jX2_copyFrom 0 (gK h1 ((gI h1 (6, 0, 0) 13).toNatClampNeg)) h1).bind fun q4 =>
  lt (sI q4 (6, 0, 2) 4 ((gI q4 (6, 0, 2) 4) + (1 : Int32))) fun h5 =>
  some (gI h5 (6, 0, 0) 13, h5) else none else some ((-1 : Int32), h)))
def jX1_addName_L2 (o : Nat) (p1 : Int64) : Nat → Int32 → HD → Option HD
  | 0, _, _ => none
  | n2 + 1, x3, h => (if (8 : Int32) ≤ x3 then some h else (if (jX8_letterOf p1 x3 h) ≤ 0 then some h else (jX1_add o ((96 : Int32) + (jX8_letterOf p1 x3 h)) h).bind fun q1 =>
  jX1_addName_L2 o p1 n2 (x3 + 1) q1))
def jX1_addName (o : Nat) (p1 : Int64) (h : HD) : Option HD :=
  jX1_addName_L2 o p1 FU (0 : Int32) h
def jX8_report_L15 (k100 : HD → Option (Int32 × HD)) : Nat → Int32 → HD → Option (Int32 × HD)
  | 0, _, _ => none
  | n15 + 1, x2, h => (if (jX2_spots 0 h) ≤ x2 then k100 h else (if x2 ≤ 0 then (jX4_takerOf 0 x2 h).bind fun q3 =>
  (if q3 = (-1 : Int32) then (jX1_add 1 (46 : Int32) h).bind fun q8 =>
  jX8_report_L15 k100 n15 (x2 + 1) q8 else (jX2_nameOf 0 q3 h).bind fun q4 =>
  (jX1_addName 1 q4 h).bind fun q5 =>
  (jX4_isLucky 0 q3 q5).bind fun q6 =>
  (if q6 = true then (jX1_add 1 (33 : Int32) q5).bind fun q7 =>
  jX8_report_L15 k100 n15 (x2 + 1) q7 else jX8_report_L15 k100 n15 (x2 + 1) q5)) else (jX1_add 1 (32 : Int32) h).bind fun q9 =>
  (jX4_takerOf 0 x2 q9).bind fun q10 =>
  (if q10 = (-1 : Int32) then (jX1_add 1 (46 : Int32) q9).bind fun q15 =>
  jX8_report_L15 k100 n15 (x2 + 1) q15 else (jX2_nameOf 0 q10 q9).bind fun q11 =>
  (jX1_addName 1 q11 q9).bind fun q12 =>
  (jX4_isLucky 0 q10 q12).bind fun q13 =>
  (if q13 = true then (jX1_add 1 (33 : Int32) q12).bind fun q14 =>
  jX8_report_L15 k100 n15 (x2 + 1) q14 else jX8_report_L15 k100 n15 (x2 + 1) q12))))
def jX8_report  (h : HD) : Option (Int32 × HD) :=
  (jX8_parked h).bind fun q1 =>
  (jX1_shorten 1 (0 : Int32) q1).bind fun q2 =>
  jX8_report_L15 (fun h16 => (jX1_add 1 (10 : Int32) h16).bind fun q17 =>
  some ((jX1_length 1 q17), q17)) FU (0 : Int32) q2
def jX8_reportByte (p1 : Int32) (h : HD) : Option (Nat ⊕ Int32) :=
  (if p1 < 0 then some (.inl 2) else (if p1 < (jX1_length 1 h) then (jX1_at 1 p1 h).bind fun q1 =>
  some (.inr q1) else some (.inl 2)))
def jX8_save  (h : HD) : Option (Int32 × HD) :=
  (jX2_copyFrom 2 0 h).bind fun q1 =>
  lt (sI q1 (6, 0, 0) 14 (1 : Int32)) fun h2 =>
  some ((jX2_count 0 h2), h2)
def jX8_restore  (h : HD) : Option ((Nat ⊕ Int32) × HD) :=
  (if (gI h (6, 0, 0) 14) = 0 then some (.inl 0, h) else (jX2_copyFrom 0 2 h).bind fun q1 =>
  lt (sI q1 (6, 0, 0) 13 (0 : Int32)) fun h2 =>
  some (.inr (jX2_count 0 h2), h2))
def jX9_thrown  (h : HD) : Int32 :=
  gI h (7, 0, 0) 0
def jX9_isIn (p1 : Int64) (p2 : Int64) (p3 : Int64) (h : HD) : Bool :=
  (if (lg_cmp p1 p2) < 0 then false else (if 0 < (lg_cmp p1 p3) then false else true))
def jX9_truth (p1 : Bool) (h : HD) : Int32 :=
  (if p1 = true then (1 : Int32) else (0 : Int32))
def jX9_goes (p1 : Bool) (h : HD) : Option (Bool × HD) :=
  (if p1 = true then lt (sI h (7, 0, 0) 0 (jX9_truth false h)) fun h1 =>
  some (p1, h1) else lt (sI h (7, 0, 0) 0 (jX9_truth true h)) fun h2 =>
  some (p1, h2))
def jX9_goesBoth (p1 : Bool) (p2 : Bool) (h : HD) : Option (Bool × HD) :=
  (if p1 = true then (if p2 = true then lt (sI h (7, 0, 0) 0 (0 : Int32)) fun h1 =>
  (if (gI h1 (7, 0, 0) 0) = 0 then some (true, h1) else some (false, h1)) else lt (sI h (7, 0, 0) 0 (2 : Int32)) fun h2 =>
  (if (gI h2 (7, 0, 0) 0) = 0 then some (true, h2) else some (false, h2))) else lt (sI h (7, 0, 0) 0 (1 : Int32)) fun h3 =>
  (if (gI h3 (7, 0, 0) 0) = 0 then some (true, h3) else some (false, h3)))
def jX9_four_L3 (p1 : Int32) : Nat → Int32 → HD → Option HD
  | 0, _, _ => none
  | n3 + 1, x2, h => (if x2 < 0 then some h else if inB (gI h (7, 0, 0) 2) 400 = true then lt (sI h (7, 0, 1) ((gI h (7, 0, 0) 2).toNatClampNeg) ((p1 >>> (x2 &&& 31)) &&& (255 : Int32))) fun h1 =>
  lt (sI h1 (7, 0, 0) 2 ((gI h1 (7, 0, 0) 2) + (1 : Int32))) fun h3 =>
  jX9_four_L3 p1 n3 (x2 + (-8)) h3 else none)
def jX9_four (p1 : Int32) (h : HD) : Option HD :=
  jX9_four_L3 p1 FU (24 : Int32) h
def jX9_feed (p1 : Int32) (p2 : Int32) (p3 : Int32) (p4 : Int32) (p5 : Int32) (h : HD) : Option (Int32 × HD) :=
  (if (400 : Int32) < ((gI h (7, 0, 0) 2) + (20 : Int32)) then (jX9_goes false h).bind fun q1 =>
  (if q1.1 = true then (jX9_four p1 q1.2).bind fun q2 =>
  (jX9_four p2 q2).bind fun q3 =>
  (jX9_four p3 q3).bind fun q4 =>
  (jX9_four p4 q4).bind fun q5 =>
  (jX9_four p5 q5).bind fun q6 =>
  some (gI q6 (7, 0, 0) 2, q6) else some ((0 : Int32), q1.2)) else (jX9_goes true h).bind fun q7 =>
  (if q7.1 = true then (jX9_four p1 q7.2).bind fun q8 =>
  (jX9_four p2 q8).bind fun q9 =>
  (jX9_four p3 q9).bind fun q10 =>
  (jX9_four p4 q10).bind fun q11 =>
  (jX9_four p5 q11).bind fun q12 =>
  some (gI q12 (7, 0, 0) 2, q12) else some ((0 : Int32), q7.2)))
def jX9_truncate (p1 : Int32) (h : HD) : Option (Int32 × HD) :=
  (jX9_goes (jX9_isIn p1.toInt64 (0 : Int64) ((gI h (7, 0, 0) 2).toInt64) h) h).bind fun q1 =>
  (if q1.1 = true then lt (sI q1.2 (7, 0, 0) 2 p1) fun h2 =>
  some (p1, h2) else some ((0 : Int32), q1.2))
def jX9_here (p1 : Int32) (h : HD) : Option Int32 :=
  (if (gI h (7, 0, 0) 3) ≤ ((gI h (7, 0, 0) 4) + p1) then some (-1 : Int32) else if inB ((gI h (7, 0, 0) 4) + p1) 400 = true then some (gI h (7, 0, 1) ((gI h (7, 0, 0) 4) + p1).toNatClampNeg) else none)
def jX9_isLetter (p1 : Int32) (h : HD) : Bool :=
  (if p1 < (97 : Int32) then false else (if (122 : Int32) < p1 then false else true))
def jX9_isDigit (p1 : Int32) (h : HD) : Bool :=
  (if p1 < (48 : Int32) then false else (if (57 : Int32) < p1 then false else true))
def jX9_goOnRead_L0 (k33 : HD → Option HD) : Nat → HD → Option HD
  | 0, _ => none
  | n0 + 1, h => (jX9_here (0 : Int32) h).bind fun q1 =>
  (if q1 = (32 : Int32) then lt (sI h (7, 0, 0) 4 ((gI h (7, 0, 0) 4) + (1 : Int32))) fun h2 =>
  jX9_goOnRead_L0 k33 n0 h2 else (jX9_here (0 : Int32) h).bind fun q3 =>
  (if q3 = (10 : Int32) then lt (sI h (7, 0, 0) 4 ((gI h (7, 0, 0) 4) + (1 : Int32))) fun h4 =>
  jX9_goOnRead_L0 k33 n0 h4 else k33 h))
def jX9_goOnRead_L146 (k188 : Int32 → HD → Option HD) : Nat → Int32 → HD → Option HD
  | 0, _, _ => none
  | n146 + 1, x2, h => (jX9_here x2 h).bind fun q22 =>
  (if (jX9_isDigit q22 h) = true then (if (3 : Int32) ≤ x2 then jX9_goOnRead_L146 k188 n146 (x2 + 1) h else (jX9_here x2 h).bind fun q23 =>
  lt (sI h (7, 0, 0) 7 ((((10 : Int32) * (gI h (7, 0, 0) 7)) + q23) - (48 : Int32))) fun h24 =>
  jX9_goOnRead_L146 k188 n146 (x2 + 1) h24) else k188 x2 h)
def jX9_goOnRead_L76 (k121 : Int32 → HD → Option HD) : Nat → Int32 → HD → Option HD
  | 0, _, _ => none
  | n76 + 1, x2, h => (jX9_here x2 h).bind fun q30 =>
  (if (jX9_isLetter q30 h) = true then (if (8 : Int32) ≤ x2 then jX9_goOnRead_L76 k121 n76 (x2 + 1) h else (jX9_here x2 h).bind fun q31 =>
  lt (sJ h (7, 0, 0) 12 (((gJ h (7, 0, 0) 12) <<< ((5 : Int32).toInt64 &&& 63)) ||| (((q31 - (97 : Int32)) + (1 : Int32)).toInt64))) fun h32 =>
  jX9_goOnRead_L76 k121 n76 (x2 + 1) h32) else k121 x2 h)
def jX9_goOnRead  (h : HD) : Option HD :=
  jX9_goOnRead_L0 (fun h5 => lt (sI h5 (7, 0, 0) 5 (gI h5 (7, 0, 0) 4)) fun h6 =>
  lt (sJ h6 (7, 0, 0) 12 (0 : Int64)) fun h7 =>
  lt (sI h7 (7, 0, 0) 7 (0 : Int32)) fun h8 =>
  (jX9_here (0 : Int32) h8).bind fun q9 =>
  (if 0 ≤ q9 then (if (jX9_isLetter q9 h8) = true then jX9_goOnRead_L76 (fun y76_2 h33 => (if y76_2 ≤ (8 : Int32) then lt (sI h33 (7, 0, 0) 6 (1 : Int32)) fun h34 =>
  lt (sI h34 (7, 0, 0) 4 ((gI h34 (7, 0, 0) 4) + y76_2)) fun h35 =>
  some h35 else lt (sI h33 (7, 0, 0) 6 (4 : Int32)) fun h36 =>
  lt (sI h36 (7, 0, 0) 4 ((gI h36 (7, 0, 0) 4) + y76_2)) fun h37 =>
  some h37)) FU (0 : Int32) h8 else (if (jX9_isDigit q9 h8) = true then jX9_goOnRead_L146 (fun y146_2 h25 => (if y146_2 ≤ (3 : Int32) then lt (sI h25 (7, 0, 0) 6 (2 : Int32)) fun h26 =>
  lt (sI h26 (7, 0, 0) 4 ((gI h26 (7, 0, 0) 4) + y146_2)) fun h27 =>
  some h27 else lt (sI h25 (7, 0, 0) 6 (4 : Int32)) fun h28 =>
  lt (sI h28 (7, 0, 0) 4 ((gI h28 (7, 0, 0) 4) + y146_2)) fun h29 =>
  some h29)) FU (0 : Int32) h8 else (if q9 = (59 : Int32) then lt (sI h8 (7, 0, 0) 6 (3 : Int32)) fun h10 =>
  lt (sI h10 (7, 0, 0) 7 q9) fun h11 =>
  lt (sI h11 (7, 0, 0) 4 ((gI h11 (7, 0, 0) 4) + (1 : Int32))) fun h12 =>
  some h12 else (if q9 = (40 : Int32) then lt (sI h8 (7, 0, 0) 6 (3 : Int32)) fun h13 =>
  lt (sI h13 (7, 0, 0) 7 q9) fun h14 =>
  lt (sI h14 (7, 0, 0) 4 ((gI h14 (7, 0, 0) 4) + (1 : Int32))) fun h15 =>
  some h15 else (if q9 = (41 : Int32) then lt (sI h8 (7, 0, 0) 6 (3 : Int32)) fun h19 =>
  lt (sI h19 (7, 0, 0) 7 q9) fun h20 =>
  lt (sI h20 (7, 0, 0) 4 ((gI h20 (7, 0, 0) 4) + (1 : Int32))) fun h21 =>
  some h21 else lt (sI h8 (7, 0, 0) 6 (4 : Int32)) fun h16 =>
  lt (sI h16 (7, 0, 0) 7 q9) fun h17 =>
  lt (sI h17 (7, 0, 0) 4 ((gI h17 (7, 0, 0) 4) + (1 : Int32))) fun h18 =>
  some h18))))) else lt (sI h8 (7, 0, 0) 6 (0 : Int32)) fun h38 =>
  some h38)) FU h
def jX9_wrong (p1 : Int32) (h : HD) : Option HD :=
  (if (gI h (7, 0, 0) 8) ≤ 0 then (if (gI h (7, 0, 0) 6) = (4 : Int32) then lt (sI h (7, 0, 0) 8 (1 : Int32)) fun h3 =>
  lt (sI h3 (7, 0, 0) 9 (gI h3 (7, 0, 0) 5)) fun h4 =>
  some h4 else lt (sI h (7, 0, 0) 8 p1) fun h1 =>
  lt (sI h1 (7, 0, 0) 9 (gI h1 (7, 0, 0) 5)) fun h2 =>
  some h2) else some h)
def jX9_isGood  (h : HD) : Bool :=
  (if (gI h (7, 0, 0) 8) = 0 then true else false)
def jX9_isWord (p1 : Int64) (h : HD) : Bool :=
  (if (gI h (7, 0, 0) 8) = 0 then (if (gI h (7, 0, 0) 6) = (1 : Int32) then (if (lg_cmp (gJ h (7, 0, 0) 12) p1) = 0 then true else false) else false) else false)
def jX9_isSign (p1 : Int32) (h : HD) : Bool :=
  (if (gI h (7, 0, 0) 8) = 0 then (if (gI h (7, 0, 0) 6) = (3 : Int32) then (if (gI h (7, 0, 0) 7) = p1 then true else false) else false) else false)
def jX9_mustSign (p1 : Int32) (h : HD) : Option HD :=
  (if (jX9_isGood h) = true then (if (jX9_isSign p1 h) = true then (if (jX9_isGood h) = true then (jX9_goOnRead h).bind fun q2 =>
  some q2 else some h) else (jX9_wrong (1 : Int32) h).bind fun q3 =>
  (if (jX9_isGood q3) = true then (jX9_goOnRead q3).bind fun q4 =>
  some q4 else some q3)) else (if (jX9_isGood h) = true then (jX9_goOnRead h).bind fun q1 =>
  some q1 else some h))
def jX9_mustWord (p1 : Int64) (h : HD) : Option HD :=
  (if (jX9_isGood h) = true then (if (jX9_isWord p1 h) = true then (if (jX9_isGood h) = true then (jX9_goOnRead h).bind fun q2 =>
  some q2 else some h) else (jX9_wrong (1 : Int32) h).bind fun q3 =>
  (if (jX9_isGood q3) = true then (jX9_goOnRead q3).bind fun q4 =>
  some q4 else some q3)) else (if (jX9_isGood h) = true then (jX9_goOnRead h).bind fun q1 =>
  some q1 else some h))
def jX9_looks (p1 : Int32) (p2 : Int32) (h : HD) : Option (Int32 × HD) :=
  (if (jX9_isGood h) = true then (if (gI h (7, 0, 0) 6) = (2 : Int32) then (if (jX9_isGood h) = true then (if (jX9_isIn ((gI h (7, 0, 0) 7).toInt64) p1.toInt64 p2.toInt64 h) = true then some (gI h (7, 0, 0) 7, h) else (jX9_wrong (2 : Int32) h).bind fun q2 =>
  some (gI q2 (7, 0, 0) 7, q2)) else some (gI h (7, 0, 0) 7, h)) else (jX9_wrong (1 : Int32) h).bind fun q3 =>
  (if (jX9_isGood q3) = true then (if (jX9_isIn ((gI q3 (7, 0, 0) 7).toInt64) p1.toInt64 p2.toInt64 q3) = true then some (gI q3 (7, 0, 0) 7, q3) else (jX9_wrong (2 : Int32) q3).bind fun q4 =>
  some (gI q4 (7, 0, 0) 7, q4)) else some (gI q3 (7, 0, 0) 7, q3))) else (if (jX9_isGood h) = true then (if (jX9_isIn ((gI h (7, 0, 0) 7).toInt64) p1.toInt64 p2.toInt64 h) = true then some (gI h (7, 0, 0) 7, h) else (jX9_wrong (2 : Int32) h).bind fun q1 =>
  some (gI q1 (7, 0, 0) 7, q1)) else some (gI h (7, 0, 0) 7, h)))
def jX9_number (p1 : Int32) (p2 : Int32) (h : HD) : Option (Int32 × HD) :=
  (jX9_looks p1 p2 h).bind fun q1 =>
  (if (jX9_isGood q1.2) = true then (jX9_goOnRead q1.2).bind fun q2 =>
  some (q1.1, q2) else some (q1.1, q1.2))
def jX9_beginsText  (h : HD) : Option HD :=
  lt (sI h (7, 0, 0) 3 (gI h (7, 0, 0) 2)) fun h1 =>
  lt (sI h1 (7, 0, 0) 2 (0 : Int32)) fun h2 =>
  lt (sI h2 (7, 0, 0) 4 (0 : Int32)) fun h3 =>
  lt (sI h3 (7, 0, 0) 8 (0 : Int32)) fun h4 =>
  lt (sI h4 (7, 0, 0) 9 (-1 : Int32)) fun h5 =>
  (jX9_goOnRead h5).bind fun q6 =>
  some q6
def jX9_endsText  (h : HD) : Option (Bool × HD) :=
  lt (sI h (7, 0, 0) 10 (gI h (7, 0, 0) 8)) fun h1 =>
  lt (sI h1 (7, 0, 0) 11 (gI h1 (7, 0, 0) 9)) fun h2 =>
  (if (gI h2 (7, 0, 0) 8) = 0 then (jX9_goes true h2).bind fun q4 =>
  some (q4.1, q4.2) else (jX9_goes false h2).bind fun q3 =>
  some (q3.1, q3.2))
def jX9_errorCode  (h : HD) : Option (Int32 × HD) :=
  lt (sI h (7, 0, 0) 0 (0 : Int32)) fun h1 =>
  some (gI h1 (7, 0, 0) 10, h1)
def jX9_errorPosition  (h : HD) : Option (Int32 × HD) :=
  lt (sI h (7, 0, 0) 0 (0 : Int32)) fun h1 =>
  some (gI h1 (7, 0, 0) 11, h1)
def jX9_copiesRow_L3 (r1 : Rf) (p2 : Int32) (r3 : Rf) (p4 : Int32) : Nat → Int32 → HD → Option HD
  | 0, _, _ => none
  | n3 + 1, x4, h => (if (13 : Int32) ≤ x4 then some h else if inB (p2 + x4) (arrT r1).2 = true then if inB (p4 + x4) (arrT r3).2 = true then lt (sI h r3 ((p4 + x4).toNatClampNeg) (gI h r1 (p2 + x4).toNatClampNeg)) fun h2 =>
  jX9_copiesRow_L3 r1 p2 r3 p4 n3 (x4 + 1) h2 else none else none)
def jX9_copiesRow (r1 : Rf) (p2 : Int32) (r3 : Rf) (p4 : Int32) (h : HD) : Option HD :=
  jX9_copiesRow_L3 r1 p2 r3 p4 FU (0 : Int32) h
def jX9_copiesNames_L3 (r1 : Rf) (p2 : Int32) (r3 : Rf) (p4 : Int32) : Nat → Int32 → HD → Option HD
  | 0, _, _ => none
  | n3 + 1, x4, h => (if (11 : Int32) ≤ x4 then some h else if inB (p2 + x4) (arrT r1).2 = true then if inB (p4 + x4) (arrT r3).2 = true then lt (sJ h r3 ((p4 + x4).toNatClampNeg) (gJ h r1 (p2 + x4).toNatClampNeg)) fun h2 =>
  jX9_copiesNames_L3 r1 p2 r3 p4 n3 (x4 + 1) h2 else none else none)
def jX9_copiesNames (r1 : Rf) (p2 : Int32) (r3 : Rf) (p4 : Int32) (h : HD) : Option HD :=
  jX9_copiesNames_L3 r1 p2 r3 p4 FU (0 : Int32) h
def jX9_clears_L2  : Nat → Int32 → HD → Option HD
  | 0, _, _ => none
  | n2 + 1, x1, h => (if (13 : Int32) ≤ x1 then some h else if inB x1 13 = true then lt (sI h (7, 0, 2) x1.toNatClampNeg (0 : Int32)) fun h1 =>
  jX9_clears_L2 n2 (x1 + 1) h1 else none)
def jX9_clears  (h : HD) : Option HD :=
  jX9_clears_L2  FU (0 : Int32) h
def jX9_laysAside  (h : HD) : Option HD :=
  (jX9_copiesRow (7, 0, 2) (0 : Int32) (7, 0, 4) (0 : Int32) h).bind fun q1 =>
  (jX9_copiesNames (7, 0, 7) (0 : Int32) (7, 0, 9) (0 : Int32) q1).bind fun q2 =>
  some q2
def jX9_goesBack  (h : HD) : Option HD :=
  (jX9_copiesRow (7, 0, 4) (0 : Int32) (7, 0, 2) (0 : Int32) h).bind fun q1 =>
  (jX9_copiesNames (7, 0, 9) (0 : Int32) (7, 0, 7) (0 : Int32) q1).bind fun q2 =>
  some q2
def jX9_keeps_L21 (k53 : HD → Option HD) : Nat → Int32 → HD → Option HD
  | 0, _, _ => none
  | n21 + 1, x1, h => (if ((13 : Int32) * (gI h (7, 0, 0) 23)) ≤ x1 then k53 h else if inB (x1 + (13 : Int32)) 78 = true then if inB x1 78 = true then lt (sI h (7, 0, 6) x1.toNatClampNeg (gI h (7, 0, 6) (x1 + (13 : Int32)).toNatClampNeg)) fun h6 =>
  jX9_keeps_L21 k53 n21 (x1 + 1) h6 else none else none)
def jX9_keeps_L55 (k87 : HD → Option HD) : Nat → Int32 → HD → Option HD
  | 0, _, _ => none
  | n55 + 1, x1, h => (if ((11 : Int32) * (gI h (7, 0, 0) 23)) ≤ x1 then k87 h else if inB (x1 + (11 : Int32)) 66 = true then if inB x1 66 = true then lt (sJ h (7, 0, 11) x1.toNatClampNeg (gJ h (7, 0, 11) (x1 + (11 : Int32)).toNatClampNeg)) fun h10 =>
  jX9_keeps_L55 k87 n55 (x1 + 1) h10 else none else none)
def jX9_keeps  (h : HD) : Option HD :=
  (if (gI h (7, 0, 0) 23) = (6 : Int32) then lt (sI h (7, 0, 0) 23 ((gI h (7, 0, 0) 23) - (1 : Int32))) fun h4 =>
  jX9_keeps_L21 (fun h8 => jX9_keeps_L55 (fun h12 => (jX9_copiesRow (7, 0, 4) (0 : Int32) (7, 0, 6) ((13 : Int32) * (gI h12 (7, 0, 0) 23)) h12).bind fun q13 =>
  (jX9_copiesNames (7, 0, 9) (0 : Int32) (7, 0, 11) ((11 : Int32) * (gI q13 (7, 0, 0) 23)) q13).bind fun q14 =>
  lt (sI q14 (7, 0, 0) 23 ((gI q14 (7, 0, 0) 23) + (1 : Int32))) fun h15 =>
  some h15) FU (0 : Int32) h8) FU (0 : Int32) h4 else (jX9_copiesRow (7, 0, 4) (0 : Int32) (7, 0, 6) ((13 : Int32) * (gI h (7, 0, 0) 23)) h).bind fun q1 =>
  (jX9_copiesNames (7, 0, 9) (0 : Int32) (7, 0, 11) ((11 : Int32) * (gI q1 (7, 0, 0) 23)) q1).bind fun q2 =>
  lt (sI q2 (7, 0, 0) 23 ((gI q2 (7, 0, 0) 23) + (1 : Int32))) fun h3 =>
  some h3)
def jX9_kept (p1 : Int32) (h : HD) : Option (Int32 × HD) :=
  (jX9_keeps h).bind fun q1 =>
  some (p1, q1)
def jX9_undo  (h : HD) : Option (Int32 × HD) :=
  lt (sI h (7, 0, 0) 0 (0 : Int32)) fun h1 =>
  (if (gI h1 (7, 0, 0) 23) = 0 then some ((-1 : Int32), h1) else lt (sI h1 (7, 0, 0) 23 ((gI h1 (7, 0, 0) 23) - (1 : Int32))) fun h2 =>
  (jX9_copiesRow (7, 0, 6) ((13 : Int32) * (gI h2 (7, 0, 0) 23)) (7, 0, 2) (0 : Int32) h2).bind fun q3 =>
  (jX9_copiesNames (7, 0, 11) ((11 : Int32) * (gI q3 (7, 0, 0) 23)) (7, 0, 7) (0 : Int32) q3).bind fun q4 =>
  lt (sI q4 (7, 0, 12) 4 ((gI q4 (7, 0, 12) 4) + (1 : Int32))) fun h5 =>
  some (gI h5 (7, 0, 0) 23, h5))
def jX9_save  (h : HD) : Option (Int32 × HD) :=
  lt (sI h (7, 0, 0) 0 (0 : Int32)) fun h1 =>
  (jX9_copiesRow (7, 0, 2) (0 : Int32) (7, 0, 3) (0 : Int32) h1).bind fun q2 =>
  (jX9_copiesNames (7, 0, 7) (0 : Int32) (7, 0, 8) (0 : Int32) q2).bind fun q3 =>
  lt (sI q3 (7, 0, 0) 24 (1 : Int32)) fun h4 =>
  some (gI h4 (7, 0, 2) 0, h4)
def jX9_restore  (h : HD) : Option (Int32 × HD) :=
  (if (gI h (7, 0, 0) 24) = 0 then (jX9_goes false h).bind fun q1 =>
  (if q1.1 = true then (jX9_copiesRow (7, 0, 3) (0 : Int32) (7, 0, 2) (0 : Int32) q1.2).bind fun q2 =>
  (jX9_copiesNames (7, 0, 8) (0 : Int32) (7, 0, 7) (0 : Int32) q2).bind fun q3 =>
  lt (sI q3 (7, 0, 0) 23 (0 : Int32)) fun h4 =>
  some (gI h4 (7, 0, 2) 0, h4) else some ((0 : Int32), q1.2)) else if (gI h (7, 0, 0) 24) = 1 then (jX9_goes true h).bind fun q5 =>
  (if q5.1 = true then (jX9_copiesRow (7, 0, 3) (0 : Int32) (7, 0, 2) (0 : Int32) q5.2).bind fun q6 =>
  (jX9_copiesNames (7, 0, 8) (0 : Int32) (7, 0, 7) (0 : Int32) q6).bind fun q7 =>
  lt (sI q7 (7, 0, 0) 23 (0 : Int32)) fun h8 =>
  some (gI h8 (7, 0, 2) 0, h8) else some ((0 : Int32), q5.2)) else none)
def jX9_laysAway  (h : HD) : Option HD :=
  (jX9_copiesRow (7, 0, 2) (0 : Int32) (7, 0, 5) (0 : Int32) h).bind fun q1 =>
  (jX9_copiesNames (7, 0, 7) (0 : Int32) (7, 0, 10) (0 : Int32) q1).bind fun q2 =>
  some q2
def jX9_fromAway (p1 : Int32) (h : HD) : Option (Int32 × HD) :=
  (jX9_copiesRow (7, 0, 5) (0 : Int32) (7, 0, 2) (0 : Int32) h).bind fun q1 =>
  (jX9_copiesNames (7, 0, 10) (0 : Int32) (7, 0, 7) (0 : Int32) q1).bind fun q2 =>
  some (p1, q2)
def jX9_lesser (p1 : Int32) (p2 : Int32) (h : HD) : Int32 :=
  (if p2 ≤ p1 then p2 else p1)
def jX9_plain (p1 : Int32) (h : HD) : Int32 :=
  (if 0 ≤ p1 then p1 else -p1)
def jX9_refused (p1 : Int32) (h : HD) : Option (Bool × HD) :=
  (if p1 = 0 then some (false, h) else lt (sI h (7, 0, 0) 26 p1) fun h1 =>
  lt (sI h1 (7, 0, 12) 1 ((gI h1 (7, 0, 12) 1) + (1 : Int32))) fun h2 =>
  some (true, h2))
def jX9_acted (p1 : Int32) (h : HD) : Option (Int32 × HD) :=
  lt (sI h (7, 0, 12) 0 ((gI h (7, 0, 12) 0) + (1 : Int32))) fun h1 =>
  some (p1, h1)
def jX9_refusal  (h : HD) : Option (Int32 × HD) :=
  lt (sI h (7, 0, 0) 0 (0 : Int32)) fun h1 =>
  some (gI h1 (7, 0, 0) 26, h1)
def jX9_account (p1 : Int32) (h : HD) : Option (Int32 × HD) :=
  (jX9_goes (jX9_isIn p1.toInt64 (0 : Int64) (4 : Int64) h) h).bind fun q1 =>
  (if q1.1 = true then if inB p1 5 = true then some (gI q1.2 (7, 0, 12) p1.toNatClampNeg, q1.2) else none else some ((0 : Int32), q1.2))
def jX9_spots  (h : HD) : Option Int32 :=
  some ((gI h (7, 0, 2) 0) + (1 : Int32))
def jX9_wishOf (p1 : Int32) (h : HD) : Option Int32 :=
  if inB ((2 : Int32) + p1) 13 = true then some (gI h (7, 0, 2) ((2 : Int32) + p1).toNatClampNeg) else none
def jX9_isCar (p1 : Int32) (h : HD) : Option Bool :=
  some (jX9_isIn p1.toInt64 (0 : Int64) (((gI h (7, 0, 2) 0) - (1 : Int32)).toInt64) h)
def jX9_isSpot (p1 : Int32) (h : HD) : Option Bool :=
  some (jX9_isIn p1.toInt64 (0 : Int64) ((gI h (7, 0, 2) 0).toInt64) h)
def jX9_round (p1 : Int32) (h : HD) : Option Int32 :=
  (jX9_spots h).bind fun q1 =>
  if q1 = 0 then none else (if 0 ≤ (p1 - p1 / q1 * q1) then some (p1 - p1 / q1 * q1) else (jX9_spots h).bind fun q3 =>
  some ((p1 - p1 / q1 * q1) + q3))
def jX9_movedBy_L14 (p1 : Int32) (h : HD) (k49 : Option Int32) : Nat → Int32 → Option Int32
  | 0, _ => none
  | n14 + 1, x2 => (if (gI h (7, 0, 2) 1) < x2 then k49 else (jX9_round (p1 - x2) h).bind fun q2 =>
  if inB q2 12 = true then (if (gI h (7, 0, 13) q2.toNatClampNeg) = (-1 : Int32) then some (-x2) else jX9_movedBy_L14 p1 h k49 n14 (x2 + 1)) else none)
def jX9_movedBy_L51 (p1 : Int32) (h : HD) : Nat → Int32 → Option Int32
  | 0, _ => none
  | n51 + 1, x2 => (jX9_round (p1 + x2) h).bind fun q4 =>
  if inB q4 12 = true then (if (gI h (7, 0, 13) q4.toNatClampNeg) = (-1 : Int32) then some x2 else jX9_movedBy_L51 p1 h n51 (x2 + 1)) else none
def jX9_movedBy (p1 : Int32) (h : HD) : Option Int32 :=
  if inB p1 12 = true then (if (gI h (7, 0, 13) p1.toNatClampNeg) = (-1 : Int32) then some (0 : Int32) else jX9_movedBy_L14 p1 h (jX9_movedBy_L51 p1 h FU (1 : Int32)) FU (1 : Int32)) else none
def jX9_parks_L2 (p1 : Int32) (k23 : HD → Option HD) : Nat → Int32 → HD → Option HD
  | 0, _, _ => none
  | n2 + 1, x2, h => (jX9_spots h).bind fun q1 =>
  (if q1 ≤ x2 then k23 h else if inB x2 12 = true then lt (sI h (7, 0, 13) x2.toNatClampNeg (-1 : Int32)) fun h2 =>
  jX9_parks_L2 p1 k23 n2 (x2 + 1) h2 else none)
def jX9_parks_L25 (p1 : Int32) : Nat → Int32 → HD → Option HD
  | 0, _, _ => none
  | n25 + 1, x2, h => (if p1 ≤ x2 then some h else (jX9_wishOf x2 h).bind fun q5 =>
  (jX9_movedBy q5 h).bind fun q6 =>
  if inB x2 11 = true then lt (sI h (7, 0, 15) x2.toNatClampNeg q6) fun h7 =>
  (jX9_wishOf x2 h7).bind fun q9 =>
  (jX9_round (q9 + q6) h7).bind fun q10 =>
  if inB x2 11 = true then lt (sI h7 (7, 0, 14) x2.toNatClampNeg q10) fun h11 =>
  if inB x2 11 = true then if inB (gI h11 (7, 0, 14) x2.toNatClampNeg) 12 = true then lt (sI h11 (7, 0, 13) ((gI h11 (7, 0, 14) x2.toNatClampNeg).toNatClampNeg) x2) fun h14 =>
  jX9_parks_L25 p1 n25 (x2 + 1) h14 else none else none else none else none)
def jX9_parks (p1 : Int32) (h : HD) : Option HD :=
  jX9_parks_L2 p1 (fun h4 => jX9_parks_L25 p1 FU (0 : Int32) h4) FU (0 : Int32) h
def jX9_gapSpot_L2 (h : HD) : Nat → Int32 → Option Int32
  | 0, _ => none
  | n2 + 1, x1 => if inB x1 12 = true then (if (gI h (7, 0, 13) x1.toNatClampNeg) = (-1 : Int32) then some x1 else jX9_gapSpot_L2 h n2 (x1 + 1)) else none
def jX9_gapSpot  (h : HD) : Option Int32 :=
  jX9_gapSpot_L2 h FU (0 : Int32)
def jX9_turnNow  (h : HD) : Option Int32 :=
  (jX9_gapSpot h).bind fun q1 =>
  some ((gI h (7, 0, 2) 0) - q1)
def jX9_turnedWish (p1 : Int32) (p2 : Int32) (h : HD) : Option Int32 :=
  (jX9_wishOf p1 h).bind fun q1 =>
  (jX9_round (q1 + p2) h).bind fun q2 =>
  some q2
def jX9_lineFor_L14 (p1 : Int32) (h : HD) (k51 : Option Int32) : Nat → Int32 → Option Int32
  | 0, _ => none
  | n14 + 1, x2 => (if (gI h (7, 0, 2) 1) < x2 then k51 else (if p1 < x2 then k51 else if inB (p1 - x2) 12 = true then (if (gI h (7, 0, 16) (p1 - x2).toNatClampNeg) = (-1 : Int32) then some (p1 - x2) else jX9_lineFor_L14 p1 h k51 n14 (x2 + 1)) else none))
def jX9_lineFor_L53 (p1 : Int32) (h : HD) : Nat → Int32 → Option Int32
  | 0, _ => none
  | n53 + 1, x2 => if inB x2 12 = true then (if (gI h (7, 0, 16) x2.toNatClampNeg) = (-1 : Int32) then some x2 else jX9_lineFor_L53 p1 h n53 (x2 + 1)) else none
def jX9_lineFor (p1 : Int32) (h : HD) : Option Int32 :=
  if inB p1 12 = true then (if (gI h (7, 0, 16) p1.toNatClampNeg) = (-1 : Int32) then some p1 else jX9_lineFor_L14 p1 h (jX9_lineFor_L53 p1 h FU p1) FU (1 : Int32)) else none
def jX9_parksByLine_L17 (x1 : Int32) (k38 : HD → Option HD) : Nat → Int32 → HD → Option HD
  | 0, _, _ => none
  | n17 + 1, x2, h => (jX9_spots h).bind fun q3 =>
  (if q3 ≤ x2 then k38 h else if inB x2 12 = true then lt (sI h (7, 0, 16) x2.toNatClampNeg (-1 : Int32)) fun h4 =>
  jX9_parksByLine_L17 x1 k38 n17 (x2 + 1) h4 else none)
def jX9_parksByLine_L40 (x1 : Int32) : Nat → Int32 → HD → Option HD
  | 0, _, _ => none
  | n40 + 1, x2, h => (if (gI h (7, 0, 2) 0) ≤ x2 then some h else (jX9_turnedWish x2 x1 h).bind fun q7 =>
  (jX9_lineFor q7 h).bind fun q8 =>
  if inB q8 12 = true then lt (sI h (7, 0, 16) q8.toNatClampNeg x2) fun h9 =>
  (jX9_round (q8 - x1) h9).bind fun q11 =>
  if inB x2 11 = true then lt (sI h9 (7, 0, 17) x2.toNatClampNeg q11) fun h12 =>
  jX9_parksByLine_L40 x1 n40 (x2 + 1) h12 else none else none)
def jX9_parksByLine  (h : HD) : Option HD :=
  (jX9_parks (gI h (7, 0, 2) 0) h).bind fun q1 =>
  (jX9_turnNow q1).bind fun q2 =>
  jX9_parksByLine_L17 q2 (fun h6 => jX9_parksByLine_L40 q2 FU (0 : Int32) h6) FU (0 : Int32) q1
def jX9_luckyMany_L4 (h : HD) : Nat → Int32 → Int32 → Option Int32
  | 0, _, _ => none
  | n4 + 1, x1, x2 => (if (gI h (7, 0, 2) 0) ≤ x2 then some x1 else if inB x2 11 = true then (if (gI h (7, 0, 15) x2.toNatClampNeg) = 0 then jX9_luckyMany_L4 h n4 (x1 + (jX9_truth true h)) (x2 + 1) else jX9_luckyMany_L4 h n4 (x1 + (jX9_truth false h)) (x2 + 1)) else none)
def jX9_luckyMany  (h : HD) : Option Int32 :=
  jX9_luckyMany_L4 h FU (0 : Int32) (0 : Int32)
def jX9_area_L4 (h : HD) : Nat → Int32 → Int32 → Option Int32
  | 0, _, _ => none
  | n4 + 1, x1, x2 => (if (gI h (7, 0, 2) 0) ≤ x2 then some x1 else if inB x2 11 = true then jX9_area_L4 h n4 (x1 + (gI h (7, 0, 15) x2.toNatClampNeg)) (x2 + 1) else none)
def jX9_area  (h : HD) : Option Int32 :=
  jX9_area_L4 h FU (0 : Int32) (0 : Int32)
def jX9_way_L4 (h : HD) : Nat → Int32 → Int32 → Option Int32
  | 0, _, _ => none
  | n4 + 1, x1, x2 => (if (gI h (7, 0, 2) 0) ≤ x2 then some x1 else if inB x2 11 = true then jX9_way_L4 h n4 (x1 + (jX9_plain (gI h (7, 0, 15) x2.toNatClampNeg) h)) (x2 + 1) else none)
def jX9_way  (h : HD) : Option Int32 :=
  jX9_way_L4 h FU (0 : Int32) (0 : Int32)
def jX9_isBreak_L10 (p1 : Int32) (x2 : Int32) (h : HD) (k49 : Int32 → Option Bool) : Nat → Int32 → Int32 → Option Bool
  | 0, _, _ => none
  | n10 + 1, x3, x4 => (if (gI h (7, 0, 2) 0) ≤ x4 then k49 x3 else (jX9_turnedWish x4 x2 h).bind fun q2 =>
  (if p1 ≤ q2 then jX9_isBreak_L10 p1 x2 h k49 n10 (x3 + (jX9_truth false h)) (x4 + 1) else jX9_isBreak_L10 p1 x2 h k49 n10 (x3 + (jX9_truth true h)) (x4 + 1)))
def jX9_isBreak (p1 : Int32) (h : HD) : Option Bool :=
  (jX9_turnNow h).bind fun q1 =>
  jX9_isBreak_L10 p1 q1 h (fun y10_3 => (if y10_3 = p1 then some true else some false)) FU (0 : Int32) (0 : Int32)
def jX9_breaks_L4 (h : HD) : Nat → Int32 → Int32 → Option Int32
  | 0, _, _ => none
  | n4 + 1, x1, x2 => (if (gI h (7, 0, 2) 0) < x2 then some x1 else (jX9_isBreak x2 h).bind fun q1 =>
  jX9_breaks_L4 h n4 (x1 + (jX9_truth q1 h)) (x2 + 1))
def jX9_breaks  (h : HD) : Option Int32 :=
  jX9_breaks_L4 h FU (0 : Int32) (1 : Int32)
def jX9_wants_L4 (p1 : Int32) (h : HD) : Nat → Int32 → Int32 → Option Int32
  | 0, _, _ => none
  | n4 + 1, x2, x3 => (if (gI h (7, 0, 2) 0) ≤ x3 then some x2 else (jX9_wishOf x3 h).bind fun q1 =>
  (if q1 = p1 then jX9_wants_L4 p1 h n4 (x2 + (jX9_truth true h)) (x3 + 1) else jX9_wants_L4 p1 h n4 (x2 + (jX9_truth false h)) (x3 + 1)))
def jX9_wants (p1 : Int32) (h : HD) : Option Int32 :=
  jX9_wants_L4 p1 h FU (0 : Int32) (0 : Int32)
def jX9_preferred_L4 (h : HD) : Nat → Int32 → Int32 → Option Int32
  | 0, _, _ => none
  | n4 + 1, x1, x2 => (jX9_spots h).bind fun q1 =>
  (if q1 ≤ x2 then some x1 else (jX9_wants x2 h).bind fun q2 =>
  (if q2 ≤ 0 then jX9_preferred_L4 h n4 (x1 + (jX9_truth false h)) (x2 + 1) else jX9_preferred_L4 h n4 (x1 + (jX9_truth true h)) (x2 + 1)))
def jX9_preferred  (h : HD) : Option Int32 :=
  jX9_preferred_L4 h FU (0 : Int32) (0 : Int32)
def jX9_isTakenBy (p1 : Int32) (p2 : Int32) (h : HD) : Option Bool :=
  if inB p1 12 = true then some (jX9_isIn ((gI h (7, 0, 13) p1.toNatClampNeg).toInt64) (0 : Int64) p2.toInt64 h) else none
def jX9_runOf_L2 (p1 : Int32) (h : HD) : Nat → Int32 → Option Int32
  | 0, _ => none
  | n2 + 1, x2 => (if (gI h (7, 0, 2) 0) ≤ x2 then some x2 else if inB p1 11 = true then (jX9_round ((gI h (7, 0, 14) p1.toNatClampNeg) - x2) h).bind fun q2 =>
  (jX9_isTakenBy q2 p1 h).bind fun q3 =>
  (if q3 = true then jX9_runOf_L2 p1 h n2 (x2 + 1) else some x2) else none)
def jX9_runOf (p1 : Int32) (h : HD) : Option Int32 :=
  jX9_runOf_L2 p1 h FU (0 : Int32)
def jX9_carNamed_L2 (p1 : Int64) (h : HD) : Nat → Int32 → Option Int32
  | 0, _ => none
  | n2 + 1, x3 => (if (gI h (7, 0, 2) 0) ≤ x3 then some (-1 : Int32) else if inB x3 11 = true then (if (lg_cmp (gJ h (7, 0, 7) x3.toNatClampNeg) p1) = 0 then some x3 else jX9_carNamed_L2 p1 h n2 (x3 + 1)) else none)
def jX9_carNamed (p1 : Int64) (h : HD) : Option Int32 :=
  jX9_carNamed_L2 p1 h FU (0 : Int32)
def jX9_mustName  (h : HD) : Option HD :=
  (if (jX9_isGood h) = true then (if (gI h (7, 0, 0) 6) = (1 : Int32) then some h else (jX9_wrong (1 : Int32) h).bind fun q1 =>
  some q1) else some h)
def jX9_nameHere  (h : HD) : Option (Int64 × HD) :=
  (jX9_mustName h).bind fun q1 =>
  (if (jX9_isGood q1) = true then (jX9_goOnRead q1).bind fun q2 =>
  some (gJ q1 (7, 0, 0) 12, q2) else some (gJ q1 (7, 0, 0) 12, q1))
def jX9_carLine (p1 : Int32) (h : HD) : Option HD :=
  (if (jX9_isGood h) = true then (if (jX9_isWord (3122 : Int64) h) = true then (if (jX9_isGood h) = true then (if (gI h (7, 0, 2) 0) = p1 then (jX9_wrong (5 : Int32) h).bind fun q247 =>
  (if (jX9_isGood q247) = true then (jX9_goOnRead q247).bind fun q272 =>
  (jX9_mustName q272).bind fun q273 =>
  (if (jX9_isGood q273) = true then (jX9_carNamed (gJ q273 (7, 0, 0) 12) q273).bind fun q281 =>
  (if q281 = (-1 : Int32) then (jX9_nameHere q273).bind fun q282 =>
  (jX9_number (0 : Int32) p1 q282.2).bind fun q283 =>
  (if (jX9_isGood q283.2) = true then if inB (gI q283.2 (7, 0, 2) 0) 11 = true then lt (sJ q283.2 (7, 0, 7) ((gI q283.2 (7, 0, 2) 0).toNatClampNeg) q282.1) fun h284 =>
  if inB ((2 : Int32) + (gI h284 (7, 0, 2) 0)) 13 = true then lt (sI h284 (7, 0, 2) (((2 : Int32) + (gI h284 (7, 0, 2) 0)).toNatClampNeg) q283.1) fun h286 =>
  lt (sI h286 (7, 0, 2) 0 ((gI h286 (7, 0, 2) 0) + (1 : Int32))) fun h288 =>
  some h288 else none else none else some q283.2) else (jX9_wrong (3 : Int32) q273).bind fun q289 =>
  (jX9_nameHere q289).bind fun q290 =>
  (jX9_number (0 : Int32) p1 q290.2).bind fun q291 =>
  (if (jX9_isGood q291.2) = true then if inB (gI q291.2 (7, 0, 2) 0) 11 = true then lt (sJ q291.2 (7, 0, 7) ((gI q291.2 (7, 0, 2) 0).toNatClampNeg) q290.1) fun h292 =>
  if inB ((2 : Int32) + (gI h292 (7, 0, 2) 0)) 13 = true then lt (sI h292 (7, 0, 2) (((2 : Int32) + (gI h292 (7, 0, 2) 0)).toNatClampNeg) q291.1) fun h294 =>
  lt (sI h294 (7, 0, 2) 0 ((gI h294 (7, 0, 2) 0) + (1 : Int32))) fun h296 =>
  some h296 else none else none else some q291.2)) else (jX9_nameHere q273).bind fun q274 =>
  (jX9_number (0 : Int32) p1 q274.2).bind fun q275 =>
  (if (jX9_isGood q275.2) = true then if inB (gI q275.2 (7, 0, 2) 0) 11 = true then lt (sJ q275.2 (7, 0, 7) ((gI q275.2 (7, 0, 2) 0).toNatClampNeg) q274.1) fun h276 =>
  if inB ((2 : Int32) + (gI h276 (7, 0, 2) 0)) 13 = true then lt (sI h276 (7, 0, 2) (((2 : Int32) + (gI h276 (7, 0, 2) 0)).toNatClampNeg) q275.1) fun h278 =>
  lt (sI h278 (7, 0, 2) 0 ((gI h278 (7, 0, 2) 0) + (1 : Int32))) fun h280 =>
  some h280 else none else none else some q275.2)) else (jX9_mustName q247).bind fun q248 =>
  (if (jX9_isGood q248) = true then (jX9_carNamed (gJ q248 (7, 0, 0) 12) q248).bind fun q256 =>
  (if q256 = (-1 : Int32) then (jX9_nameHere q248).bind fun q257 =>
  (jX9_number (0 : Int32) p1 q257.2).bind fun q258 =>
  (if (jX9_isGood q258.2) = true then if inB (gI q258.2 (7, 0, 2) 0) 11 = true then lt (sJ q258.2 (7, 0, 7) ((gI q258.2 (7, 0, 2) 0).toNatClampNeg) q257.1) fun h259 =>
  if inB ((2 : Int32) + (gI h259 (7, 0, 2) 0)) 13 = true then lt (sI h259 (7, 0, 2) (((2 : Int32) + (gI h259 (7, 0, 2) 0)).toNatClampNeg) q258.1) fun h261 =>
  lt (sI h261 (7, 0, 2) 0 ((gI h261 (7, 0, 2) 0) + (1 : Int32))) fun h263 =>
  some h263 else none else none else some q258.2) else (jX9_wrong (3 : Int32) q248).bind fun q264 =>
  (jX9_nameHere q264).bind fun q265 =>
  (jX9_number (0 : Int32) p1 q265.2).bind fun q266 =>
  (if (jX9_isGood q266.2) = true then if inB (gI q266.2 (7, 0, 2) 0) 11 = true then lt (sJ q266.2 (7, 0, 7) ((gI q266.2 (7, 0, 2) 0).toNatClampNeg) q265.1) fun h267 =>
  if inB ((2 : Int32) + (gI h267 (7, 0, 2) 0)) 13 = true then lt (sI h267 (7, 0, 2) (((2 : Int32) + (gI h267 (7, 0, 2) 0)).toNatClampNeg) q266.1) fun h269 =>
  lt (sI h269 (7, 0, 2) 0 ((gI h269 (7, 0, 2) 0) + (1 : Int32))) fun h271 =>
  some h271 else none else none else some q266.2)) else (jX9_nameHere q248).bind fun q249 =>
  (jX9_number (0 : Int32) p1 q249.2).bind fun q250 =>
  (if (jX9_isGood q250.2) = true then if inB (gI q250.2 (7, 0, 2) 0) 11 = true then lt (sJ q250.2 (7, 0, 7) ((gI q250.2 (7, 0, 2) 0).toNatClampNeg) q249.1) fun h251 =>
  if inB ((2 : Int32) + (gI h251 (7, 0, 2) 0)) 13 = true then lt (sI h251 (7, 0, 2) (((2 : Int32) + (gI h251 (7, 0, 2) 0)).toNatClampNeg) q250.1) fun h253 =>
  lt (sI h253 (7, 0, 2) 0 ((gI h253 (7, 0, 2) 0) + (1 : Int32))) fun h255 =>
  some h255 else none else none else some q250.2))) else (if (jX9_isGood h) = true then (jX9_goOnRead h).bind fun q222 =>
  (jX9_mustName q222).bind fun q223 =>
  (if (jX9_isGood q223) = true then (jX9_carNamed (gJ q223 (7, 0, 0) 12) q223).bind fun q231 =>
  (if q231 = (-1 : Int32) then (jX9_nameHere q223).bind fun q232 =>
  (jX9_number (0 : Int32) p1 q232.2).bind fun q233 =>
  (if (jX9_isGood q233.2) = true then if inB (gI q233.2 (7, 0, 2) 0) 11 = true then lt (sJ q233.2 (7, 0, 7) ((gI q233.2 (7, 0, 2) 0).toNatClampNeg) q232.1) fun h234 =>
  if inB ((2 : Int32) + (gI h234 (7, 0, 2) 0)) 13 = true then lt (sI h234 (7, 0, 2) (((2 : Int32) + (gI h234 (7, 0, 2) 0)).toNatClampNeg) q233.1) fun h236 =>
  lt (sI h236 (7, 0, 2) 0 ((gI h236 (7, 0, 2) 0) + (1 : Int32))) fun h238 =>
  some h238 else none else none else some q233.2) else (jX9_wrong (3 : Int32) q223).bind fun q239 =>
  (jX9_nameHere q239).bind fun q240 =>
  (jX9_number (0 : Int32) p1 q240.2).bind fun q241 =>
  (if (jX9_isGood q241.2) = true then if inB (gI q241.2 (7, 0, 2) 0) 11 = true then lt (sJ q241.2 (7, 0, 7) ((gI q241.2 (7, 0, 2) 0).toNatClampNeg) q240.1) fun h242 =>
  if inB ((2 : Int32) + (gI h242 (7, 0, 2) 0)) 13 = true then lt (sI h242 (7, 0, 2) (((2 : Int32) + (gI h242 (7, 0, 2) 0)).toNatClampNeg) q241.1) fun h244 =>
  lt (sI h244 (7, 0, 2) 0 ((gI h244 (7, 0, 2) 0) + (1 : Int32))) fun h246 =>
  some h246 else none else none else some q241.2)) else (jX9_nameHere q223).bind fun q224 =>
  (jX9_number (0 : Int32) p1 q224.2).bind fun q225 =>
  (if (jX9_isGood q225.2) = true then if inB (gI q225.2 (7, 0, 2) 0) 11 = true then lt (sJ q225.2 (7, 0, 7) ((gI q225.2 (7, 0, 2) 0).toNatClampNeg) q224.1) fun h226 =>
  if inB ((2 : Int32) + (gI h226 (7, 0, 2) 0)) 13 = true then lt (sI h226 (7, 0, 2) (((2 : Int32) + (gI h226 (7, 0, 2) 0)).toNatClampNeg) q225.1) fun h228 =>
  lt (sI h228 (7, 0, 2) 0 ((gI h228 (7, 0, 2) 0) + (1 : Int32))) fun h230 =>
  some h230 else none else none else some q225.2)) else (jX9_mustName h).bind fun q198 =>
  (if (jX9_isGood q198) = true then (jX9_carNamed (gJ q198 (7, 0, 0) 12) q198).bind fun q206 =>
  (if q206 = (-1 : Int32) then (jX9_nameHere q198).bind fun q207 =>
  (jX9_number (0 : Int32) p1 q207.2).bind fun q208 =>
  (if (jX9_isGood q208.2) = true then if inB (gI q208.2 (7, 0, 2) 0) 11 = true then lt (sJ q208.2 (7, 0, 7) ((gI q208.2 (7, 0, 2) 0).toNatClampNeg) q207.1) fun h209 =>
  if inB ((2 : Int32) + (gI h209 (7, 0, 2) 0)) 13 = true then lt (sI h209 (7, 0, 2) (((2 : Int32) + (gI h209 (7, 0, 2) 0)).toNatClampNeg) q208.1) fun h211 =>
  lt (sI h211 (7, 0, 2) 0 ((gI h211 (7, 0, 2) 0) + (1 : Int32))) fun h213 =>
  some h213 else none else none else some q208.2) else (jX9_wrong (3 : Int32) q198).bind fun q214 =>
  (jX9_nameHere q214).bind fun q215 =>
  (jX9_number (0 : Int32) p1 q215.2).bind fun q216 =>
  (if (jX9_isGood q216.2) = true then if inB (gI q216.2 (7, 0, 2) 0) 11 = true then lt (sJ q216.2 (7, 0, 7) ((gI q216.2 (7, 0, 2) 0).toNatClampNeg) q215.1) fun h217 =>
  if inB ((2 : Int32) + (gI h217 (7, 0, 2) 0)) 13 = true then lt (sI h217 (7, 0, 2) (((2 : Int32) + (gI h217 (7, 0, 2) 0)).toNatClampNeg) q216.1) fun h219 =>
  lt (sI h219 (7, 0, 2) 0 ((gI h219 (7, 0, 2) 0) + (1 : Int32))) fun h221 =>
  some h221 else none else none else some q216.2)) else (jX9_nameHere q198).bind fun q199 =>
  (jX9_number (0 : Int32) p1 q199.2).bind fun q200 =>
  (if (jX9_isGood q200.2) = true then if inB (gI q200.2 (7, 0, 2) 0) 11 = true then lt (sJ q200.2 (7, 0, 7) ((gI q200.2 (7, 0, 2) 0).toNatClampNeg) q199.1) fun h201 =>
  if inB ((2 : Int32) + (gI h201 (7, 0, 2) 0)) 13 = true then lt (sI h201 (7, 0, 2) (((2 : Int32) + (gI h201 (7, 0, 2) 0)).toNatClampNeg) q200.1) fun h203 =>
  lt (sI h203 (7, 0, 2) 0 ((gI h203 (7, 0, 2) 0) + (1 : Int32))) fun h205 =>
  some h205 else none else none else some q200.2)))) else (if (jX9_isGood h) = true then (jX9_goOnRead h).bind fun q173 =>
  (jX9_mustName q173).bind fun q174 =>
  (if (jX9_isGood q174) = true then (jX9_carNamed (gJ q174 (7, 0, 0) 12) q174).bind fun q182 =>
  (if q182 = (-1 : Int32) then (jX9_nameHere q174).bind fun q183 =>
  (jX9_number (0 : Int32) p1 q183.2).bind fun q184 =>
  (if (jX9_isGood q184.2) = true then if inB (gI q184.2 (7, 0, 2) 0) 11 = true then lt (sJ q184.2 (7, 0, 7) ((gI q184.2 (7, 0, 2) 0).toNatClampNeg) q183.1) fun h185 =>
  if inB ((2 : Int32) + (gI h185 (7, 0, 2) 0)) 13 = true then lt (sI h185 (7, 0, 2) (((2 : Int32) + (gI h185 (7, 0, 2) 0)).toNatClampNeg) q184.1) fun h187 =>
  lt (sI h187 (7, 0, 2) 0 ((gI h187 (7, 0, 2) 0) + (1 : Int32))) fun h189 =>
  some h189 else none else none else some q184.2) else (jX9_wrong (3 : Int32) q174).bind fun q190 =>
  (jX9_nameHere q190).bind fun q191 =>
  (jX9_number (0 : Int32) p1 q191.2).bind fun q192 =>
  (if (jX9_isGood q192.2) = true then if inB (gI q192.2 (7, 0, 2) 0) 11 = true then lt (sJ q192.2 (7, 0, 7) ((gI q192.2 (7, 0, 2) 0).toNatClampNeg) q191.1) fun h193 =>
  if inB ((2 : Int32) + (gI h193 (7, 0, 2) 0)) 13 = true then lt (sI h193 (7, 0, 2) (((2 : Int32) + (gI h193 (7, 0, 2) 0)).toNatClampNeg) q192.1) fun h195 =>
  lt (sI h195 (7, 0, 2) 0 ((gI h195 (7, 0, 2) 0) + (1 : Int32))) fun h197 =>
  some h197 else none else none else some q192.2)) else (jX9_nameHere q174).bind fun q175 =>
  (jX9_number (0 : Int32) p1 q175.2).bind fun q176 =>
  (if (jX9_isGood q176.2) = true then if inB (gI q176.2 (7, 0, 2) 0) 11 = true then lt (sJ q176.2 (7, 0, 7) ((gI q176.2 (7, 0, 2) 0).toNatClampNeg) q175.1) fun h177 =>
  if inB ((2 : Int32) + (gI h177 (7, 0, 2) 0)) 13 = true then lt (sI h177 (7, 0, 2) (((2 : Int32) + (gI h177 (7, 0, 2) 0)).toNatClampNeg) q176.1) fun h179 =>
  lt (sI h179 (7, 0, 2) 0 ((gI h179 (7, 0, 2) 0) + (1 : Int32))) fun h181 =>
  some h181 else none else none else some q176.2)) else (jX9_mustName h).bind fun q149 =>
  (if (jX9_isGood q149) = true then (jX9_carNamed (gJ q149 (7, 0, 0) 12) q149).bind fun q157 =>
  (if q157 = (-1 : Int32) then (jX9_nameHere q149).bind fun q158 =>
  (jX9_number (0 : Int32) p1 q158.2).bind fun q159 =>
  (if (jX9_isGood q159.2) = true then if inB (gI q159.2 (7, 0, 2) 0) 11 = true then lt (sJ q159.2 (7, 0, 7) ((gI q159.2 (7, 0, 2) 0).toNatClampNeg) q158.1) fun h160 =>
  if inB ((2 : Int32) + (gI h160 (7, 0, 2) 0)) 13 = true then lt (sI h160 (7, 0, 2) (((2 : Int32) + (gI h160 (7, 0, 2) 0)).toNatClampNeg) q159.1) fun h162 =>
  lt (sI h162 (7, 0, 2) 0 ((gI h162 (7, 0, 2) 0) + (1 : Int32))) fun h164 =>
  some h164 else none else none else some q159.2) else (jX9_wrong (3 : Int32) q149).bind fun q165 =>
  (jX9_nameHere q165).bind fun q166 =>
  (jX9_number (0 : Int32) p1 q166.2).bind fun q167 =>
  (if (jX9_isGood q167.2) = true then if inB (gI q167.2 (7, 0, 2) 0) 11 = true then lt (sJ q167.2 (7, 0, 7) ((gI q167.2 (7, 0, 2) 0).toNatClampNeg) q166.1) fun h168 =>
  if inB ((2 : Int32) + (gI h168 (7, 0, 2) 0)) 13 = true then lt (sI h168 (7, 0, 2) (((2 : Int32) + (gI h168 (7, 0, 2) 0)).toNatClampNeg) q167.1) fun h170 =>
  lt (sI h170 (7, 0, 2) 0 ((gI h170 (7, 0, 2) 0) + (1 : Int32))) fun h172 =>
  some h172 else none else none else some q167.2)) else (jX9_nameHere q149).bind fun q150 =>
  (jX9_number (0 : Int32) p1 q150.2).bind fun q151 =>
  (if (jX9_isGood q151.2) = true then if inB (gI q151.2 (7, 0, 2) 0) 11 = true then lt (sJ q151.2 (7, 0, 7) ((gI q151.2 (7, 0, 2) 0).toNatClampNeg) q150.1) fun h152 =>
  if inB ((2 : Int32) + (gI h152 (7, 0, 2) 0)) 13 = true then lt (sI h152 (7, 0, 2) (((2 : Int32) + (gI h152 (7, 0, 2) 0)).toNatClampNeg) q151.1) fun h154 =>
  lt (sI h154 (7, 0, 2) 0 ((gI h154 (7, 0, 2) 0) + (1 : Int32))) fun h156 =>
  some h156 else none else none else some q151.2)))) else (jX9_wrong (1 : Int32) h).bind fun q297 =>
  (if (jX9_isGood q297) = true then (if (gI q297 (7, 0, 2) 0) = p1 then (jX9_wrong (5 : Int32) q297).bind fun q396 =>
  (if (jX9_isGood q396) = true then (jX9_goOnRead q396).bind fun q421 =>
  (jX9_mustName q421).bind fun q422 =>
  (if (jX9_isGood q422) = true then (jX9_carNamed (gJ q422 (7, 0, 0) 12) q422).bind fun q430 =>
  (if q430 = (-1 : Int32) then (jX9_nameHere q422).bind fun q431 =>
  (jX9_number (0 : Int32) p1 q431.2).bind fun q432 =>
  (if (jX9_isGood q432.2) = true then if inB (gI q432.2 (7, 0, 2) 0) 11 = true then lt (sJ q432.2 (7, 0, 7) ((gI q432.2 (7, 0, 2) 0).toNatClampNeg) q431.1) fun h433 =>
  if inB ((2 : Int32) + (gI h433 (7, 0, 2) 0)) 13 = true then lt (sI h433 (7, 0, 2) (((2 : Int32) + (gI h433 (7, 0, 2) 0)).toNatClampNeg) q432.1) fun h435 =>
  lt (sI h435 (7, 0, 2) 0 ((gI h435 (7, 0, 2) 0) + (1 : Int32))) fun h437 =>
  some h437 else none else none else some q432.2) else (jX9_wrong (3 : Int32) q422).bind fun q438 =>
  (jX9_nameHere q438).bind fun q439 =>
  (jX9_number (0 : Int32) p1 q439.2).bind fun q440 =>
  (if (jX9_isGood q440.2) = true then if inB (gI q440.2 (7, 0, 2) 0) 11 = true then lt (sJ q440.2 (7, 0, 7) ((gI q440.2 (7, 0, 2) 0).toNatClampNeg) q439.1) fun h441 =>
  if inB ((2 : Int32) + (gI h441 (7, 0, 2) 0)) 13 = true then lt (sI h441 (7, 0, 2) (((2 : Int32) + (gI h441 (7, 0, 2) 0)).toNatClampNeg) q440.1) fun h443 =>
  lt (sI h443 (7, 0, 2) 0 ((gI h443 (7, 0, 2) 0) + (1 : Int32))) fun h445 =>
  some h445 else none else none else some q440.2)) else (jX9_nameHere q422).bind fun q423 =>
  (jX9_number (0 : Int32) p1 q423.2).bind fun q424 =>
  (if (jX9_isGood q424.2) = true then if inB (gI q424.2 (7, 0, 2) 0) 11 = true then lt (sJ q424.2 (7, 0, 7) ((gI q424.2 (7, 0, 2) 0).toNatClampNeg) q423.1) fun h425 =>
  if inB ((2 : Int32) + (gI h425 (7, 0, 2) 0)) 13 = true then lt (sI h425 (7, 0, 2) (((2 : Int32) + (gI h425 (7, 0, 2) 0)).toNatClampNeg) q424.1) fun h427 =>
  lt (sI h427 (7, 0, 2) 0 ((gI h427 (7, 0, 2) 0) + (1 : Int32))) fun h429 =>
  some h429 else none else none else some q424.2)) else (jX9_mustName q396).bind fun q397 =>
  (if (jX9_isGood q397) = true then (jX9_carNamed (gJ q397 (7, 0, 0) 12) q397).bind fun q405 =>
  (if q405 = (-1 : Int32) then (jX9_nameHere q397).bind fun q406 =>
  (jX9_number (0 : Int32) p1 q406.2).bind fun q407 =>
  (if (jX9_isGood q407.2) = true then if inB (gI q407.2 (7, 0, 2) 0) 11 = true then lt (sJ q407.2 (7, 0, 7) ((gI q407.2 (7, 0, 2) 0).toNatClampNeg) q406.1) fun h408 =>
  if inB ((2 : Int32) + (gI h408 (7, 0, 2) 0)) 13 = true then lt (sI h408 (7, 0, 2) (((2 : Int32) + (gI h408 (7, 0, 2) 0)).toNatClampNeg) q407.1) fun h410 =>
  lt (sI h410 (7, 0, 2) 0 ((gI h410 (7, 0, 2) 0) + (1 : Int32))) fun h412 =>
  some h412 else none else none else some q407.2) else (jX9_wrong (3 : Int32) q397).bind fun q413 =>
  (jX9_nameHere q413).bind fun q414 =>
  (jX9_number (0 : Int32) p1 q414.2).bind fun q415 =>
  (if (jX9_isGood q415.2) = true then if inB (gI q415.2 (7, 0, 2) 0) 11 = true then lt (sJ q415.2 (7, 0, 7) ((gI q415.2 (7, 0, 2) 0).toNatClampNeg) q414.1) fun h416 =>
  if inB ((2 : Int32) + (gI h416 (7, 0, 2) 0)) 13 = true then lt (sI h416 (7, 0, 2) (((2 : Int32) + (gI h416 (7, 0, 2) 0)).toNatClampNeg) q415.1) fun h418 =>
  lt (sI h418 (7, 0, 2) 0 ((gI h418 (7, 0, 2) 0) + (1 : Int32))) fun h420 =>
  some h420 else none else none else some q415.2)) else (jX9_nameHere q397).bind fun q398 =>
  (jX9_number (0 : Int32) p1 q398.2).bind fun q399 =>
  (if (jX9_isGood q399.2) = true then if inB (gI q399.2 (7, 0, 2) 0) 11 = true then lt (sJ q399.2 (7, 0, 7) ((gI q399.2 (7, 0, 2) 0).toNatClampNeg) q398.1) fun h400 =>
  if inB ((2 : Int32) + (gI h400 (7, 0, 2) 0)) 13 = true then lt (sI h400 (7, 0, 2) (((2 : Int32) + (gI h400 (7, 0, 2) 0)).toNatClampNeg) q399.1) fun h402 =>
  lt (sI h402 (7, 0, 2) 0 ((gI h402 (7, 0, 2) 0) + (1 : Int32))) fun h404 =>
  some h404 else none else none else some q399.2))) else (if (jX9_isGood q297) = true then (jX9_goOnRead q297).bind fun q371 =>
  (jX9_mustName q371).bind fun q372 =>
  (if (jX9_isGood q372) = true then (jX9_carNamed (gJ q372 (7, 0, 0) 12) q372).bind fun q380 =>
  (if q380 = (-1 : Int32) then (jX9_nameHere q372).bind fun q381 =>
  (jX9_number (0 : Int32) p1 q381.2).bind fun q382 =>
  (if (jX9_isGood q382.2) = true then if inB (gI q382.2 (7, 0, 2) 0) 11 = true then lt (sJ q382.2 (7, 0, 7) ((gI q382.2 (7, 0, 2) 0).toNatClampNeg) q381.1) fun h383 =>
  if inB ((2 : Int32) + (gI h383 (7, 0, 2) 0)) 13 = true then lt (sI h383 (7, 0, 2) (((2 : Int32) + (gI h383 (7, 0, 2) 0)).toNatClampNeg) q382.1) fun h385 =>
  lt (sI h385 (7, 0, 2) 0 ((gI h385 (7, 0, 2) 0) + (1 : Int32))) fun h387 =>
  some h387 else none else none else some q382.2) else (jX9_wrong (3 : Int32) q372).bind fun q388 =>
  (jX9_nameHere q388).bind fun q389 =>
  (jX9_number (0 : Int32) p1 q389.2).bind fun q390 =>
  (if (jX9_isGood q390.2) = true then if inB (gI q390.2 (7, 0, 2) 0) 11 = true then lt (sJ q390.2 (7, 0, 7) ((gI q390.2 (7, 0, 2) 0).toNatClampNeg) q389.1) fun h391 =>
  if inB ((2 : Int32) + (gI h391 (7, 0, 2) 0)) 13 = true then lt (sI h391 (7, 0, 2) (((2 : Int32) + (gI h391 (7, 0, 2) 0)).toNatClampNeg) q390.1) fun h393 =>
  lt (sI h393 (7, 0, 2) 0 ((gI h393 (7, 0, 2) 0) + (1 : Int32))) fun h395 =>
  some h395 else none else none else some q390.2)) else (jX9_nameHere q372).bind fun q373 =>
  (jX9_number (0 : Int32) p1 q373.2).bind fun q374 =>
  (if (jX9_isGood q374.2) = true then if inB (gI q374.2 (7, 0, 2) 0) 11 = true then lt (sJ q374.2 (7, 0, 7) ((gI q374.2 (7, 0, 2) 0).toNatClampNeg) q373.1) fun h375 =>
  if inB ((2 : Int32) + (gI h375 (7, 0, 2) 0)) 13 = true then lt (sI h375 (7, 0, 2) (((2 : Int32) + (gI h375 (7, 0, 2) 0)).toNatClampNeg) q374.1) fun h377 =>
  lt (sI h377 (7, 0, 2) 0 ((gI h377 (7, 0, 2) 0) + (1 : Int32))) fun h379 =>
  some h379 else none else none else some q374.2)) else (jX9_mustName q297).bind fun q347 =>
  (if (jX9_isGood q347) = true then (jX9_carNamed (gJ q347 (7, 0, 0) 12) q347).bind fun q355 =>
  (if q355 = (-1 : Int32) then (jX9_nameHere q347).bind fun q356 =>
  (jX9_number (0 : Int32) p1 q356.2).bind fun q357 =>
  (if (jX9_isGood q357.2) = true then if inB (gI q357.2 (7, 0, 2) 0) 11 = true then lt (sJ q357.2 (7, 0, 7) ((gI q357.2 (7, 0, 2) 0).toNatClampNeg) q356.1) fun h358 =>
  if inB ((2 : Int32) + (gI h358 (7, 0, 2) 0)) 13 = true then lt (sI h358 (7, 0, 2) (((2 : Int32) + (gI h358 (7, 0, 2) 0)).toNatClampNeg) q357.1) fun h360 =>
  lt (sI h360 (7, 0, 2) 0 ((gI h360 (7, 0, 2) 0) + (1 : Int32))) fun h362 =>
  some h362 else none else none else some q357.2) else (jX9_wrong (3 : Int32) q347).bind fun q363 =>
  (jX9_nameHere q363).bind fun q364 =>
  (jX9_number (0 : Int32) p1 q364.2).bind fun q365 =>
  (if (jX9_isGood q365.2) = true then if inB (gI q365.2 (7, 0, 2) 0) 11 = true then lt (sJ q365.2 (7, 0, 7) ((gI q365.2 (7, 0, 2) 0).toNatClampNeg) q364.1) fun h366 =>
  if inB ((2 : Int32) + (gI h366 (7, 0, 2) 0)) 13 = true then lt (sI h366 (7, 0, 2) (((2 : Int32) + (gI h366 (7, 0, 2) 0)).toNatClampNeg) q365.1) fun h368 =>
  lt (sI h368 (7, 0, 2) 0 ((gI h368 (7, 0, 2) 0) + (1 : Int32))) fun h370 =>
  some h370 else none else none else some q365.2)) else (jX9_nameHere q347).bind fun q348 =>
  (jX9_number (0 : Int32) p1 q348.2).bind fun q349 =>
  (if (jX9_isGood q349.2) = true then if inB (gI q349.2 (7, 0, 2) 0) 11 = true then lt (sJ q349.2 (7, 0, 7) ((gI q349.2 (7, 0, 2) 0).toNatClampNeg) q348.1) fun h350 =>
  if inB ((2 : Int32) + (gI h350 (7, 0, 2) 0)) 13 = true then lt (sI h350 (7, 0, 2) (((2 : Int32) + (gI h350 (7, 0, 2) 0)).toNatClampNeg) q349.1) fun h352 =>
  lt (sI h352 (7, 0, 2) 0 ((gI h352 (7, 0, 2) 0) + (1 : Int32))) fun h354 =>
  some h354 else none else none else some q349.2)))) else (if (jX9_isGood q297) = true then (jX9_goOnRead q297).bind fun q322 =>
  (jX9_mustName q322).bind fun q323 =>
  (if (jX9_isGood q323) = true then (jX9_carNamed (gJ q323 (7, 0, 0) 12) q323).bind fun q331 =>
  (if q331 = (-1 : Int32) then (jX9_nameHere q323).bind fun q332 =>
  (jX9_number (0 : Int32) p1 q332.2).bind fun q333 =>
  (if (jX9_isGood q333.2) = true then if inB (gI q333.2 (7, 0, 2) 0) 11 = true then lt (sJ q333.2 (7, 0, 7) ((gI q333.2 (7, 0, 2) 0).toNatClampNeg) q332.1) fun h334 =>
  if inB ((2 : Int32) + (gI h334 (7, 0, 2) 0)) 13 = true then lt (sI h334 (7, 0, 2) (((2 : Int32) + (gI h334 (7, 0, 2) 0)).toNatClampNeg) q333.1) fun h336 =>
  lt (sI h336 (7, 0, 2) 0 ((gI h336 (7, 0, 2) 0) + (1 : Int32))) fun h338 =>
  some h338 else none else none else some q333.2) else (jX9_wrong (3 : Int32) q323).bind fun q339 =>
  (jX9_nameHere q339).bind fun q340 =>
  (jX9_number (0 : Int32) p1 q340.2).bind fun q341 =>
  (if (jX9_isGood q341.2) = true then if inB (gI q341.2 (7, 0, 2) 0) 11 = true then lt (sJ q341.2 (7, 0, 7) ((gI q341.2 (7, 0, 2) 0).toNatClampNeg) q340.1) fun h342 =>
  if inB ((2 : Int32) + (gI h342 (7, 0, 2) 0)) 13 = true then lt (sI h342 (7, 0, 2) (((2 : Int32) + (gI h342 (7, 0, 2) 0)).toNatClampNeg) q341.1) fun h344 =>
  lt (sI h344 (7, 0, 2) 0 ((gI h344 (7, 0, 2) 0) + (1 : Int32))) fun h346 =>
  some h346 else none else none else some q341.2)) else (jX9_nameHere q323).bind fun q324 =>
  (jX9_number (0 : Int32) p1 q324.2).bind fun q325 =>
  (if (jX9_isGood q325.2) = true then if inB (gI q325.2 (7, 0, 2) 0) 11 = true then lt (sJ q325.2 (7, 0, 7) ((gI q325.2 (7, 0, 2) 0).toNatClampNeg) q324.1) fun h326 =>
  if inB ((2 : Int32) + (gI h326 (7, 0, 2) 0)) 13 = true then lt (sI h326 (7, 0, 2) (((2 : Int32) + (gI h326 (7, 0, 2) 0)).toNatClampNeg) q325.1) fun h328 =>
  lt (sI h328 (7, 0, 2) 0 ((gI h328 (7, 0, 2) 0) + (1 : Int32))) fun h330 =>
  some h330 else none else none else some q325.2)) else (jX9_mustName q297).bind fun q298 =>
  (if (jX9_isGood q298) = true then (jX9_carNamed (gJ q298 (7, 0, 0) 12) q298).bind fun q306 =>
  (if q306 = (-1 : Int32) then (jX9_nameHere q298).bind fun q307 =>
  (jX9_number (0 : Int32) p1 q307.2).bind fun q308 =>
  (if (jX9_isGood q308.2) = true then if inB (gI q308.2 (7, 0, 2) 0) 11 = true then lt (sJ q308.2 (7, 0, 7) ((gI q308.2 (7, 0, 2) 0).toNatClampNeg) q307.1) fun h309 =>
  if inB ((2 : Int32) + (gI h309 (7, 0, 2) 0)) 13 = true then lt (sI h309 (7, 0, 2) (((2 : Int32) + (gI h309 (7, 0, 2) 0)).toNatClampNeg) q308.1) fun h311 =>
  lt (sI h311 (7, 0, 2) 0 ((gI h311 (7, 0, 2) 0) + (1 : Int32))) fun h313 =>
  some h313 else none else none else some q308.2) else (jX9_wrong (3 : Int32) q298).bind fun q314 =>
  (jX9_nameHere q314).bind fun q315 =>
  (jX9_number (0 : Int32) p1 q315.2).bind fun q316 =>
  (if (jX9_isGood q316.2) = true then if inB (gI q316.2 (7, 0, 2) 0) 11 = true then lt (sJ q316.2 (7, 0, 7) ((gI q316.2 (7, 0, 2) 0).toNatClampNeg) q315.1) fun h317 =>
  if inB ((2 : Int32) + (gI h317 (7, 0, 2) 0)) 13 = true then lt (sI h317 (7, 0, 2) (((2 : Int32) + (gI h317 (7, 0, 2) 0)).toNatClampNeg) q316.1) fun h319 =>
  lt (sI h319 (7, 0, 2) 0 ((gI h319 (7, 0, 2) 0) + (1 : Int32))) fun h321 =>
  some h321 else none else none else some q316.2)) else (jX9_nameHere q298).bind fun q299 =>
  (jX9_number (0 : Int32) p1 q299.2).bind fun q300 =>
  (if (jX9_isGood q300.2) = true then if inB (gI q300.2 (7, 0, 2) 0) 11 = true then lt (sJ q300.2 (7, 0, 7) ((gI q300.2 (7, 0, 2) 0).toNatClampNeg) q299.1) fun h301 =>
  if inB ((2 : Int32) + (gI h301 (7, 0, 2) 0)) 13 = true then lt (sI h301 (7, 0, 2) (((2 : Int32) + (gI h301 (7, 0, 2) 0)).toNatClampNeg) q300.1) fun h303 =>
  lt (sI h303 (7, 0, 2) 0 ((gI h303 (7, 0, 2) 0) + (1 : Int32))) fun h305 =>
  some h305 else none else none else some q300.2))))) else (if (jX9_isGood h) = true then (if (gI h (7, 0, 2) 0) = p1 then (jX9_wrong (5 : Int32) h).bind fun q99 =>
  (if (jX9_isGood q99) = true then (jX9_goOnRead q99).bind fun q124 =>
  (jX9_mustName q124).bind fun q125 =>
  (if (jX9_isGood q125) = true then (jX9_carNamed (gJ q125 (7, 0, 0) 12) q125).bind fun q133 =>
  (if q133 = (-1 : Int32) then (jX9_nameHere q125).bind fun q134 =>
  (jX9_number (0 : Int32) p1 q134.2).bind fun q135 =>
  (if (jX9_isGood q135.2) = true then if inB (gI q135.2 (7, 0, 2) 0) 11 = true then lt (sJ q135.2 (7, 0, 7) ((gI q135.2 (7, 0, 2) 0).toNatClampNeg) q134.1) fun h136 =>
  if inB ((2 : Int32) + (gI h136 (7, 0, 2) 0)) 13 = true then lt (sI h136 (7, 0, 2) (((2 : Int32) + (gI h136 (7, 0, 2) 0)).toNatClampNeg) q135.1) fun h138 =>
  lt (sI h138 (7, 0, 2) 0 ((gI h138 (7, 0, 2) 0) + (1 : Int32))) fun h140 =>
  some h140 else none else none else some q135.2) else (jX9_wrong (3 : Int32) q125).bind fun q141 =>
  (jX9_nameHere q141).bind fun q142 =>
  (jX9_number (0 : Int32) p1 q142.2).bind fun q143 =>
  (if (jX9_isGood q143.2) = true then if inB (gI q143.2 (7, 0, 2) 0) 11 = true then lt (sJ q143.2 (7, 0, 7) ((gI q143.2 (7, 0, 2) 0).toNatClampNeg) q142.1) fun h144 =>
  if inB ((2 : Int32) + (gI h144 (7, 0, 2) 0)) 13 = true then lt (sI h144 (7, 0, 2) (((2 : Int32) + (gI h144 (7, 0, 2) 0)).toNatClampNeg) q143.1) fun h146 =>
  lt (sI h146 (7, 0, 2) 0 ((gI h146 (7, 0, 2) 0) + (1 : Int32))) fun h148 =>
  some h148 else none else none else some q143.2)) else (jX9_nameHere q125).bind fun q126 =>
  (jX9_number (0 : Int32) p1 q126.2).bind fun q127 =>
  (if (jX9_isGood q127.2) = true then if inB (gI q127.2 (7, 0, 2) 0) 11 = true then lt (sJ q127.2 (7, 0, 7) ((gI q127.2 (7, 0, 2) 0).toNatClampNeg) q126.1) fun h128 =>
  if inB ((2 : Int32) + (gI h128 (7, 0, 2) 0)) 13 = true then lt (sI h128 (7, 0, 2) (((2 : Int32) + (gI h128 (7, 0, 2) 0)).toNatClampNeg) q127.1) fun h130 =>
  lt (sI h130 (7, 0, 2) 0 ((gI h130 (7, 0, 2) 0) + (1 : Int32))) fun h132 =>
  some h132 else none else none else some q127.2)) else (jX9_mustName q99).bind fun q100 =>
  (if (jX9_isGood q100) = true then (jX9_carNamed (gJ q100 (7, 0, 0) 12) q100).bind fun q108 =>
  (if q108 = (-1 : Int32) then (jX9_nameHere q100).bind fun q109 =>
  (jX9_number (0 : Int32) p1 q109.2).bind fun q110 =>
  (if (jX9_isGood q110.2) = true then if inB (gI q110.2 (7, 0, 2) 0) 11 = true then lt (sJ q110.2 (7, 0, 7) ((gI q110.2 (7, 0, 2) 0).toNatClampNeg) q109.1) fun h111 =>
  if inB ((2 : Int32) + (gI h111 (7, 0, 2) 0)) 13 = true then lt (sI h111 (7, 0, 2) (((2 : Int32) + (gI h111 (7, 0, 2) 0)).toNatClampNeg) q110.1) fun h113 =>
  lt (sI h113 (7, 0, 2) 0 ((gI h113 (7, 0, 2) 0) + (1 : Int32))) fun h115 =>
  some h115 else none else none else some q110.2) else (jX9_wrong (3 : Int32) q100).bind fun q116 =>
  (jX9_nameHere q116).bind fun q117 =>
  (jX9_number (0 : Int32) p1 q117.2).bind fun q118 =>
  (if (jX9_isGood q118.2) = true then if inB (gI q118.2 (7, 0, 2) 0) 11 = true then lt (sJ q118.2 (7, 0, 7) ((gI q118.2 (7, 0, 2) 0).toNatClampNeg) q117.1) fun h119 =>
  if inB ((2 : Int32) + (gI h119 (7, 0, 2) 0)) 13 = true then lt (sI h119 (7, 0, 2) (((2 : Int32) + (gI h119 (7, 0, 2) 0)).toNatClampNeg) q118.1) fun h121 =>
  lt (sI h121 (7, 0, 2) 0 ((gI h121 (7, 0, 2) 0) + (1 : Int32))) fun h123 =>
  some h123 else none else none else some q118.2)) else (jX9_nameHere q100).bind fun q101 =>
  (jX9_number (0 : Int32) p1 q101.2).bind fun q102 =>
  (if (jX9_isGood q102.2) = true then if inB (gI q102.2 (7, 0, 2) 0) 11 = true then lt (sJ q102.2 (7, 0, 7) ((gI q102.2 (7, 0, 2) 0).toNatClampNeg) q101.1) fun h103 =>
  if inB ((2 : Int32) + (gI h103 (7, 0, 2) 0)) 13 = true then lt (sI h103 (7, 0, 2) (((2 : Int32) + (gI h103 (7, 0, 2) 0)).toNatClampNeg) q102.1) fun h105 =>
  lt (sI h105 (7, 0, 2) 0 ((gI h105 (7, 0, 2) 0) + (1 : Int32))) fun h107 =>
  some h107 else none else none else some q102.2))) else (if (jX9_isGood h) = true then (jX9_goOnRead h).bind fun q74 =>
  (jX9_mustName q74).bind fun q75 =>
  (if (jX9_isGood q75) = true then (jX9_carNamed (gJ q75 (7, 0, 0) 12) q75).bind fun q83 =>
  (if q83 = (-1 : Int32) then (jX9_nameHere q75).bind fun q84 =>
  (jX9_number (0 : Int32) p1 q84.2).bind fun q85 =>
  (if (jX9_isGood q85.2) = true then if inB (gI q85.2 (7, 0, 2) 0) 11 = true then lt (sJ q85.2 (7, 0, 7) ((gI q85.2 (7, 0, 2) 0).toNatClampNeg) q84.1) fun h86 =>
  if inB ((2 : Int32) + (gI h86 (7, 0, 2) 0)) 13 = true then lt (sI h86 (7, 0, 2) (((2 : Int32) + (gI h86 (7, 0, 2) 0)).toNatClampNeg) q85.1) fun h88 =>
  lt (sI h88 (7, 0, 2) 0 ((gI h88 (7, 0, 2) 0) + (1 : Int32))) fun h90 =>
  some h90 else none else none else some q85.2) else (jX9_wrong (3 : Int32) q75).bind fun q91 =>
  (jX9_nameHere q91).bind fun q92 =>
  (jX9_number (0 : Int32) p1 q92.2).bind fun q93 =>
  (if (jX9_isGood q93.2) = true then if inB (gI q93.2 (7, 0, 2) 0) 11 = true then lt (sJ q93.2 (7, 0, 7) ((gI q93.2 (7, 0, 2) 0).toNatClampNeg) q92.1) fun h94 =>
  if inB ((2 : Int32) + (gI h94 (7, 0, 2) 0)) 13 = true then lt (sI h94 (7, 0, 2) (((2 : Int32) + (gI h94 (7, 0, 2) 0)).toNatClampNeg) q93.1) fun h96 =>
  lt (sI h96 (7, 0, 2) 0 ((gI h96 (7, 0, 2) 0) + (1 : Int32))) fun h98 =>
  some h98 else none else none else some q93.2)) else (jX9_nameHere q75).bind fun q76 =>
  (jX9_number (0 : Int32) p1 q76.2).bind fun q77 =>
  (if (jX9_isGood q77.2) = true then if inB (gI q77.2 (7, 0, 2) 0) 11 = true then lt (sJ q77.2 (7, 0, 7) ((gI q77.2 (7, 0, 2) 0).toNatClampNeg) q76.1) fun h78 =>
  if inB ((2 : Int32) + (gI h78 (7, 0, 2) 0)) 13 = true then lt (sI h78 (7, 0, 2) (((2 : Int32) + (gI h78 (7, 0, 2) 0)).toNatClampNeg) q77.1) fun h80 =>
  lt (sI h80 (7, 0, 2) 0 ((gI h80 (7, 0, 2) 0) + (1 : Int32))) fun h82 =>
  some h82 else none else none else some q77.2)) else (jX9_mustName h).bind fun q50 =>
  (if (jX9_isGood q50) = true then (jX9_carNamed (gJ q50 (7, 0, 0) 12) q50).bind fun q58 =>
  (if q58 = (-1 : Int32) then (jX9_nameHere q50).bind fun q59 =>
  (jX9_number (0 : Int32) p1 q59.2).bind fun q60 =>
  (if (jX9_isGood q60.2) = true then if inB (gI q60.2 (7, 0, 2) 0) 11 = true then lt (sJ q60.2 (7, 0, 7) ((gI q60.2 (7, 0, 2) 0).toNatClampNeg) q59.1) fun h61 =>
  if inB ((2 : Int32) + (gI h61 (7, 0, 2) 0)) 13 = true then lt (sI h61 (7, 0, 2) (((2 : Int32) + (gI h61 (7, 0, 2) 0)).toNatClampNeg) q60.1) fun h63 =>
  lt (sI h63 (7, 0, 2) 0 ((gI h63 (7, 0, 2) 0) + (1 : Int32))) fun h65 =>
  some h65 else none else none else some q60.2) else (jX9_wrong (3 : Int32) q50).bind fun q66 =>
  (jX9_nameHere q66).bind fun q67 =>
  (jX9_number (0 : Int32) p1 q67.2).bind fun q68 =>
  (if (jX9_isGood q68.2) = true then if inB (gI q68.2 (7, 0, 2) 0) 11 = true then lt (sJ q68.2 (7, 0, 7) ((gI q68.2 (7, 0, 2) 0).toNatClampNeg) q67.1) fun h69 =>
  if inB ((2 : Int32) + (gI h69 (7, 0, 2) 0)) 13 = true then lt (sI h69 (7, 0, 2) (((2 : Int32) + (gI h69 (7, 0, 2) 0)).toNatClampNeg) q68.1) fun h71 =>
  lt (sI h71 (7, 0, 2) 0 ((gI h71 (7, 0, 2) 0) + (1 : Int32))) fun h73 =>
  some h73 else none else none else some q68.2)) else (jX9_nameHere q50).bind fun q51 =>
  (jX9_number (0 : Int32) p1 q51.2).bind fun q52 =>
  (if (jX9_isGood q52.2) = true then if inB (gI q52.2 (7, 0, 2) 0) 11 = true then lt (sJ q52.2 (7, 0, 7) ((gI q52.2 (7, 0, 2) 0).toNatClampNeg) q51.1) fun h53 =>
  if inB ((2 : Int32) + (gI h53 (7, 0, 2) 0)) 13 = true then lt (sI h53 (7, 0, 2) (((2 : Int32) + (gI h53 (7, 0, 2) 0)).toNatClampNeg) q52.1) fun h55 =>
  lt (sI h55 (7, 0, 2) 0 ((gI h55 (7, 0, 2) 0) + (1 : Int32))) fun h57 =>
  some h57 else none else none else some q52.2)))) else (if (jX9_isGood h) = true then (jX9_goOnRead h).bind fun q25 =>
  (jX9_mustName q25).bind fun q26 =>
  (if (jX9_isGood q26) = true then (jX9_carNamed (gJ q26 (7, 0, 0) 12) q26).bind fun q34 =>
  (if q34 = (-1 : Int32) then (jX9_nameHere q26).bind fun q35 =>
  (jX9_number (0 : Int32) p1 q35.2).bind fun q36 =>
  (if (jX9_isGood q36.2) = true then if inB (gI q36.2 (7, 0, 2) 0) 11 = true then lt (sJ q36.2 (7, 0, 7) ((gI q36.2 (7, 0, 2) 0).toNatClampNeg) q35.1) fun h37 =>
  if inB ((2 : Int32) + (gI h37 (7, 0, 2) 0)) 13 = true then lt (sI h37 (7, 0, 2) (((2 : Int32) + (gI h37 (7, 0, 2) 0)).toNatClampNeg) q36.1) fun h39 =>
  lt (sI h39 (7, 0, 2) 0 ((gI h39 (7, 0, 2) 0) + (1 : Int32))) fun h41 =>
  some h41 else none else none else some q36.2) else (jX9_wrong (3 : Int32) q26).bind fun q42 =>
  (jX9_nameHere q42).bind fun q43 =>
  (jX9_number (0 : Int32) p1 q43.2).bind fun q44 =>
  (if (jX9_isGood q44.2) = true then if inB (gI q44.2 (7, 0, 2) 0) 11 = true then lt (sJ q44.2 (7, 0, 7) ((gI q44.2 (7, 0, 2) 0).toNatClampNeg) q43.1) fun h45 =>
  if inB ((2 : Int32) + (gI h45 (7, 0, 2) 0)) 13 = true then lt (sI h45 (7, 0, 2) (((2 : Int32) + (gI h45 (7, 0, 2) 0)).toNatClampNeg) q44.1) fun h47 =>
  lt (sI h47 (7, 0, 2) 0 ((gI h47 (7, 0, 2) 0) + (1 : Int32))) fun h49 =>
  some h49 else none else none else some q44.2)) else (jX9_nameHere q26).bind fun q27 =>
  (jX9_number (0 : Int32) p1 q27.2).bind fun q28 =>
  (if (jX9_isGood q28.2) = true then if inB (gI q28.2 (7, 0, 2) 0) 11 = true then lt (sJ q28.2 (7, 0, 7) ((gI q28.2 (7, 0, 2) 0).toNatClampNeg) q27.1) fun h29 =>
  if inB ((2 : Int32) + (gI h29 (7, 0, 2) 0)) 13 = true then lt (sI h29 (7, 0, 2) (((2 : Int32) + (gI h29 (7, 0, 2) 0)).toNatClampNeg) q28.1) fun h31 =>
  lt (sI h31 (7, 0, 2) 0 ((gI h31 (7, 0, 2) 0) + (1 : Int32))) fun h33 =>
  some h33 else none else none else some q28.2)) else (jX9_mustName h).bind fun q1 =>
  (if (jX9_isGood q1) = true then (jX9_carNamed (gJ q1 (7, 0, 0) 12) q1).bind fun q9 =>
  (if q9 = (-1 : Int32) then (jX9_nameHere q1).bind fun q10 =>
  (jX9_number (0 : Int32) p1 q10.2).bind fun q11 =>
  (if (jX9_isGood q11.2) = true then if inB (gI q11.2 (7, 0, 2) 0) 11 = true then lt (sJ q11.2 (7, 0, 7) ((gI q11.2 (7, 0, 2) 0).toNatClampNeg) q10.1) fun h12 =>
  if inB ((2 : Int32) + (gI h12 (7, 0, 2) 0)) 13 = true then lt (sI h12 (7, 0, 2) (((2 : Int32) + (gI h12 (7, 0, 2) 0)).toNatClampNeg) q11.1) fun h14 =>
  lt (sI h14 (7, 0, 2) 0 ((gI h14 (7, 0, 2) 0) + (1 : Int32))) fun h16 =>
  some h16 else none else none else some q11.2) else (jX9_wrong (3 : Int32) q1).bind fun q17 =>
  (jX9_nameHere q17).bind fun q18 =>
  (jX9_number (0 : Int32) p1 q18.2).bind fun q19 =>
  (if (jX9_isGood q19.2) = true then if inB (gI q19.2 (7, 0, 2) 0) 11 = true then lt (sJ q19.2 (7, 0, 7) ((gI q19.2 (7, 0, 2) 0).toNatClampNeg) q18.1) fun h20 =>
  if inB ((2 : Int32) + (gI h20 (7, 0, 2) 0)) 13 = true then lt (sI h20 (7, 0, 2) (((2 : Int32) + (gI h20 (7, 0, 2) 0)).toNatClampNeg) q19.1) fun h22 =>
  lt (sI h22 (7, 0, 2) 0 ((gI h22 (7, 0, 2) 0) + (1 : Int32))) fun h24 =>
  some h24 else none else none else some q19.2)) else (jX9_nameHere q1).bind fun q2 =>
  (jX9_number (0 : Int32) p1 q2.2).bind fun q3 =>
  (if (jX9_isGood q3.2) = true then if inB (gI q3.2 (7, 0, 2) 0) 11 = true then lt (sJ q3.2 (7, 0, 7) ((gI q3.2 (7, 0, 2) 0).toNatClampNeg) q2.1) fun h4 =>
  if inB ((2 : Int32) + (gI h4 (7, 0, 2) 0)) 13 = true then lt (sI h4 (7, 0, 2) (((2 : Int32) + (gI h4 (7, 0, 2) 0)).toNatClampNeg) q3.1) fun h6 =>
  lt (sI h6 (7, 0, 2) 0 ((gI h6 (7, 0, 2) 0) + (1 : Int32))) fun h8 =>
  some h8 else none else none else some q3.2)))))
def jX9_readText_L67 (x1 : Int32) (k95 : HD → Option (Int32 × HD)) : Nat → HD → Option (Int32 × HD)
  | 0, _ => none
  | n67 + 1, h => (if (jX9_isGood h) = true then (if (gI h (7, 0, 0) 6) = 0 then k95 h else (jX9_carLine x1 h).bind fun q7 =>
  (jX9_mustSign (59 : Int32) q7).bind fun q8 =>
  jX9_readText_L67 x1 k95 n67 q8) else k95 h)
def jX9_readText  (h : HD) : Option (Int32 × HD) :=
  (jX9_laysAside h).bind fun q1 =>
  (jX9_beginsText q1).bind fun q2 =>
  (jX9_clears q2).bind fun q3 =>
  (jX9_mustWord (525899 : Int64) q3).bind fun q4 =>
  (jX9_number (0 : Int32) (11 : Int32) q4).bind fun q5 =>
  (jX9_mustSign (59 : Int32) q5.2).bind fun q6 =>
  (if (jX9_isWord (66667 : Int64) q6) = true then (jX9_goOnRead q6).bind fun q20 =>
  (jX9_number (0 : Int32) (5 : Int32) q20).bind fun q21 =>
  lt (sI q21.2 (7, 0, 2) 1 q21.1) fun h22 =>
  (jX9_mustSign (59 : Int32) h22).bind fun q23 =>
  jX9_readText_L67 q5.1 (fun h26 => (if (jX9_isGood h26) = true then (if q5.1 ≤ (gI h26 (7, 0, 2) 0) then (jX9_endsText h26).bind fun q30 =>
  (if q30.1 = true then lt (sI q30.2 (7, 0, 0) 23 (0 : Int32)) fun h31 =>
  some (gI h31 (7, 0, 2) 0, h31) else (jX9_goesBack q30.2).bind fun q32 =>
  some ((0 : Int32), q32)) else (jX9_wrong (1 : Int32) h26).bind fun q33 =>
  (jX9_endsText q33).bind fun q34 =>
  (if q34.1 = true then lt (sI q34.2 (7, 0, 0) 23 (0 : Int32)) fun h35 =>
  some (gI h35 (7, 0, 2) 0, h35) else (jX9_goesBack q34.2).bind fun q36 =>
  some ((0 : Int32), q36))) else (jX9_endsText h26).bind fun q27 =>
  (if q27.1 = true then lt (sI q27.2 (7, 0, 0) 23 (0 : Int32)) fun h28 =>
  some (gI h28 (7, 0, 2) 0, h28) else (jX9_goesBack q27.2).bind fun q29 =>
  some ((0 : Int32), q29)))) FU q23 else jX9_readText_L67 q5.1 (fun h9 => (if (jX9_isGood h9) = true then (if q5.1 ≤ (gI h9 (7, 0, 2) 0) then (jX9_endsText h9).bind fun q13 =>
  (if q13.1 = true then lt (sI q13.2 (7, 0, 0) 23 (0 : Int32)) fun h14 =>
  some (gI h14 (7, 0, 2) 0, h14) else (jX9_goesBack q13.2).bind fun q15 =>
  some ((0 : Int32), q15)) else (jX9_wrong (1 : Int32) h9).bind fun q16 =>
  (jX9_endsText q16).bind fun q17 =>
  (if q17.1 = true then lt (sI q17.2 (7, 0, 0) 23 (0 : Int32)) fun h18 =>
  some (gI h18 (7, 0, 2) 0, h18) else (jX9_goesBack q17.2).bind fun q19 =>
  some ((0 : Int32), q19))) else (jX9_endsText h9).bind fun q10 =>
  (if q10.1 = true then lt (sI q10.2 (7, 0, 0) 23 (0 : Int32)) fun h11 =>
  some (gI h11 (7, 0, 2) 0, h11) else (jX9_goesBack q10.2).bind fun q12 =>
  some ((0 : Int32), q12)))) FU q6)
def jX9_settingOf (p1 : Int32) (h : HD) : Option (Int32 × HD) :=
  (jX9_parks (gI h (7, 0, 2) 0) h).bind fun q1 =>
  (if p1 = 0 then some (gI q1 (7, 0, 2) 0, q1) else if p1 = 1 then (jX9_spots q1).bind fun q3 =>
  some (q3, q1) else if p1 = 2 then some (gI q1 (7, 0, 2) 1, q1) else if p1 = 3 then (jX9_gapSpot q1).bind fun q6 =>
  some (q6, q1) else if p1 = 4 then (jX9_luckyMany q1).bind fun q8 =>
  some (q8, q1) else if p1 = 5 then (jX9_area q1).bind fun q10 =>
  some (q10, q1) else if p1 = 6 then (jX9_way q1).bind fun q12 =>
  some (q12, q1) else if p1 = 7 then (jX9_turnNow q1).bind fun q14 =>
  some (q14, q1) else if p1 = 8 then (jX9_breaks q1).bind fun q16 =>
  some (q16, q1) else (jX9_preferred q1).bind fun q18 =>
  some (q18, q1))
def jX9_isSetting (p1 : Int32) (h : HD) : Bool :=
  (jX9_isIn p1.toInt64 (0 : Int64) (9 : Int64) h)
def jX9_setting (p1 : Int32) (h : HD) : Option (Int32 × HD) :=
  (jX9_goes (jX9_isSetting p1 h) h).bind fun q1 =>
  (if q1.1 = true then (jX9_settingOf p1 q1.2).bind fun q2 =>
  some (q2.1, q2.2) else some ((0 : Int32), q1.2))
def jX9_lettersOf_L4 (p1 : Int64) (h : HD) : Nat → Int32 → Int64 → Option Int32
  | 0, _, _ => none
  | n4 + 1, x2, x3 => (if (lg_cmp x3 (0 : Int64)) ≤ 0 then some x2 else jX9_lettersOf_L4 p1 h n4 (x2 + 1) (x3 >>> ((5 : Int32).toInt64 &&& 63)))
def jX9_lettersOf (p1 : Int64) (h : HD) : Option Int32 :=
  jX9_lettersOf_L4 p1 h FU (0 : Int32) p1
def jX9_letterOf (p1 : Int64) (p2 : Int32) (h : HD) : Option Int32 :=
  (jX9_lettersOf p1 h).bind fun q1 =>
  some (((p1 >>> (((5 : Int32) * ((q1 - (1 : Int32)) - p2)).toInt64 &&& 63)) &&& (31 : Int64)).toInt32)
def jX9_letter (p1 : Int32) (p2 : Int32) (h : HD) : Option (Int32 × HD) :=
  (jX9_isCar p1 h).bind fun q1 =>
  (jX9_goes q1 h).bind fun q2 =>
  (if q2.1 = true then if inB p1 11 = true then (jX9_lettersOf (gJ q2.2 (7, 0, 7) p1.toNatClampNeg) q2.2).bind fun q4 =>
  (if (jX9_isIn p2.toInt64 (0 : Int64) ((q4 - (1 : Int32)).toInt64) q2.2) = true then if inB p1 11 = true then (jX9_letterOf (gJ q2.2 (7, 0, 7) p1.toNatClampNeg) p2 q2.2).bind fun q6 =>
  some (q6, q2.2) else none else some ((0 : Int32), q2.2)) else none else some ((0 : Int32), q2.2))
def jX9_car (p1 : Int32) (p2 : Int32) (h : HD) : Option (Int32 × HD) :=
  (jX9_isCar p1 h).bind fun q1 =>
  (jX9_goesBoth q1 (jX9_isIn p2.toInt64 (0 : Int64) (5 : Int64) h) h).bind fun q2 =>
  (if q2.1 = true then (jX9_parks (gI q2.2 (7, 0, 2) 0) q2.2).bind fun q3 =>
  (if p2 = 0 then (jX9_wishOf p1 q3).bind fun q4 =>
  some (q4, q3) else if p2 = 1 then if inB p1 11 = true then some (gI q3 (7, 0, 14) p1.toNatClampNeg, q3) else none else if p2 = 2 then if inB p1 11 = true then some (gI q3 (7, 0, 15) p1.toNatClampNeg, q3) else none else if p2 = 3 then if inB p1 11 = true then (if (gI q3 (7, 0, 15) p1.toNatClampNeg) = 0 then some ((jX9_truth true q3), q3) else some ((jX9_truth false q3), q3)) else none else if p2 = 4 then (jX9_runOf p1 q3).bind fun q12 =>
  some (q12, q3) else (jX9_turnNow q3).bind fun q14 =>
  (jX9_turnedWish p1 q14 q3).bind fun q15 =>
  some (q15, q3)) else some ((0 : Int32), q2.2))
def jX9_who (p1 : Int32) (h : HD) : Option (Int32 × HD) :=
  (jX9_isSpot p1 h).bind fun q1 =>
  (jX9_goes q1 h).bind fun q2 =>
  (if q2.1 = true then (jX9_parks (gI q2.2 (7, 0, 2) 0) q2.2).bind fun q3 =>
  if inB p1 12 = true then some (gI q3 (7, 0, 13) p1.toNatClampNeg, q3) else none else some ((0 : Int32), q2.2))
def jX9_wanted (p1 : Int32) (h : HD) : Option (Int32 × HD) :=
  (jX9_isSpot p1 h).bind fun q1 =>
  (jX9_goes q1 h).bind fun q2 =>
  (if q2.1 = true then (jX9_wants p1 q2.2).bind fun q3 =>
  some (q3, q2.2) else some ((0 : Int32), q2.2))
def jX9_rankOf_L4 (p1 : Int32) (h : HD) : Nat → Int32 → Int32 → Option Int32
  | 0, _, _ => none
  | n4 + 1, x2, x3 => (if (gI h (7, 0, 2) 0) ≤ x3 then some x2 else (jX9_wishOf x3 h).bind fun q1 =>
  (jX9_wishOf p1 h).bind fun q2 =>
  (if q1 < q2 then jX9_rankOf_L4 p1 h n4 (x2 + (jX9_truth true h)) (x3 + 1) else (jX9_wishOf x3 h).bind fun q3 =>
  (jX9_wishOf p1 h).bind fun q4 =>
  (if q3 = q4 then (if p1 ≤ x3 then jX9_rankOf_L4 p1 h n4 (x2 + (jX9_truth false h)) (x3 + 1) else jX9_rankOf_L4 p1 h n4 (x2 + (jX9_truth true h)) (x3 + 1)) else jX9_rankOf_L4 p1 h n4 (x2 + (jX9_truth false h)) (x3 + 1))))
def jX9_rankOf (p1 : Int32) (h : HD) : Option Int32 :=
  jX9_rankOf_L4 p1 h FU (0 : Int32) (0 : Int32)
def jX9_ranked_L7 (p1 : Int32) (h : HD) : Nat → Int32 → Option (Int32 × HD)
  | 0, _ => none
  | n7 + 1, x2 => (if (gI h (7, 0, 2) 0) ≤ x2 then some ((-1 : Int32), h) else (jX9_rankOf x2 h).bind fun q2 =>
  (if q2 = p1 then some (x2, h) else jX9_ranked_L7 p1 h n7 (x2 + 1)))
def jX9_ranked (p1 : Int32) (h : HD) : Option (Int32 × HD) :=
  lt (sI h (7, 0, 0) 0 (0 : Int32)) fun h1 =>
  jX9_ranked_L7 p1 h1 FU (0 : Int32)
def jX9_spotByLine (p1 : Int32) (h : HD) : Option (Int32 × HD) :=
  (jX9_isCar p1 h).bind fun q1 =>
  (jX9_goes q1 h).bind fun q2 =>
  (if q2.1 = true then (jX9_parksByLine q2.2).bind fun q3 =>
  if inB p1 11 = true then some (gI q3 (7, 0, 17) p1.toNatClampNeg, q3) else none else some ((0 : Int32), q2.2))
def jX9_areaByLine_L25 (x1 : Int32) (h : HD) : Nat → Int32 → Int32 → Option Int32
  | 0, _, _ => none
  | n25 + 1, x2, x3 => (if (gI h (7, 0, 2) 0) ≤ x3 then some x2 else (jX9_turnedWish x3 x1 h).bind fun q2 =>
  jX9_areaByLine_L25 x1 h n25 (x2 - q2) (x3 + 1))
def jX9_areaByLine  (h : HD) : Option Int32 :=
  (jX9_turnNow h).bind fun q1 =>
  jX9_areaByLine_L25 q1 h FU (((gI h (7, 0, 2) 0) * ((gI h (7, 0, 2) 0) - (1 : Int32))) / (2 : Int32)) (0 : Int32)
def jX9_gap_L31 (h : HD) : Nat → Int32 → Int32 → Option (Int32 × HD)
  | 0, _, _ => none
  | n31 + 1, x1, x2 => (if (gI h (7, 0, 2) 0) ≤ x2 then some (x1, h) else if inB x2 11 = true then if inB x2 11 = true then (if (gI h (7, 0, 14) x2.toNatClampNeg) = (gI h (7, 0, 17) x2.toNatClampNeg) then jX9_gap_L31 h n31 (x1 + (jX9_truth false h)) (x2 + 1) else jX9_gap_L31 h n31 (x1 + (jX9_truth true h)) (x2 + 1)) else none else none)
def jX9_gap  (h : HD) : Option (Int32 × HD) :=
  lt (sI h (7, 0, 0) 0 (0 : Int32)) fun h1 =>
  (jX9_parksByLine h1).bind fun q2 =>
  (jX9_area q2).bind fun q3 =>
  (jX9_areaByLine q2).bind fun q4 =>
  (if q3 = q4 then jX9_gap_L31 q2 FU (jX9_truth false q2) (0 : Int32) else jX9_gap_L31 q2 FU (jX9_truth true q2) (0 : Int32))
def jX9_isParking  (h : HD) : Option (Bool × HD) :=
  lt (sI h (7, 0, 0) 0 (0 : Int32)) fun h1 =>
  (jX9_parks (gI h1 (7, 0, 2) 0) h1).bind fun q2 =>
  (jX9_gapSpot q2).bind fun q3 =>
  (if q3 = (gI q2 (7, 0, 2) 0) then some (true, q2) else some (false, q2))
def jX9_breakAt_L19 (p1 : Int32) (h : HD) : Nat → Int32 → Int32 → Option (Int32 × HD)
  | 0, _, _ => none
  | n19 + 1, x2, x3 => (if (gI h (7, 0, 2) 0) < x3 then some ((-1 : Int32), h) else (jX9_isBreak x3 h).bind fun q3 =>
  (if q3 = true then (if x2 = 0 then some (x3, h) else jX9_breakAt_L19 p1 h n19 (x2 + (-1)) (x3 + 1)) else jX9_breakAt_L19 p1 h n19 x2 (x3 + 1)))
def jX9_breakAt (p1 : Int32) (h : HD) : Option (Int32 × HD) :=
  lt (sI h (7, 0, 0) 0 (0 : Int32)) fun h1 =>
  (jX9_parks (gI h1 (7, 0, 2) 0) h1).bind fun q2 =>
  jX9_breakAt_L19 p1 q2 FU p1 (1 : Int32)
def jX9_areCars (p1 : Int32) (h : HD) : Option Bool :=
  some (jX9_isIn p1.toInt64 (0 : Int64) ((gI h (7, 0, 2) 0).toInt64) h)
def jX9_whoAfter (p1 : Int32) (p2 : Int32) (h : HD) : Option (Int32 × HD) :=
  (jX9_isSpot p2 h).bind fun q1 =>
  (jX9_areCars p1 h).bind fun q2 =>
  (jX9_goesBoth q1 q2 h).bind fun q3 =>
  (if q3.1 = true then (jX9_parks p1 q3.2).bind fun q4 =>
  if inB p2 12 = true then some (gI q4 (7, 0, 13) p2.toNatClampNeg, q4) else none else some ((0 : Int32), q3.2))
def jX9_rowFrom_L2 (p1 : Int32) (h : HD) : Nat → Int32 → Option Int32
  | 0, _ => none
  | n2 + 1, x2 => (jX9_spots h).bind fun q1 =>
  (if q1 ≤ x2 then some x2 else (jX9_round (p1 + x2) h).bind fun q2 =>
  if inB q2 12 = true then (if (gI h (7, 0, 13) q2.toNatClampNeg) = (-1 : Int32) then some x2 else jX9_rowFrom_L2 p1 h n2 (x2 + 1)) else none)
def jX9_rowFrom (p1 : Int32) (h : HD) : Option Int32 :=
  jX9_rowFrom_L2 p1 h FU (0 : Int32)
def jX9_longestAfter_L23 (p1 : Int32) (h : HD) : Nat → Int32 → Int32 → Option (Int32 × HD)
  | 0, _, _ => none
  | n23 + 1, x2, x3 => (jX9_spots h).bind fun q4 =>
  (if q4 ≤ x3 then some (x2, h) else (jX9_rowFrom x3 h).bind fun q5 =>
  (if q5 ≤ x2 then jX9_longestAfter_L23 p1 h n23 x2 (x3 + 1) else jX9_longestAfter_L23 p1 h n23 q5 (x3 + 1)))
def jX9_longestAfter (p1 : Int32) (h : HD) : Option (Int32 × HD) :=
  (jX9_areCars p1 h).bind fun q1 =>
  (jX9_goes q1 h).bind fun q2 =>
  (if q2.1 = true then (jX9_parks p1 q2.2).bind fun q3 =>
  jX9_longestAfter_L23 p1 q3 FU (0 : Int32) (0 : Int32) else some ((0 : Int32), q2.2))
def jX9_inWay (p1 : Int32) (h : HD) : Option (Int32 × HD) :=
  (jX9_areCars p1 h).bind fun q1 =>
  (jX9_goes q1 h).bind fun q2 =>
  (if q2.1 = true then (if p1 = (gI q2.2 (7, 0, 2) 0) then some ((-1 : Int32), q2.2) else (jX9_parks p1 q2.2).bind fun q3 =>
  (jX9_wishOf p1 q3).bind fun q4 =>
  if inB q4 12 = true then some (gI q3 (7, 0, 13) q4.toNatClampNeg, q3) else none) else some ((0 : Int32), q2.2))
def jX9_fibre_L19 (h : HD) : Nat → Int64 → Int32 → Option (Int64 × HD)
  | 0, _, _ => none
  | n19 + 1, x1, x3 => (if (gI h (7, 0, 2) 0) ≤ x3 then some (x1, h) else (jX9_runOf x3 h).bind fun q3 =>
  jX9_fibre_L19 h n19 (x1 * q3.toInt64) (x3 + 1))
def jX9_fibre  (h : HD) : Option (Int64 × HD) :=
  lt (sI h (7, 0, 0) 0 (0 : Int32)) fun h1 =>
  (jX9_parks (gI h1 (7, 0, 2) 0) h1).bind fun q2 =>
  jX9_fibre_L19 q2 FU (1 : Int64) (0 : Int32)
def jX9_factorial_L4 (p1 : Int32) (h : HD) : Nat → Int64 → Int32 → Option Int64
  | 0, _, _ => none
  | n4 + 1, x1, x3 => (if p1 < x3 then some x1 else jX9_factorial_L4 p1 h n4 (x1 * x3.toInt64) (x3 + 1))
def jX9_factorial (p1 : Int32) (h : HD) : Option Int64 :=
  jX9_factorial_L4 p1 h FU (1 : Int64) (2 : Int32)
def jX9_arrangements_L17 (h : HD) : Nat → Int64 → Int32 → Option (Int64 × HD)
  | 0, _, _ => none
  | n17 + 1, x1, x3 => (jX9_spots h).bind fun q3 =>
  (if q3 ≤ x3 then some (x1, h) else (jX9_wants x3 h).bind fun q4 =>
  (jX9_factorial q4 h).bind fun q5 =>
  if q5 = 0 then none else jX9_arrangements_L17 h n17 (x1 / q5) (x3 + 1))
def jX9_arrangements  (h : HD) : Option (Int64 × HD) :=
  lt (sI h (7, 0, 0) 0 (0 : Int32)) fun h1 =>
  (jX9_factorial (gI h1 (7, 0, 2) 0) h1).bind fun q2 =>
  jX9_arrangements_L17 h1 FU q2 (0 : Int32)
def jX9_all_L9 (h : HD) : Nat → Int64 → Int32 → Option (Int64 × HD)
  | 0, _, _ => none
  | n9 + 1, x1, x3 => (if (gI h (7, 0, 2) 0) ≤ x3 then some (x1, h) else (jX9_spots h).bind fun q2 =>
  jX9_all_L9 h n9 (x1 * q2.toInt64) (x3 + 1))
def jX9_all  (h : HD) : Option (Int64 × HD) :=
  lt (sI h (7, 0, 0) 0 (0 : Int32)) fun h1 =>
  jX9_all_L9 h1 FU (1 : Int64) (1 : Int32)
def jX9_inversions_L39 (x1 : Int32) (x3 : Int32) (h : HD) (k95 : Int32 → Option (Int32 × HD)) : Nat → Int32 → Int32 → Option (Int32 × HD)
  | 0, _, _ => none
  | n39 + 1, x2, x4 => (if (gI h (7, 0, 2) 0) ≤ x4 then k95 x2 else if inB x3 11 = true then (jX9_round ((gI h (7, 0, 14) x3.toNatClampNeg) + x1) h).bind fun q5 =>
  if inB x4 11 = true then (jX9_round ((gI h (7, 0, 14) x4.toNatClampNeg) + x1) h).bind fun q7 =>
  (if q5 ≤ q7 then jX9_inversions_L39 x1 x3 h k95 n39 (x2 + (jX9_truth false h)) (x4 + 1) else jX9_inversions_L39 x1 x3 h k95 n39 (x2 + (jX9_truth true h)) (x4 + 1)) else none else none)
def jX9_inversions_L24 (x1 : Int32) (h : HD) : Nat → Int32 → Int32 → Option (Int32 × HD)
  | 0, _, _ => none
  | n24 + 1, x2, x3 => (if (gI h (7, 0, 2) 0) ≤ x3 then some (x2, h) else jX9_inversions_L39 x1 x3 h (fun y39_2 => jX9_inversions_L24 x1 h n24 y39_2 (x3 + 1)) FU x2 (x3 + (1 : Int32)))
def jX9_inversions  (h : HD) : Option (Int32 × HD) :=
  lt (sI h (7, 0, 0) 0 (0 : Int32)) fun h1 =>
  (jX9_parks (gI h1 (7, 0, 2) 0) h1).bind fun q2 =>
  (jX9_turnNow q2).bind fun q3 =>
  jX9_inversions_L24 q3 q2 FU (0 : Int32) (0 : Int32)
def jX9_descents_L9 (h : HD) : Nat → Int32 → Int32 → Option (Int32 × HD)
  | 0, _, _ => none
  | n9 + 1, x1, x2 => (if (gI h (7, 0, 2) 0) ≤ x2 then some (x1, h) else (jX9_wishOf x2 h).bind fun q2 =>
  (jX9_wishOf (x2 - (1 : Int32)) h).bind fun q3 =>
  (if q3 ≤ q2 then jX9_descents_L9 h n9 (x1 + (jX9_truth false h)) (x2 + 1) else jX9_descents_L9 h n9 (x1 + (jX9_truth true h)) (x2 + 1)))
def jX9_descents  (h : HD) : Option (Int32 × HD) :=
  lt (sI h (7, 0, 0) 0 (0 : Int32)) fun h1 =>
  jX9_descents_L9 h1 FU (0 : Int32) (1 : Int32)
def jX9_codes  (h : HD) : Option Int32 :=
  (if (gI h (7, 0, 2) 0) ≤ (1 : Int32) then some (0 : Int32) else some ((gI h (7, 0, 2) 0) - (1 : Int32)))
def jX9_codeAt (p1 : Int32) (h : HD) : Option Int32 :=
  (jX9_wishOf (p1 + (1 : Int32)) h).bind fun q1 =>
  (jX9_wishOf p1 h).bind fun q2 =>
  (jX9_round (q1 - q2) h).bind fun q3 =>
  some q3
def jX9_joins (p1 : Int32) (p2 : Int32) (h : HD) : Option HD :=
  if inB (gI h (7, 0, 0) 38) 11 = true then lt (sI h (7, 0, 19) ((gI h (7, 0, 0) 38).toNatClampNeg) (jX9_lesser p1 p2 h)) fun h1 =>
  if inB (gI h1 (7, 0, 0) 38) 11 = true then lt (sI h1 (7, 0, 20) ((gI h1 (7, 0, 0) 38).toNatClampNeg) ((p1 + p2) - (jX9_lesser p1 p2 h1))) fun h3 =>
  lt (sI h3 (7, 0, 0) 38 ((gI h3 (7, 0, 0) 38) + (1 : Int32))) fun h5 =>
  some h5 else none else none
def jX9_leastLeaf_L2 (h : HD) : Nat → Int32 → Option Int32
  | 0, _ => none
  | n2 + 1, x1 => (jX9_spots h).bind fun q1 =>
  (if q1 ≤ x1 then some (-1 : Int32) else if inB x1 12 = true then (if (gI h (7, 0, 23) x1.toNatClampNeg) = 0 then if inB x1 12 = true then (if (gI h (7, 0, 18) x1.toNatClampNeg) = (1 : Int32) then some x1 else jX9_leastLeaf_L2 h n2 (x1 + 1)) else none else jX9_leastLeaf_L2 h n2 (x1 + 1)) else none)
def jX9_leastLeaf  (h : HD) : Option Int32 :=
  jX9_leastLeaf_L2 h FU (0 : Int32)
def jX9_grows_L7 (k35 : HD → Option HD) : Nat → Int32 → HD → Option HD
  | 0, _, _ => none
  | n7 + 1, x1, h => (jX9_spots h).bind fun q2 =>
  (if q2 ≤ x1 then k35 h else if inB x1 12 = true then lt (sI h (7, 0, 18) x1.toNatClampNeg (1 : Int32)) fun h3 =>
  if inB x1 12 = true then lt (sI h3 (7, 0, 23) x1.toNatClampNeg (vp_nar .boolean (0 : Int32))) fun h5 =>
  jX9_grows_L7 k35 n7 (x1 + 1) h5 else none else none)
def jX9_grows_L37 (k65 : HD → Option HD) : Nat → Int32 → HD → Option HD
  | 0, _, _ => none
  | n37 + 1, x1, h => (jX9_codes h).bind fun q8 =>
  (if q8 ≤ x1 then k65 h else (jX9_codeAt x1 h).bind fun q9 =>
  if inB q9 12 = true then if inB q9 12 = true then lt (sI h (7, 0, 18) q9.toNatClampNeg ((gI h (7, 0, 18) q9.toNatClampNeg) + (1 : Int32))) fun h11 =>
  jX9_grows_L37 k65 n37 (x1 + 1) h11 else none else none)
def jX9_grows_L67 (k117 : HD → Option HD) : Nat → Int32 → HD → Option HD
  | 0, _, _ => none
  | n67 + 1, x1, h => (jX9_codes h).bind fun q14 =>
  (if q14 ≤ x1 then k117 h else (jX9_leastLeaf h).bind fun q15 =>
  (jX9_codeAt x1 h).bind fun q16 =>
  (jX9_joins q15 q16 h).bind fun q17 =>
  if inB q15 12 = true then lt (sI q17 (7, 0, 23) q15.toNatClampNeg (vp_nar .boolean (1 : Int32))) fun h18 =>
  (jX9_codeAt x1 h18).bind fun q20 =>
  if inB q20 12 = true then if inB q20 12 = true then lt (sI h18 (7, 0, 18) q20.toNatClampNeg ((gI h18 (7, 0, 18) q20.toNatClampNeg) - (1 : Int32))) fun h22 =>
  jX9_grows_L67 k117 n67 (x1 + 1) h22 else none else none else none)
def jX9_grows  (h : HD) : Option HD :=
  lt (sI h (7, 0, 0) 38 (0 : Int32)) fun h1 =>
  jX9_grows_L7 (fun h7 => jX9_grows_L37 (fun h13 => jX9_grows_L67 (fun h24 => (if (gI h24 (7, 0, 2) 0) = 0 then some h24 else (jX9_leastLeaf h24).bind fun q25 =>
  if inB q25 12 = true then lt (sI h24 (7, 0, 23) q25.toNatClampNeg (vp_nar .boolean (1 : Int32))) fun h26 =>
  (jX9_leastLeaf h26).bind fun q28 =>
  (jX9_joins q25 q28 h26).bind fun q29 =>
  some q29 else none)) FU (0 : Int32) h13) FU (0 : Int32) h7) FU (0 : Int32) h1
def jX9_code (p1 : Int32) (h : HD) : Option (Int32 × HD) :=
  lt (sI h (7, 0, 0) 0 (0 : Int32)) fun h1 =>
  (jX9_codes h1).bind fun q2 =>
  (if (jX9_isIn p1.toInt64 (0 : Int64) ((q2 - (1 : Int32)).toInt64) h1) = true then (jX9_codeAt p1 h1).bind fun q3 =>
  some (q3, h1) else some ((-1 : Int32), h1))
def jX9_edge (p1 : Int32) (h : HD) : Option (Int32 × HD) :=
  lt (sI h (7, 0, 0) 0 (0 : Int32)) fun h1 =>
  (jX9_grows h1).bind fun q2 =>
  (if (jX9_isIn p1.toInt64 (0 : Int64) (((gI q2 (7, 0, 0) 38) - (1 : Int32)).toInt64) q2) = true then if inB p1 11 = true then if inB p1 11 = true then some (((100 : Int32) * (gI q2 (7, 0, 19) p1.toNatClampNeg)) + (gI q2 (7, 0, 20) p1.toNatClampNeg), q2) else none else none else some ((-1 : Int32), q2))
def jX9_isAt (p1 : Int32) (p2 : Int32) (h : HD) : Option Bool :=
  if inB p1 11 = true then (if (gI h (7, 0, 19) p1.toNatClampNeg) = p2 then some true else if inB p1 11 = true then (if (gI h (7, 0, 20) p1.toNatClampNeg) = p2 then some true else some false) else none) else none
def jX9_degreeOf_L4 (p1 : Int32) (h : HD) : Nat → Int32 → Int32 → Option Int32
  | 0, _, _ => none
  | n4 + 1, x2, x3 => (if (gI h (7, 0, 0) 38) ≤ x3 then some x2 else (jX9_isAt x3 p1 h).bind fun q1 =>
  jX9_degreeOf_L4 p1 h n4 (x2 + (jX9_truth q1 h)) (x3 + 1))
def jX9_degreeOf (p1 : Int32) (h : HD) : Option Int32 :=
  jX9_degreeOf_L4 p1 h FU (0 : Int32) (0 : Int32)
def jX9_degree (p1 : Int32) (h : HD) : Option (Int32 × HD) :=
  (jX9_isSpot p1 h).bind fun q1 =>
  (jX9_goes q1 h).bind fun q2 =>
  (if q2.1 = true then (jX9_grows q2.2).bind fun q3 =>
  (jX9_degreeOf p1 q3).bind fun q4 =>
  some (q4, q3) else some ((0 : Int32), q2.2))
def jX9_walks_L2 (p1 : Int32) (k26 : HD → Option HD) : Nat → Int32 → HD → Option HD
  | 0, _, _ => none
  | n2 + 1, x2, h => (jX9_spots h).bind fun q1 =>
  (if q1 ≤ x2 then k26 h else (jX9_spots h).bind fun q2 =>
  if inB x2 12 = true then lt (sI h (7, 0, 21) x2.toNatClampNeg q2) fun h3 =>
  jX9_walks_L2 p1 k26 n2 (x2 + 1) h3 else none)
def jX9_walks_L45 (p1 : Int32) (x2 : Int32) (k135 : HD → Option HD) : Nat → Int32 → HD → Option HD
  | 0, _, _ => none
  | n45 + 1, x3, h => (if (gI h (7, 0, 0) 38) ≤ x3 then k135 h else if inB x3 11 = true then if inB x3 11 = true then if inB (gI h (7, 0, 19) x3.toNatClampNeg) 12 = true then if inB x3 11 = true then if inB (gI h (7, 0, 20) x3.toNatClampNeg) 12 = true then if inB (gI h (7, 0, 19) x3.toNatClampNeg) 12 = true then lt (sI h (7, 0, 21) ((gI h (7, 0, 19) x3.toNatClampNeg).toNatClampNeg) (jX9_lesser (gI h (7, 0, 21) (gI h (7, 0, 19) x3.toNatClampNeg).toNatClampNeg) ((gI h (7, 0, 21) (gI h (7, 0, 20) x3.toNatClampNeg).toNatClampNeg) + (1 : Int32)) h)) fun h14 =>
  if inB x3 11 = true then if inB x3 11 = true then if inB (gI h14 (7, 0, 20) x3.toNatClampNeg) 12 = true then if inB x3 11 = true then if inB (gI h14 (7, 0, 19) x3.toNatClampNeg) 12 = true then if inB (gI h14 (7, 0, 20) x3.toNatClampNeg) 12 = true then lt (sI h14 (7, 0, 21) ((gI h14 (7, 0, 20) x3.toNatClampNeg).toNatClampNeg) (jX9_lesser (gI h14 (7, 0, 21) (gI h14 (7, 0, 20) x3.toNatClampNeg).toNatClampNeg) ((gI h14 (7, 0, 21) (gI h14 (7, 0, 19) x3.toNatClampNeg).toNatClampNeg) + (1 : Int32)) h14)) fun h21 =>
  jX9_walks_L45 p1 x2 k135 n45 (x3 + 1) h21 else none else none else none else none else none else none else none else none else none else none else none else none)
def jX9_walks_L35 (p1 : Int32) : Nat → Int32 → HD → Option HD
  | 0, _, _ => none
  | n35 + 1, x2, h => (jX9_spots h).bind fun q8 =>
  (if q8 ≤ x2 then some h else jX9_walks_L45 p1 x2 (fun h23 => jX9_walks_L35 p1 n35 (x2 + 1) h23) FU (0 : Int32) h)
def jX9_walks (p1 : Int32) (h : HD) : Option HD :=
  jX9_walks_L2 p1 (fun h5 => if inB p1 12 = true then lt (sI h5 (7, 0, 21) p1.toNatClampNeg (0 : Int32)) fun h6 =>
  jX9_walks_L35 p1 FU (0 : Int32) h6 else none) FU (0 : Int32) h
def jX9_far (p1 : Int32) (p2 : Int32) (h : HD) : Option (Int32 × HD) :=
  (jX9_isSpot p1 h).bind fun q1 =>
  (if q1 = true then (jX9_isSpot p2 h).bind fun q6 =>
  (if q6 = true then (jX9_goes true h).bind fun q11 =>
  (if q11.1 = true then (jX9_grows q11.2).bind fun q12 =>
  (jX9_walks p1 q12).bind fun q13 =>
  if inB p2 12 = true then some (gI q13 (7, 0, 21) p2.toNatClampNeg, q13) else none else some ((0 : Int32), q11.2)) else (jX9_goes false h).bind fun q7 =>
  (if q7.1 = true then (jX9_grows q7.2).bind fun q8 =>
  (jX9_walks p1 q8).bind fun q9 =>
  if inB p2 12 = true then some (gI q9 (7, 0, 21) p2.toNatClampNeg, q9) else none else some ((0 : Int32), q7.2))) else (jX9_goes false h).bind fun q2 =>
  (if q2.1 = true then (jX9_grows q2.2).bind fun q3 =>
  (jX9_walks p1 q3).bind fun q4 =>
  if inB p2 12 = true then some (gI q4 (7, 0, 21) p2.toNatClampNeg, q4) else none else some ((0 : Int32), q2.2)))
def jX9_wide_L28 (x2 : Int32) (h : HD) (k59 : Int32 → Option (Int32 × HD)) : Nat → Int32 → Int32 → Option (Int32 × HD)
  | 0, _, _ => none
  | n28 + 1, x1, x3 => (jX9_spots h).bind fun q5 =>
  (if q5 ≤ x3 then k59 x1 else if inB x3 12 = true then (if (gI h (7, 0, 21) x3.toNatClampNeg) ≤ x1 then jX9_wide_L28 x2 h k59 n28 x1 (x3 + 1) else if inB x3 12 = true then jX9_wide_L28 x2 h k59 n28 (gI h (7, 0, 21) x3.toNatClampNeg) (x3 + 1) else none) else none)
def jX9_wide_L13  : Nat → Int32 → Int32 → HD → Option (Int32 × HD)
  | 0, _, _, _ => none
  | n13 + 1, x1, x2, h => (jX9_spots h).bind fun q3 =>
  (if q3 ≤ x2 then some (x1, h) else (jX9_walks x2 h).bind fun q4 =>
  jX9_wide_L28 x2 q4 (fun y28_1 => jX9_wide_L13 n13 y28_1 (x2 + 1) q4) FU x1 (0 : Int32))
def jX9_wide  (h : HD) : Option (Int32 × HD) :=
  lt (sI h (7, 0, 0) 0 (0 : Int32)) fun h1 =>
  (jX9_grows h1).bind fun q2 =>
  jX9_wide_L13  FU (0 : Int32) (0 : Int32) q2
def jX9_leaves_L13 (h : HD) : Nat → Int32 → Int32 → Option (Int32 × HD)
  | 0, _, _ => none
  | n13 + 1, x1, x2 => (jX9_spots h).bind fun q3 =>
  (if q3 ≤ x2 then some (x1, h) else (jX9_degreeOf x2 h).bind fun q4 =>
  (if q4 = (1 : Int32) then jX9_leaves_L13 h n13 (x1 + (jX9_truth true h)) (x2 + 1) else jX9_leaves_L13 h n13 (x1 + (jX9_truth false h)) (x2 + 1)))
def jX9_leaves  (h : HD) : Option (Int32 × HD) :=
  lt (sI h (7, 0, 0) 0 (0 : Int32)) fun h1 =>
  (jX9_grows h1).bind fun q2 =>
  jX9_leaves_L13 q2 FU (0 : Int32) (0 : Int32)
def jX9_liveDegree_L4 (p1 : Int32) (h : HD) : Nat → Int32 → Int32 → Option Int32
  | 0, _, _ => none
  | n4 + 1, x2, x3 => (if (gI h (7, 0, 0) 38) ≤ x3 then some x2 else if inB x3 11 = true then (if (gI h (7, 0, 24) x3.toNatClampNeg) = 0 then (jX9_isAt x3 p1 h).bind fun q2 =>
  (if q2 = true then jX9_liveDegree_L4 p1 h n4 (x2 + (jX9_truth true h)) (x3 + 1) else jX9_liveDegree_L4 p1 h n4 (x2 + (jX9_truth false h)) (x3 + 1)) else jX9_liveDegree_L4 p1 h n4 (x2 + (jX9_truth false h)) (x3 + 1)) else none)
def jX9_liveDegree (p1 : Int32) (h : HD) : Option Int32 :=
  jX9_liveDegree_L4 p1 h FU (0 : Int32) (0 : Int32)
def jX9_liveEdge_L2 (p1 : Int32) (h : HD) : Nat → Int32 → Option Int32
  | 0, _ => none
  | n2 + 1, x2 => (if (gI h (7, 0, 0) 38) ≤ x2 then some (-1 : Int32) else if inB x2 11 = true then (if (gI h (7, 0, 24) x2.toNatClampNeg) = 0 then (jX9_isAt x2 p1 h).bind fun q2 =>
  (if q2 = true then some x2 else jX9_liveEdge_L2 p1 h n2 (x2 + 1)) else jX9_liveEdge_L2 p1 h n2 (x2 + 1)) else none)
def jX9_liveEdge (p1 : Int32) (h : HD) : Option Int32 :=
  jX9_liveEdge_L2 p1 h FU (0 : Int32)
def jX9_leastWithOne_L2 (h : HD) : Nat → Int32 → Option Int32
  | 0, _ => none
  | n2 + 1, x1 => (jX9_spots h).bind fun q1 =>
  (if q1 ≤ x1 then some (-1 : Int32) else (jX9_liveDegree x1 h).bind fun q2 =>
  (if q2 = (1 : Int32) then some x1 else jX9_leastWithOne_L2 h n2 (x1 + 1)))
def jX9_leastWithOne  (h : HD) : Option Int32 :=
  jX9_leastWithOne_L2 h FU (0 : Int32)
def jX9_codeGap_L11 (k32 : HD → Option (Int32 × HD)) : Nat → Int32 → HD → Option (Int32 × HD)
  | 0, _, _ => none
  | n11 + 1, x1, h => (if (gI h (7, 0, 0) 38) ≤ x1 then k32 h else if inB x1 11 = true then lt (sI h (7, 0, 24) x1.toNatClampNeg (vp_nar .boolean (0 : Int32))) fun h3 =>
  jX9_codeGap_L11 k32 n11 (x1 + 1) h3 else none)
def jX9_codeGap_L36  : Nat → Int32 → Int32 → HD → Option (Int32 × HD)
  | 0, _, _, _ => none
  | n36 + 1, x1, x2, h => (jX9_codes h).bind fun q6 =>
  (if q6 ≤ x2 then some (x1, h) else (jX9_leastWithOne h).bind fun q7 =>
  (jX9_liveEdge q7 h).bind fun q8 =>
  if inB q8 11 = true then if inB q8 11 = true then if inB x2 11 = true then lt (sI h (7, 0, 22) x2.toNatClampNeg (((gI h (7, 0, 19) q8.toNatClampNeg) + (gI h (7, 0, 20) q8.toNatClampNeg)) - q7)) fun h11 =>
  if inB q8 11 = true then lt (sI h11 (7, 0, 24) q8.toNatClampNeg (vp_nar .boolean (1 : Int32))) fun h13 =>
  if inB x2 11 = true then (jX9_codeAt x2 h13).bind fun q16 =>
  (if (gI h13 (7, 0, 22) x2.toNatClampNeg) = q16 then jX9_codeGap_L36 n36 (x1 + (jX9_truth false h13)) (x2 + 1) h13 else jX9_codeGap_L36 n36 (x1 + (jX9_truth true h13)) (x2 + 1) h13) else none else none else none else none else none)
def jX9_codeGap  (h : HD) : Option (Int32 × HD) :=
  lt (sI h (7, 0, 0) 0 (0 : Int32)) fun h1 =>
  (jX9_grows h1).bind fun q2 =>
  jX9_codeGap_L11 (fun h5 => jX9_codeGap_L36  FU (0 : Int32) (0 : Int32) h5) FU (0 : Int32) q2
def jX9_meanWay  (h : HD) : Option (UInt64 × HD) :=
  lt (sI h (7, 0, 0) 0 (0 : Int32)) fun h1 =>
  (jX9_parks (gI h1 (7, 0, 2) 0) h1).bind fun q2 =>
  (if (gI q2 (7, 0, 2) 0) = 0 then some (FP.dconst0, q2) else (jX9_way q2).bind fun q3 =>
  if nn64 (FP.ddiv (FP.i2d q3) (FP.i2d (gI q2 (7, 0, 2) 0))) = true then some (FP.ddiv (FP.i2d q3) (FP.i2d (gI q2 (7, 0, 2) 0)), q2) else none)
def jX9_luckyShare  (h : HD) : Option (UInt32 × HD) :=
  lt (sI h (7, 0, 0) 0 (0 : Int32)) fun h1 =>
  (jX9_parks (gI h1 (7, 0, 2) 0) h1).bind fun q2 =>
  (if (gI q2 (7, 0, 2) 0) = 0 then some (FP.fconst0, q2) else (jX9_luckyMany q2).bind fun q3 =>
  if nn32 (FP.fdiv (FP.i2f q3) (FP.i2f (gI q2 (7, 0, 2) 0))) = true then some (FP.fdiv (FP.i2f q3) (FP.i2f (gI q2 (7, 0, 2) 0)), q2) else none)
def jX9_spotIf (p1 : Int32) (p2 : Int32) (h : HD) : Option (Int32 × HD) :=
  (jX9_isCar p1 h).bind fun q1 =>
  (jX9_isSpot p2 h).bind fun q2 =>
  (jX9_goesBoth q1 q2 h).bind fun q3 =>
  (if q3.1 = true then (jX9_laysAway q3.2).bind fun q4 =>
  if inB ((2 : Int32) + p1) 13 = true then lt (sI q4 (7, 0, 2) (((2 : Int32) + p1).toNatClampNeg) p2) fun h5 =>
  (jX9_parks (gI h5 (7, 0, 2) 0) h5).bind fun q7 =>
  if inB p1 11 = true then (jX9_fromAway (gI q7 (7, 0, 14) p1.toNatClampNeg) q7).bind fun q9 =>
  some (q9.1, q9.2) else none else none else some ((0 : Int32), q3.2))
def jX9_settingIf (p1 : Int32) (p2 : Int32) (p3 : Int32) (h : HD) : Option (Int32 × HD) :=
  (jX9_isCar p1 h).bind fun q1 =>
  (jX9_isSpot p2 h).bind fun q2 =>
  (if q2 = true then (if (jX9_isSetting p3 h) = true then (jX9_goesBoth q1 true h).bind fun q15 =>
  (if q15.1 = true then (jX9_laysAway q15.2).bind fun q16 =>
  if inB ((2 : Int32) + p1) 13 = true then lt (sI q16 (7, 0, 2) (((2 : Int32) + p1).toNatClampNeg) p2) fun h17 =>
  (jX9_settingOf p3 h17).bind fun q19 =>
  (jX9_fromAway q19.1 q19.2).bind fun q20 =>
  some (q20.1, q20.2) else none else some ((0 : Int32), q15.2)) else (jX9_goesBoth q1 false h).bind fun q9 =>
  (if q9.1 = true then (jX9_laysAway q9.2).bind fun q10 =>
  if inB ((2 : Int32) + p1) 13 = true then lt (sI q10 (7, 0, 2) (((2 : Int32) + p1).toNatClampNeg) p2) fun h11 =>
  (jX9_settingOf p3 h11).bind fun q13 =>
  (jX9_fromAway q13.1 q13.2).bind fun q14 =>
  some (q14.1, q14.2) else none else some ((0 : Int32), q9.2))) else (jX9_goesBoth q1 false h).bind fun q3 =>
  (if q3.1 = true then (jX9_laysAway q3.2).bind fun q4 =>
  if inB ((2 : Int32) + p1) 13 = true then lt (sI q4 (7, 0, 2) (((2 : Int32) + p1).toNatClampNeg) p2) fun h5 =>
  (jX9_settingOf p3 h5).bind fun q7 =>
  (jX9_fromAway q7.1 q7.2).bind fun q8 =>
  some (q8.1, q8.2) else none else some ((0 : Int32), q3.2)))
def jX9_bestFor_L25 (p1 : Int32) (k72 : Int32 → HD → Option (Int32 × HD)) : Nat → Int32 → Int32 → Int32 → HD → Option (Int32 × HD)
  | 0, _, _, _, _ => none
  | n25 + 1, x2, x3, x4, h => (jX9_spots h).bind fun q4 =>
  (if q4 ≤ x4 then k72 x2 h else if inB ((2 : Int32) + p1) 13 = true then lt (sI h (7, 0, 2) (((2 : Int32) + p1).toNatClampNeg) x4) fun h5 =>
  (jX9_settingOf (4 : Int32) h5).bind fun q7 =>
  (if x3 < q7.1 then jX9_bestFor_L25 p1 k72 n25 x4 q7.1 (x4 + 1) q7.2 else jX9_bestFor_L25 p1 k72 n25 x2 x3 (x4 + 1) q7.2) else none)
def jX9_bestFor (p1 : Int32) (h : HD) : Option (Int32 × HD) :=
  (jX9_isCar p1 h).bind fun q1 =>
  (jX9_goes q1 h).bind fun q2 =>
  (if q2.1 = true then (jX9_laysAway q2.2).bind fun q3 =>
  jX9_bestFor_L25 p1 (fun y25_2 h8 => (jX9_fromAway y25_2 h8).bind fun q9 =>
  some (q9.1, q9.2)) FU (0 : Int32) (-1 : Int32) (0 : Int32) q3 else some ((0 : Int32), q2.2))
def jX9_changesPlaces (p1 : Int32) (p2 : Int32) (h : HD) : Option HD :=
  (jX9_wishOf p1 h).bind fun q1 =>
  if inB p1 11 = true then (jX9_wishOf p2 h).bind fun q3 =>
  if inB ((2 : Int32) + p1) 13 = true then lt (sI h (7, 0, 2) (((2 : Int32) + p1).toNatClampNeg) q3) fun h4 =>
  if inB p2 11 = true then if inB p1 11 = true then lt (sJ h4 (7, 0, 7) p1.toNatClampNeg (gJ h4 (7, 0, 7) p2.toNatClampNeg)) fun h7 =>
  if inB ((2 : Int32) + p2) 13 = true then lt (sI h7 (7, 0, 2) (((2 : Int32) + p2).toNatClampNeg) q1) fun h9 =>
  if inB p2 11 = true then lt (sJ h9 (7, 0, 7) p2.toNatClampNeg (gJ h (7, 0, 7) p1.toNatClampNeg)) fun h11 =>
  some h11 else none else none else none else none else none else none
def jX9_placesAt_L2 (p1 : Int32) (p2 : Int32) (k21 : HD → Option HD) : Nat → Int32 → HD → Option HD
  | 0, _, _ => none
  | n2 + 1, x3, h => (if p2 ≤ x3 then k21 h else (jX9_changesPlaces x3 (x3 + (1 : Int32)) h).bind fun q1 =>
  jX9_placesAt_L2 p1 p2 k21 n2 (x3 + 1) q1)
def jX9_placesAt_L23 (p1 : Int32) (p2 : Int32) : Nat → Int32 → HD → Option HD
  | 0, _, _ => none
  | n23 + 1, x3, h => (if x3 ≤ p2 then some h else (jX9_changesPlaces x3 (x3 - (1 : Int32)) h).bind fun q3 =>
  jX9_placesAt_L23 p1 p2 n23 (x3 + (-1)) q3)
def jX9_placesAt (p1 : Int32) (p2 : Int32) (h : HD) : Option HD :=
  jX9_placesAt_L2 p1 p2 (fun h2 => jX9_placesAt_L23 p1 p2 FU p1 h2) FU p1 h
def jX9_latest_L18 (p1 : Int32) : Nat → Int32 → Int32 → HD → Option (Int32 × HD)
  | 0, _, _, _ => none
  | n18 + 1, x2, x3, h => (if (gI h (7, 0, 2) 0) ≤ x3 then some (x2, h) else (jX9_laysAway h).bind fun q3 =>
  (jX9_placesAt p1 x3 q3).bind fun q4 =>
  (jX9_parks (gI q4 (7, 0, 2) 0) q4).bind fun q5 =>
  if inB x3 11 = true then (if (gI q5 (7, 0, 15) x3.toNatClampNeg) = 0 then (jX9_fromAway x3 q5).bind fun q8 =>
  jX9_latest_L18 p1 n18 q8.1 (x3 + 1) q8.2 else (jX9_fromAway x2 q5).bind fun q7 =>
  jX9_latest_L18 p1 n18 q7.1 (x3 + 1) q7.2) else none)
def jX9_latest (p1 : Int32) (h : HD) : Option (Int32 × HD) :=
  (jX9_isCar p1 h).bind fun q1 =>
  (jX9_goes q1 h).bind fun q2 =>
  (if q2.1 = true then jX9_latest_L18 p1 FU (-1 : Int32) (0 : Int32) q2.2 else some ((0 : Int32), q2.2))
def jX9_wayWith (p1 : Int32) (h : HD) : Option (Int32 × HD) :=
  (jX9_laysAway h).bind fun q1 =>
  lt (sI q1 (7, 0, 2) 1 p1) fun h2 =>
  (jX9_parks (gI h2 (7, 0, 2) 0) h2).bind fun q3 =>
  (jX9_way q3).bind fun q4 =>
  (jX9_fromAway q4 q3).bind fun q5 =>
  some (q5.1, q5.2)
def jX9_isBack (p1 : Int32) (h : HD) : Bool :=
  (jX9_isIn p1.toInt64 (0 : Int64) (5 : Int64) h)
def jX9_wayBy (p1 : Int32) (h : HD) : Option (Int32 × HD) :=
  (jX9_goes (jX9_isBack p1 h) h).bind fun q1 =>
  (if q1.1 = true then (jX9_wayWith p1 q1.2).bind fun q2 =>
  some (q2.1, q2.2) else some ((0 : Int32), q1.2))
def jX9_bestBack_L9  : Nat → Int32 → Int32 → HD → Option (Int32 × HD)
  | 0, _, _, _ => none
  | n9 + 1, x1, x2, h => (if (5 : Int32) < x2 then some (x1, h) else (jX9_wayWith x2 h).bind fun q2 =>
  (jX9_wayWith x1 q2.2).bind fun q3 =>
  (if q3.1 ≤ q2.1 then jX9_bestBack_L9 n9 x1 (x2 + 1) q3.2 else jX9_bestBack_L9 n9 x2 (x2 + 1) q3.2))
def jX9_bestBack  (h : HD) : Option (Int32 × HD) :=
  lt (sI h (7, 0, 0) 0 (0 : Int32)) fun h1 =>
  jX9_bestBack_L9  FU (0 : Int32) (1 : Int32) h1
def jX9_wishes (p1 : Int32) (p2 : Int32) (h : HD) : Option (Int32 × HD) :=
  (jX9_wishOf p1 h).bind fun q1 =>
  if inB ((2 : Int32) + p1) 13 = true then lt (sI h (7, 0, 2) (((2 : Int32) + p1).toNatClampNeg) p2) fun h2 =>
  (jX9_acted q1 h2).bind fun q4 =>
  some (q4.1, q4.2) else none
def jX9_prefer (p1 : Int32) (p2 : Int32) (h : HD) : Option (Int32 × HD) :=
  (jX9_isCar p1 h).bind fun q1 =>
  (jX9_isSpot p2 h).bind fun q2 =>
  (jX9_goesBoth q1 q2 h).bind fun q3 =>
  (if q3.1 = true then (jX9_laysAside q3.2).bind fun q4 =>
  (jX9_wishes p1 p2 q4).bind fun q5 =>
  (jX9_kept q5.1 q5.2).bind fun q6 =>
  some (q6.1, q6.2) else some ((0 : Int32), q3.2))
def jX9_whyNoSwap (p1 : Int32) (h : HD) : Option Int32 :=
  (if p1 = ((gI h (7, 0, 2) 0) - (1 : Int32)) then some (3 : Int32) else some (0 : Int32))
def jX9_swaps (p1 : Int32) (h : HD) : Option (Int32 × HD) :=
  (jX9_changesPlaces p1 (p1 + (1 : Int32)) h).bind fun q1 =>
  (jX9_acted p1 q1).bind fun q2 =>
  some (q2.1, q2.2)
def jX9_swap (p1 : Int32) (h : HD) : Option (Bool × HD) :=
  (jX9_isCar p1 h).bind fun q1 =>
  (jX9_goes q1 h).bind fun q2 =>
  (if q2.1 = true then (jX9_whyNoSwap p1 q2.2).bind fun q3 =>
  (jX9_refused q3 q2.2).bind fun q4 =>
  (if q4.1 = true then some (false, q4.2) else (jX9_laysAside q4.2).bind fun q5 =>
  (jX9_swaps p1 q5).bind fun q6 =>
  (jX9_kept q6.1 q6.2).bind fun q7 =>
  (if q7.1 < 0 then some (false, q7.2) else some (true, q7.2))) else some (false, q2.2))
def jX9_turns_L2 (p1 : Int32) (k37 : HD → Option (Int32 × HD)) : Nat → Int32 → HD → Option (Int32 × HD)
  | 0, _, _ => none
  | n2 + 1, x2, h => (if (gI h (7, 0, 2) 0) ≤ x2 then k37 h else (jX9_wishOf x2 h).bind fun q1 =>
  (jX9_round (q1 + p1) h).bind fun q2 =>
  if inB ((2 : Int32) + x2) 13 = true then lt (sI h (7, 0, 2) (((2 : Int32) + x2).toNatClampNeg) q2) fun h3 =>
  jX9_turns_L2 p1 k37 n2 (x2 + 1) h3 else none)
def jX9_turns (p1 : Int32) (h : HD) : Option (Int32 × HD) :=
  jX9_turns_L2 p1 (fun h5 => (jX9_settingOf (7 : Int32) h5).bind fun q6 =>
  (jX9_acted q6.1 q6.2).bind fun q7 =>
  some (q7.1, q7.2)) FU (0 : Int32) h
def jX9_isTurn (p1 : Int32) (h : HD) : Bool :=
  (jX9_isIn p1.toInt64 (0 : Int64) (99 : Int64) h)
def jX9_turn (p1 : Int32) (h : HD) : Option (Int32 × HD) :=
  (jX9_goes (jX9_isTurn p1 h) h).bind fun q1 =>
  (if q1.1 = true then (jX9_laysAside q1.2).bind fun q2 =>
  (jX9_turns p1 q2).bind fun q3 =>
  (jX9_kept q3.1 q3.2).bind fun q4 =>
  some (q4.1, q4.2) else some ((0 : Int32), q1.2))
def jX9_looksBack (p1 : Int32) (h : HD) : Option (Int32 × HD) :=
  lt (sI h (7, 0, 2) 1 p1) fun h1 =>
  (jX9_acted (gI h (7, 0, 2) 1) h1).bind fun q2 =>
  some (q2.1, q2.2)
def jX9_setBack (p1 : Int32) (h : HD) : Option (Int32 × HD) :=
  (jX9_goes (jX9_isBack p1 h) h).bind fun q1 =>
  (if q1.1 = true then (jX9_laysAside q1.2).bind fun q2 =>
  (jX9_looksBack p1 q2).bind fun q3 =>
  (jX9_kept q3.1 q3.2).bind fun q4 =>
  some (q4.1, q4.2) else some ((0 : Int32), q1.2))
def jX9_mayCome (p1 : Int32) (h : HD) : Option Bool :=
  some (jX9_isIn p1.toInt64 (0 : Int64) (((gI h (7, 0, 2) 0) + (1 : Int32)).toInt64) h)
def jX9_whyNoCar (p1 : Int64) (h : HD) : Option Int32 :=
  (if (gI h (7, 0, 2) 0) = (11 : Int32) then some (1 : Int32) else (if (lg_cmp p1 (0 : Int64)) = 0 then some (2 : Int32) else (jX9_carNamed p1 h).bind fun q1 =>
  (if q1 = (-1 : Int32) then some (0 : Int32) else some (2 : Int32))))
def jX9_comes (p1 : Int64) (p2 : Int32) (h : HD) : Option (Int32 × HD) :=
  if inB (gI h (7, 0, 2) 0) 11 = true then lt (sJ h (7, 0, 7) ((gI h (7, 0, 2) 0).toNatClampNeg) p1) fun h1 =>
  if inB ((2 : Int32) + (gI h1 (7, 0, 2) 0)) 13 = true then lt (sI h1 (7, 0, 2) (((2 : Int32) + (gI h1 (7, 0, 2) 0)).toNatClampNeg) p2) fun h3 =>
  lt (sI h3 (7, 0, 2) 0 ((gI h3 (7, 0, 2) 0) + (1 : Int32))) fun h5 =>
  lt (sI h5 (7, 0, 12) 2 ((gI h5 (7, 0, 12) 2) + (1 : Int32))) fun h6 =>
  (jX9_acted (gI h6 (7, 0, 2) 0) h6).bind fun q7 =>
  some (q7.1, q7.2) else none else none
def jX9_bufferName_L18 (h : HD) (k74 : Int64 → Int32 → Option Int64) : Nat → Int64 → Int32 → Int32 → Option Int64
  | 0, _, _, _ => none
  | n18 + 1, x1, x3, x4 => (if (gI h (7, 0, 0) 2) ≤ x4 then k74 x1 x3 else (if x3 = 0 then k74 x1 x3 else if inB x4 400 = true then if inB x4 400 = true then jX9_bufferName_L18 h k74 n18 ((((32 : Int64) * x1) + ((gI h (7, 0, 1) x4.toNatClampNeg).toInt64)) - (96 : Int64)) (b2i (jX9_isIn ((gI h (7, 0, 1) x4.toNatClampNeg).toInt64) (97 : Int64) (122 : Int64) h)) (x4 + 1) else none else none))
def jX9_bufferName  (h : HD) : Option Int64 :=
  jX9_bufferName_L18 h (fun y18_1 y18_3 => (if y18_3 = 0 then some (0 : Int64) else some y18_1)) FU (0 : Int64) (b2i (jX9_isIn ((gI h (7, 0, 0) 2).toInt64) (1 : Int64) (8 : Int64) h)) (0 : Int32)
def jX9_come (p1 : Int32) (h : HD) : Option (Bool × HD) :=
  (jX9_mayCome p1 h).bind fun q1 =>
  (jX9_goes q1 h).bind fun q2 =>
  (if q2.1 = true then (jX9_bufferName q2.2).bind fun q3 =>
  (jX9_whyNoCar q3 q2.2).bind fun q4 =>
  (jX9_refused q4 q2.2).bind fun q5 =>
  (if q5.1 = true then some (false, q5.2) else (jX9_laysAside q5.2).bind fun q6 =>
  (jX9_bufferName q6).bind fun q7 =>
  (jX9_comes q7 p1 q6).bind fun q8 =>
  lt (sI q8.2 (7, 0, 0) 2 (0 : Int32)) fun h9 =>
  (jX9_kept q8.1 h9).bind fun q10 =>
  (if q10.1 ≤ 0 then some (false, q10.2) else some (true, q10.2))) else some (false, q2.2))
def jX9_whyNoGo_L2 (p1 : Int32) (h : HD) : Nat → Int32 → Option Int32
  | 0, _ => none
  | n2 + 1, x2 => (if (gI h (7, 0, 2) 0) ≤ x2 then some (0 : Int32) else (if x2 = p1 then jX9_whyNoGo_L2 p1 h n2 (x2 + 1) else (jX9_wishOf x2 h).bind fun q1 =>
  (if q1 = (gI h (7, 0, 2) 0) then some (4 : Int32) else jX9_whyNoGo_L2 p1 h n2 (x2 + 1))))
def jX9_whyNoGo (p1 : Int32) (h : HD) : Option Int32 :=
  jX9_whyNoGo_L2 p1 h FU (0 : Int32)
def jX9_leaves0 (p1 : Int32) (h : HD) : Option (Int32 × HD) :=
  (jX9_placesAt p1 ((gI h (7, 0, 2) 0) - (1 : Int32)) h).bind fun q1 =>
  lt (sI q1 (7, 0, 2) 0 ((gI q1 (7, 0, 2) 0) - (1 : Int32))) fun h2 =>
  if inB ((2 : Int32) + (gI h2 (7, 0, 2) 0)) 13 = true then lt (sI h2 (7, 0, 2) (((2 : Int32) + (gI h2 (7, 0, 2) 0)).toNatClampNeg) (0 : Int32)) fun h3 =>
  if inB (gI h3 (7, 0, 2) 0) 11 = true then lt (sJ h3 (7, 0, 7) ((gI h3 (7, 0, 2) 0).toNatClampNeg) (0 : Int64)) fun h5 =>
  lt (sI h5 (7, 0, 12) 3 ((gI h5 (7, 0, 12) 3) + (1 : Int32))) fun h7 =>
  (jX9_acted (gI h7 (7, 0, 2) 0) h7).bind fun q8 =>
  some (q8.1, q8.2) else none else none
def jX9_go (p1 : Int32) (h : HD) : Option (Bool × HD) :=
  (jX9_isCar p1 h).bind fun q1 =>
  (jX9_goes q1 h).bind fun q2 =>
  (if q2.1 = true then (jX9_whyNoGo p1 q2.2).bind fun q3 =>
  (jX9_refused q3 q2.2).bind fun q4 =>
  (if q4.1 = true then some (false, q4.2) else (jX9_laysAside q4.2).bind fun q5 =>
  (jX9_leaves0 p1 q5).bind fun q6 =>
  (jX9_kept q6.1 q6.2).bind fun q7 =>
  (if q7.1 < 0 then some (false, q7.2) else some (true, q7.2))) else some (false, q2.2))
def jX9_sorts_L8 (k35 : HD → Option (Int32 × HD)) : Nat → Int32 → HD → Option (Int32 × HD)
  | 0, _, _ => none
  | n8 + 1, x2, h => (if (gI h (7, 0, 2) 0) ≤ x2 then k35 h else (jX9_rankOf x2 h).bind fun q2 =>
  if inB x2 11 = true then lt (sI h (7, 0, 22) x2.toNatClampNeg q2) fun h3 =>
  jX9_sorts_L8 k35 n8 (x2 + 1) h3 else none)
def jX9_sorts_L37 (k112 : Int32 → HD → Option (Int32 × HD)) : Nat → Int32 → Int32 → HD → Option (Int32 × HD)
  | 0, _, _, _ => none
  | n37 + 1, x1, x2, h => (if (gI h (7, 0, 2) 0) ≤ x2 then k112 x1 h else if inB x2 11 = true then if inB ((2 : Int32) + x2) 13 = true then if inB ((2 : Int32) + (gI h (7, 0, 22) x2.toNatClampNeg)) 13 = true then lt (sI h (7, 0, 2) (((2 : Int32) + (gI h (7, 0, 22) x2.toNatClampNeg)).toNatClampNeg) (gI h (7, 0, 5) ((2 : Int32) + x2).toNatClampNeg)) fun h8 =>
  if inB x2 11 = true then if inB x2 11 = true then if inB (gI h8 (7, 0, 22) x2.toNatClampNeg) 11 = true then lt (sJ h8 (7, 0, 7) ((gI h8 (7, 0, 22) x2.toNatClampNeg).toNatClampNeg) (gJ h8 (7, 0, 10) x2.toNatClampNeg)) fun h12 =>
  if inB x2 11 = true then (if (gI h12 (7, 0, 22) x2.toNatClampNeg) = x2 then jX9_sorts_L37 k112 n37 (x1 + (jX9_truth false h12)) (x2 + 1) h12 else jX9_sorts_L37 k112 n37 (x1 + (jX9_truth true h12)) (x2 + 1) h12) else none else none else none else none else none else none else none)
def jX9_sorts  (h : HD) : Option (Int32 × HD) :=
  (jX9_laysAway h).bind fun q1 =>
  jX9_sorts_L8 (fun h5 => jX9_sorts_L37 (fun y37_1 h15 => (jX9_acted y37_1 h15).bind fun q16 =>
  some (q16.1, q16.2)) FU (0 : Int32) (0 : Int32) h5) FU (0 : Int32) q1
def jX9_sort  (h : HD) : Option (Int32 × HD) :=
  lt (sI h (7, 0, 0) 0 (0 : Int32)) fun h1 =>
  (jX9_laysAside h1).bind fun q2 =>
  (jX9_sorts q2).bind fun q3 =>
  (jX9_kept q3.1 q3.2).bind fun q4 =>
  some (q4.1, q4.2)
def jX9_reverses_L2 (k37 : HD → Option (Int32 × HD)) : Nat → Int32 → HD → Option (Int32 × HD)
  | 0, _, _ => none
  | n2 + 1, x1, h => (if (((gI h (7, 0, 2) 0) - (1 : Int32)) - x1) ≤ x1 then k37 h else (jX9_changesPlaces x1 (((gI h (7, 0, 2) 0) - (1 : Int32)) - x1) h).bind fun q1 =>
  jX9_reverses_L2 k37 n2 (x1 + 1) q1)
def jX9_reverses  (h : HD) : Option (Int32 × HD) :=
  jX9_reverses_L2 (fun h2 => (jX9_settingOf (4 : Int32) h2).bind fun q3 =>
  (jX9_acted q3.1 q3.2).bind fun q4 =>
  some (q4.1, q4.2)) FU (0 : Int32) h
def jX9_reverse  (h : HD) : Option (Int32 × HD) :=
  lt (sI h (7, 0, 0) 0 (0 : Int32)) fun h1 =>
  (jX9_laysAside h1).bind fun q2 =>
  (jX9_reverses q2).bind fun q3 =>
  (jX9_kept q3.1 q3.2).bind fun q4 =>
  some (q4.1, q4.2)
def jX9_commandHere  (h : HD) : Int32 :=
  (if (jX9_isWord (555915442 : Int64) h) = true then (0 : Int32) else (if (jX9_isWord (114085 : Int64) h) = true then (1 : Int32) else (if (jX9_isWord (646192 : Int64) h) = true then (2 : Int32) else (if (jX9_isWord (239 : Int64) h) = true then (3 : Int32) else (if (jX9_isWord (677454 : Int64) h) = true then (4 : Int32) else (if (jX9_isWord (66667 : Int64) h) = true then (5 : Int32) else (if (jX9_isWord (638548 : Int64) h) = true then (6 : Int32) else (if (jX9_isWord (19518376549 : Int64) h) = true then (7 : Int32) else (if (jX9_isWord (609752116 : Int64) h) = true then (8 : Int32) else (-1 : Int32))))))))))
def jX9_readsRest (p1 : Int32) (p2 : Int32) (h : HD) : Option HD :=
  (if (jX9_isIn p2.toInt64 (0 : Int64) (3 : Int64) h) = true then (jX9_nameHere h).bind fun q33 =>
  if inB p1 60 = true then lt (sJ q33.2 (7, 0, 29) p1.toNatClampNeg q33.1) fun h34 =>
  (if p2 = 0 then (jX9_number (0 : Int32) (999 : Int32) h34).bind fun q36 =>
  if inB p1 60 = true then lt (sI q36.2 (7, 0, 26) p1.toNatClampNeg q36.1) fun h37 =>
  (if p2 = (8 : Int32) then (jX9_number (1 : Int32) (20 : Int32) h37).bind fun q39 =>
  if inB p1 60 = true then lt (sI q39.2 (7, 0, 26) p1.toNatClampNeg q39.1) fun h40 =>
  (jX9_mustSign (40 : Int32) h40).bind fun q42 =>
  some q42 else none else some h37) else none else (if p2 = (1 : Int32) then (jX9_number (0 : Int32) (999 : Int32) h34).bind fun q43 =>
  if inB p1 60 = true then lt (sI q43.2 (7, 0, 26) p1.toNatClampNeg q43.1) fun h44 =>
  (if p2 = (8 : Int32) then (jX9_number (1 : Int32) (20 : Int32) h44).bind fun q46 =>
  if inB p1 60 = true then lt (sI q46.2 (7, 0, 26) p1.toNatClampNeg q46.1) fun h47 =>
  (jX9_mustSign (40 : Int32) h47).bind fun q49 =>
  some q49 else none else some h44) else none else (if p2 = (4 : Int32) then (jX9_number (0 : Int32) (999 : Int32) h34).bind fun q50 =>
  if inB p1 60 = true then lt (sI q50.2 (7, 0, 26) p1.toNatClampNeg q50.1) fun h51 =>
  (if p2 = (8 : Int32) then (jX9_number (1 : Int32) (20 : Int32) h51).bind fun q53 =>
  if inB p1 60 = true then lt (sI q53.2 (7, 0, 26) p1.toNatClampNeg q53.1) fun h54 =>
  (jX9_mustSign (40 : Int32) h54).bind fun q56 =>
  some q56 else none else some h51) else none else (if p2 = (5 : Int32) then (jX9_number (0 : Int32) (999 : Int32) h34).bind fun q61 =>
  if inB p1 60 = true then lt (sI q61.2 (7, 0, 26) p1.toNatClampNeg q61.1) fun h62 =>
  (if p2 = (8 : Int32) then (jX9_number (1 : Int32) (20 : Int32) h62).bind fun q64 =>
  if inB p1 60 = true then lt (sI q64.2 (7, 0, 26) p1.toNatClampNeg q64.1) fun h65 =>
  (jX9_mustSign (40 : Int32) h65).bind fun q67 =>
  some q67 else none else some h62) else none else (if p2 = (8 : Int32) then (jX9_number (1 : Int32) (20 : Int32) h34).bind fun q57 =>
  if inB p1 60 = true then lt (sI q57.2 (7, 0, 26) p1.toNatClampNeg q57.1) fun h58 =>
  (jX9_mustSign (40 : Int32) h58).bind fun q60 =>
  some q60 else none else some h34))))) else none else (if p2 = 0 then (jX9_number (0 : Int32) (999 : Int32) h).bind fun q1 =>
  if inB p1 60 = true then lt (sI q1.2 (7, 0, 26) p1.toNatClampNeg q1.1) fun h2 =>
  (if p2 = (8 : Int32) then (jX9_number (1 : Int32) (20 : Int32) h2).bind fun q4 =>
  if inB p1 60 = true then lt (sI q4.2 (7, 0, 26) p1.toNatClampNeg q4.1) fun h5 =>
  (jX9_mustSign (40 : Int32) h5).bind fun q7 =>
  some q7 else none else some h2) else none else (if p2 = (1 : Int32) then (jX9_number (0 : Int32) (999 : Int32) h).bind fun q8 =>
  if inB p1 60 = true then lt (sI q8.2 (7, 0, 26) p1.toNatClampNeg q8.1) fun h9 =>
  (if p2 = (8 : Int32) then (jX9_number (1 : Int32) (20 : Int32) h9).bind fun q11 =>
  if inB p1 60 = true then lt (sI q11.2 (7, 0, 26) p1.toNatClampNeg q11.1) fun h12 =>
  (jX9_mustSign (40 : Int32) h12).bind fun q14 =>
  some q14 else none else some h9) else none else (if p2 = (4 : Int32) then (jX9_number (0 : Int32) (999 : Int32) h).bind fun q15 =>
  if inB p1 60 = true then lt (sI q15.2 (7, 0, 26) p1.toNatClampNeg q15.1) fun h16 =>
  (if p2 = (8 : Int32) then (jX9_number (1 : Int32) (20 : Int32) h16).bind fun q18 =>
  if inB p1 60 = true then lt (sI q18.2 (7, 0, 26) p1.toNatClampNeg q18.1) fun h19 =>
  (jX9_mustSign (40 : Int32) h19).bind fun q21 =>
  some q21 else none else some h16) else none else (if p2 = (5 : Int32) then (jX9_number (0 : Int32) (999 : Int32) h).bind fun q26 =>
  if inB p1 60 = true then lt (sI q26.2 (7, 0, 26) p1.toNatClampNeg q26.1) fun h27 =>
  (if p2 = (8 : Int32) then (jX9_number (1 : Int32) (20 : Int32) h27).bind fun q29 =>
  if inB p1 60 = true then lt (sI q29.2 (7, 0, 26) p1.toNatClampNeg q29.1) fun h30 =>
  (jX9_mustSign (40 : Int32) h30).bind fun q32 =>
  some q32 else none else some h27) else none else (if p2 = (8 : Int32) then (jX9_number (1 : Int32) (20 : Int32) h).bind fun q22 =>
  if inB p1 60 = true then lt (sI q22.2 (7, 0, 26) p1.toNatClampNeg q22.1) fun h23 =>
  (jX9_mustSign (40 : Int32) h23).bind fun q25 =>
  some q25 else none else some h))))))
def jX9_command  (h : HD) : Option HD :=
  (if (jX9_commandHere h) = (-1 : Int32) then (jX9_wrong (1 : Int32) h).bind fun q53 =>
  (if (jX9_commandHere h) = (8 : Int32) then (if (gI q53 (7, 0, 0) 47) = (2 : Int32) then (jX9_wrong (3 : Int32) q53).bind fun q88 =>
  (if (gI q88 (7, 0, 0) 46) = (30 : Int32) then (jX9_wrong (5 : Int32) q88).bind fun q97 =>
  (if (jX9_isGood q97) = true then lt (sI q97 (7, 0, 0) 46 ((gI q97 (7, 0, 0) 46) + (1 : Int32))) fun h98 =>
  (jX9_goOnRead h98).bind fun q99 =>
  if inB (gI q99 (7, 0, 0) 45) 60 = true then lt (sI q99 (7, 0, 25) ((gI q99 (7, 0, 0) 45).toNatClampNeg) (jX9_commandHere h)) fun h100 =>
  (jX9_readsRest (gI q99 (7, 0, 0) 45) (jX9_commandHere h) h100).bind fun q102 =>
  (if (jX9_isGood q102) = true then lt (sI q102 (7, 0, 0) 45 ((gI q102 (7, 0, 0) 45) + (1 : Int32))) fun h103 =>
  (if (jX9_commandHere h) = (8 : Int32) then lt (sI h103 (7, 0, 0) 47 ((gI h103 (7, 0, 0) 47) + (jX9_truth true h103))) fun h105 =>
  some h105 else lt (sI h103 (7, 0, 0) 47 ((gI h103 (7, 0, 0) 47) + (jX9_truth false h103))) fun h104 =>
  some h104) else some q102) else none else some q97) else (if (jX9_isGood q88) = true then lt (sI q88 (7, 0, 0) 46 ((gI q88 (7, 0, 0) 46) + (1 : Int32))) fun h89 =>
  (jX9_goOnRead h89).bind fun q90 =>
  if inB (gI q90 (7, 0, 0) 45) 60 = true then lt (sI q90 (7, 0, 25) ((gI q90 (7, 0, 0) 45).toNatClampNeg) (jX9_commandHere h)) fun h91 =>
  (jX9_readsRest (gI q90 (7, 0, 0) 45) (jX9_commandHere h) h91).bind fun q93 =>
  (if (jX9_isGood q93) = true then lt (sI q93 (7, 0, 0) 45 ((gI q93 (7, 0, 0) 45) + (1 : Int32))) fun h94 =>
  (if (jX9_commandHere h) = (8 : Int32) then lt (sI h94 (7, 0, 0) 47 ((gI h94 (7, 0, 0) 47) + (jX9_truth true h94))) fun h96 =>
  some h96 else lt (sI h94 (7, 0, 0) 47 ((gI h94 (7, 0, 0) 47) + (jX9_truth false h94))) fun h95 =>
  some h95) else some q93) else none else some q88)) else (if (gI q53 (7, 0, 0) 46) = (30 : Int32) then (jX9_wrong (5 : Int32) q53).bind fun q79 =>
  (if (jX9_isGood q79) = true then lt (sI q79 (7, 0, 0) 46 ((gI q79 (7, 0, 0) 46) + (1 : Int32))) fun h80 =>
  (jX9_goOnRead h80).bind fun q81 =>
  if inB (gI q81 (7, 0, 0) 45) 60 = true then lt (sI q81 (7, 0, 25) ((gI q81 (7, 0, 0) 45).toNatClampNeg) (jX9_commandHere h)) fun h82 =>
  (jX9_readsRest (gI q81 (7, 0, 0) 45) (jX9_commandHere h) h82).bind fun q84 =>
  (if (jX9_isGood q84) = true then lt (sI q84 (7, 0, 0) 45 ((gI q84 (7, 0, 0) 45) + (1 : Int32))) fun h85 =>
  (if (jX9_commandHere h) = (8 : Int32) then lt (sI h85 (7, 0, 0) 47 ((gI h85 (7, 0, 0) 47) + (jX9_truth true h85))) fun h87 =>
  some h87 else lt (sI h85 (7, 0, 0) 47 ((gI h85 (7, 0, 0) 47) + (jX9_truth false h85))) fun h86 =>
  some h86) else some q84) else none else some q79) else (if (jX9_isGood q53) = true then lt (sI q53 (7, 0, 0) 46 ((gI q53 (7, 0, 0) 46) + (1 : Int32))) fun h71 =>
  (jX9_goOnRead h71).bind fun q72 =>
  if inB (gI q72 (7, 0, 0) 45) 60 = true then lt (sI q72 (7, 0, 25) ((gI q72 (7, 0, 0) 45).toNatClampNeg) (jX9_commandHere h)) fun h73 =>
  (jX9_readsRest (gI q72 (7, 0, 0) 45) (jX9_commandHere h) h73).bind fun q75 =>
  (if (jX9_isGood q75) = true then lt (sI q75 (7, 0, 0) 45 ((gI q75 (7, 0, 0) 45) + (1 : Int32))) fun h76 =>
  (if (jX9_commandHere h) = (8 : Int32) then lt (sI h76 (7, 0, 0) 47 ((gI h76 (7, 0, 0) 47) + (jX9_truth true h76))) fun h78 =>
  some h78 else lt (sI h76 (7, 0, 0) 47 ((gI h76 (7, 0, 0) 47) + (jX9_truth false h76))) fun h77 =>
  some h77) else some q75) else none else some q53))) else (if (gI q53 (7, 0, 0) 46) = (30 : Int32) then (jX9_wrong (5 : Int32) q53).bind fun q62 =>
  (if (jX9_isGood q62) = true then lt (sI q62 (7, 0, 0) 46 ((gI q62 (7, 0, 0) 46) + (1 : Int32))) fun h63 =>
  (jX9_goOnRead h63).bind fun q64 =>
  if inB (gI q64 (7, 0, 0) 45) 60 = true then lt (sI q64 (7, 0, 25) ((gI q64 (7, 0, 0) 45).toNatClampNeg) (jX9_commandHere h)) fun h65 =>
  (jX9_readsRest (gI q64 (7, 0, 0) 45) (jX9_commandHere h) h65).bind fun q67 =>
  (if (jX9_isGood q67) = true then lt (sI q67 (7, 0, 0) 45 ((gI q67 (7, 0, 0) 45) + (1 : Int32))) fun h68 =>
  (if (jX9_commandHere h) = (8 : Int32) then lt (sI h68 (7, 0, 0) 47 ((gI h68 (7, 0, 0) 47) + (jX9_truth true h68))) fun h70 =>
  some h70 else lt (sI h68 (7, 0, 0) 47 ((gI h68 (7, 0, 0) 47) + (jX9_truth false h68))) fun h69 =>
  some h69) else some q67) else none else some q62) else (if (jX9_isGood q53) = true then lt (sI q53 (7, 0, 0) 46 ((gI q53 (7, 0, 0) 46) + (1 : Int32))) fun h54 =>
  (jX9_goOnRead h54).bind fun q55 =>
  if inB (gI q55 (7, 0, 0) 45) 60 = true then lt (sI q55 (7, 0, 25) ((gI q55 (7, 0, 0) 45).toNatClampNeg) (jX9_commandHere h)) fun h56 =>
  (jX9_readsRest (gI q55 (7, 0, 0) 45) (jX9_commandHere h) h56).bind fun q58 =>
  (if (jX9_isGood q58) = true then lt (sI q58 (7, 0, 0) 45 ((gI q58 (7, 0, 0) 45) + (1 : Int32))) fun h59 =>
  (if (jX9_commandHere h) = (8 : Int32) then lt (sI h59 (7, 0, 0) 47 ((gI h59 (7, 0, 0) 47) + (jX9_truth true h59))) fun h61 =>
  some h61 else lt (sI h59 (7, 0, 0) 47 ((gI h59 (7, 0, 0) 47) + (jX9_truth false h59))) fun h60 =>
  some h60) else some q58) else none else some q53))) else (if (jX9_commandHere h) = (8 : Int32) then (if (gI h (7, 0, 0) 47) = (2 : Int32) then (jX9_wrong (3 : Int32) h).bind fun q35 =>
  (if (gI q35 (7, 0, 0) 46) = (30 : Int32) then (jX9_wrong (5 : Int32) q35).bind fun q44 =>
  (if (jX9_isGood q44) = true then lt (sI q44 (7, 0, 0) 46 ((gI q44 (7, 0, 0) 46) + (1 : Int32))) fun h45 =>
  (jX9_goOnRead h45).bind fun q46 =>
  if inB (gI q46 (7, 0, 0) 45) 60 = true then lt (sI q46 (7, 0, 25) ((gI q46 (7, 0, 0) 45).toNatClampNeg) (jX9_commandHere h)) fun h47 =>
  (jX9_readsRest (gI q46 (7, 0, 0) 45) (jX9_commandHere h) h47).bind fun q49 =>
  (if (jX9_isGood q49) = true then lt (sI q49 (7, 0, 0) 45 ((gI q49 (7, 0, 0) 45) + (1 : Int32))) fun h50 =>
  (if (jX9_commandHere h) = (8 : Int32) then lt (sI h50 (7, 0, 0) 47 ((gI h50 (7, 0, 0) 47) + (jX9_truth true h50))) fun h52 =>
  some h52 else lt (sI h50 (7, 0, 0) 47 ((gI h50 (7, 0, 0) 47) + (jX9_truth false h50))) fun h51 =>
  some h51) else some q49) else none else some q44) else (if (jX9_isGood q35) = true then lt (sI q35 (7, 0, 0) 46 ((gI q35 (7, 0, 0) 46) + (1 : Int32))) fun h36 =>
  (jX9_goOnRead h36).bind fun q37 =>
  if inB (gI q37 (7, 0, 0) 45) 60 = true then lt (sI q37 (7, 0, 25) ((gI q37 (7, 0, 0) 45).toNatClampNeg) (jX9_commandHere h)) fun h38 =>
  (jX9_readsRest (gI q37 (7, 0, 0) 45) (jX9_commandHere h) h38).bind fun q40 =>
  (if (jX9_isGood q40) = true then lt (sI q40 (7, 0, 0) 45 ((gI q40 (7, 0, 0) 45) + (1 : Int32))) fun h41 =>
  (if (jX9_commandHere h) = (8 : Int32) then lt (sI h41 (7, 0, 0) 47 ((gI h41 (7, 0, 0) 47) + (jX9_truth true h41))) fun h43 =>
  some h43 else lt (sI h41 (7, 0, 0) 47 ((gI h41 (7, 0, 0) 47) + (jX9_truth false h41))) fun h42 =>
  some h42) else some q40) else none else some q35)) else (if (gI h (7, 0, 0) 46) = (30 : Int32) then (jX9_wrong (5 : Int32) h).bind fun q26 =>
  (if (jX9_isGood q26) = true then lt (sI q26 (7, 0, 0) 46 ((gI q26 (7, 0, 0) 46) + (1 : Int32))) fun h27 =>
  (jX9_goOnRead h27).bind fun q28 =>
  if inB (gI q28 (7, 0, 0) 45) 60 = true then lt (sI q28 (7, 0, 25) ((gI q28 (7, 0, 0) 45).toNatClampNeg) (jX9_commandHere h)) fun h29 =>
  (jX9_readsRest (gI q28 (7, 0, 0) 45) (jX9_commandHere h) h29).bind fun q31 =>
  (if (jX9_isGood q31) = true then lt (sI q31 (7, 0, 0) 45 ((gI q31 (7, 0, 0) 45) + (1 : Int32))) fun h32 =>
  (if (jX9_commandHere h) = (8 : Int32) then lt (sI h32 (7, 0, 0) 47 ((gI h32 (7, 0, 0) 47) + (jX9_truth true h32))) fun h34 =>
  some h34 else lt (sI h32 (7, 0, 0) 47 ((gI h32 (7, 0, 0) 47) + (jX9_truth false h32))) fun h33 =>
  some h33) else some q31) else none else some q26) else (if (jX9_isGood h) = true then lt (sI h (7, 0, 0) 46 ((gI h (7, 0, 0) 46) + (1 : Int32))) fun h18 =>
  (jX9_goOnRead h18).bind fun q19 =>
  if inB (gI q19 (7, 0, 0) 45) 60 = true then lt (sI q19 (7, 0, 25) ((gI q19 (7, 0, 0) 45).toNatClampNeg) (jX9_commandHere h)) fun h20 =>
  (jX9_readsRest (gI q19 (7, 0, 0) 45) (jX9_commandHere h) h20).bind fun q22 =>
  (if (jX9_isGood q22) = true then lt (sI q22 (7, 0, 0) 45 ((gI q22 (7, 0, 0) 45) + (1 : Int32))) fun h23 =>
  (if (jX9_commandHere h) = (8 : Int32) then lt (sI h23 (7, 0, 0) 47 ((gI h23 (7, 0, 0) 47) + (jX9_truth true h23))) fun h25 =>
  some h25 else lt (sI h23 (7, 0, 0) 47 ((gI h23 (7, 0, 0) 47) + (jX9_truth false h23))) fun h24 =>
  some h24) else some q22) else none else some h))) else (if (gI h (7, 0, 0) 46) = (30 : Int32) then (jX9_wrong (5 : Int32) h).bind fun q9 =>
  (if (jX9_isGood q9) = true then lt (sI q9 (7, 0, 0) 46 ((gI q9 (7, 0, 0) 46) + (1 : Int32))) fun h10 =>
  (jX9_goOnRead h10).bind fun q11 =>
  if inB (gI q11 (7, 0, 0) 45) 60 = true then lt (sI q11 (7, 0, 25) ((gI q11 (7, 0, 0) 45).toNatClampNeg) (jX9_commandHere h)) fun h12 =>
  (jX9_readsRest (gI q11 (7, 0, 0) 45) (jX9_commandHere h) h12).bind fun q14 =>
  (if (jX9_isGood q14) = true then lt (sI q14 (7, 0, 0) 45 ((gI q14 (7, 0, 0) 45) + (1 : Int32))) fun h15 =>
  (if (jX9_commandHere h) = (8 : Int32) then lt (sI h15 (7, 0, 0) 47 ((gI h15 (7, 0, 0) 47) + (jX9_truth true h15))) fun h17 =>
  some h17 else lt (sI h15 (7, 0, 0) 47 ((gI h15 (7, 0, 0) 47) + (jX9_truth false h15))) fun h16 =>
  some h16) else some q14) else none else some q9) else (if (jX9_isGood h) = true then lt (sI h (7, 0, 0) 46 ((gI h (7, 0, 0) 46) + (1 : Int32))) fun h1 =>
  (jX9_goOnRead h1).bind fun q2 =>
  if inB (gI q2 (7, 0, 0) 45) 60 = true then lt (sI q2 (7, 0, 25) ((gI q2 (7, 0, 0) 45).toNatClampNeg) (jX9_commandHere h)) fun h3 =>
  (jX9_readsRest (gI q2 (7, 0, 0) 45) (jX9_commandHere h) h3).bind fun q5 =>
  (if (jX9_isGood q5) = true then lt (sI q5 (7, 0, 0) 45 ((gI q5 (7, 0, 0) 45) + (1 : Int32))) fun h6 =>
  (if (jX9_commandHere h) = (8 : Int32) then lt (sI h6 (7, 0, 0) 47 ((gI h6 (7, 0, 0) 47) + (jX9_truth true h6))) fun h8 =>
  some h8 else lt (sI h6 (7, 0, 0) 47 ((gI h6 (7, 0, 0) 47) + (jX9_truth false h6))) fun h7 =>
  some h7) else some q5) else none else some h))))
def jX9_closes_L0  : Nat → HD → Option HD
  | 0, _ => none
  | n0 + 1, h => (if (gI h (7, 0, 0) 47) ≤ 0 then some h else (if (jX9_isSign (41 : Int32) h) = true then lt (sI h (7, 0, 0) 47 ((gI h (7, 0, 0) 47) - (1 : Int32))) fun h1 =>
  if inB (gI h1 (7, 0, 0) 45) 60 = true then lt (sI h1 (7, 0, 25) ((gI h1 (7, 0, 0) 45).toNatClampNeg) (9 : Int32)) fun h2 =>
  lt (sI h2 (7, 0, 0) 45 ((gI h2 (7, 0, 0) 45) + (1 : Int32))) fun h4 =>
  (jX9_goOnRead h4).bind fun q5 =>
  (jX9_mustSign (59 : Int32) q5).bind fun q6 =>
  jX9_closes_L0 n0 q6 else none else some h))
def jX9_closes  (h : HD) : Option HD :=
  jX9_closes_L0  FU h
def jX9_may (p1 : Int32) (h : HD) : Option (Bool × HD) :=
  if inB p1 60 = true then (jX9_carNamed (gJ h (7, 0, 29) p1.toNatClampNeg) h).bind fun q2 =>
  if inB p1 60 = true then if inB p1 60 = true then (if (gI h (7, 0, 25) p1.toNatClampNeg) = 0 then (if q2 = (-1 : Int32) then some (false, h) else (jX9_isSpot (gI h (7, 0, 26) p1.toNatClampNeg) h).bind fun q5 =>
  (if q5 = true then some (true, h) else some (false, h))) else if (gI h (7, 0, 25) p1.toNatClampNeg) = 1 then (jX9_mayCome (gI h (7, 0, 26) p1.toNatClampNeg) h).bind fun q7 =>
  (if q7 = true then if inB p1 60 = true then (jX9_whyNoCar (gJ h (7, 0, 29) p1.toNatClampNeg) h).bind fun q9 =>
  (jX9_refused q9 h).bind fun q10 =>
  (if q10.1 = true then some (false, q10.2) else some (true, q10.2)) else none else some (false, h)) else if (gI h (7, 0, 25) p1.toNatClampNeg) = 2 then (if q2 = (-1 : Int32) then some (false, h) else (jX9_whyNoSwap q2 h).bind fun q12 =>
  (jX9_refused q12 h).bind fun q13 =>
  (if q13.1 = true then some (false, q13.2) else some (true, q13.2))) else if (gI h (7, 0, 25) p1.toNatClampNeg) = 3 then (if q2 = (-1 : Int32) then some (false, h) else (jX9_whyNoGo q2 h).bind fun q15 =>
  (jX9_refused q15 h).bind fun q16 =>
  (if q16.1 = true then some (false, q16.2) else some (true, q16.2))) else if (gI h (7, 0, 25) p1.toNatClampNeg) = 4 then some ((jX9_isTurn (gI h (7, 0, 26) p1.toNatClampNeg) h), h) else if (gI h (7, 0, 25) p1.toNatClampNeg) = 5 then some ((jX9_isBack (gI h (7, 0, 26) p1.toNatClampNeg) h), h) else some (true, h)) else none else none else none
def jX9_does (p1 : Int32) (h : HD) : Option (Int32 × HD) :=
  if inB p1 60 = true then (jX9_carNamed (gJ h (7, 0, 29) p1.toNatClampNeg) h).bind fun q2 =>
  if inB p1 60 = true then if inB p1 60 = true then (if (gI h (7, 0, 25) p1.toNatClampNeg) = 0 then (jX9_wishes q2 (gI h (7, 0, 26) p1.toNatClampNeg) h).bind fun q5 =>
  some (q5.1, q5.2) else if (gI h (7, 0, 25) p1.toNatClampNeg) = 1 then if inB p1 60 = true then (jX9_comes (gJ h (7, 0, 29) p1.toNatClampNeg) (gI h (7, 0, 26) p1.toNatClampNeg) h).bind fun q8 =>
  some (q8.1, q8.2) else none else if (gI h (7, 0, 25) p1.toNatClampNeg) = 2 then (jX9_swaps q2 h).bind fun q10 =>
  some (q10.1, q10.2) else if (gI h (7, 0, 25) p1.toNatClampNeg) = 3 then (jX9_leaves0 q2 h).bind fun q12 =>
  some (q12.1, q12.2) else if (gI h (7, 0, 25) p1.toNatClampNeg) = 4 then (jX9_turns (gI h (7, 0, 26) p1.toNatClampNeg) h).bind fun q14 =>
  some (q14.1, q14.2) else if (gI h (7, 0, 25) p1.toNatClampNeg) = 5 then (jX9_looksBack (gI h (7, 0, 26) p1.toNatClampNeg) h).bind fun q16 =>
  some (q16.1, q16.2) else if (gI h (7, 0, 25) p1.toNatClampNeg) = 6 then (jX9_sorts h).bind fun q18 =>
  some (q18.1, q18.2) else (jX9_reverses h).bind fun q20 =>
  some (q20.1, q20.2)) else none else none else none
def jX9_doesAll_L12  : Nat → Int32 → Int32 → Int32 → Int32 → Int32 → HD → Option (Int32 × HD)
  | 0, _, _, _, _, _, _ => none
  | n12 + 1, x1, x2, x3, x4, x5, h => (if x4 = 0 then some (x1, h) else (if (gI h (7, 0, 0) 45) ≤ x3 then some (x1, h) else (if (40 : Int32) ≤ x1 then some (x1, h) else if inB x3 60 = true then (if (gI h (7, 0, 25) x3.toNatClampNeg) = (8 : Int32) then if inB x2 2 = true then lt (sI h (7, 0, 27) x2.toNatClampNeg x3) fun h10 =>
  if inB x3 60 = true then if inB x2 2 = true then lt (sI h10 (7, 0, 28) x2.toNatClampNeg (gI h10 (7, 0, 26) x3.toNatClampNeg)) fun h13 =>
  jX9_doesAll_L12 n12 x1 (x2 + 1) (x3 + 1) x4 x5 h13 else none else none else none else if inB x3 60 = true then (if (gI h (7, 0, 25) x3.toNatClampNeg) = (9 : Int32) then if inB (x2 - (1 : Int32)) 2 = true then if inB (x2 - (1 : Int32)) 2 = true then lt (sI h (7, 0, 28) ((x2 - (1 : Int32)).toNatClampNeg) ((gI h (7, 0, 28) (x2 - (1 : Int32)).toNatClampNeg) - (1 : Int32))) fun h6 =>
  if inB (x2 - (1 : Int32)) 2 = true then (if (gI h6 (7, 0, 28) (x2 - (1 : Int32)).toNatClampNeg) ≤ 0 then jX9_doesAll_L12 n12 x1 (x2 - (jX9_truth true h6)) (x3 + (1 : Int32)) x4 x5 h6 else if inB (x2 - (1 : Int32)) 2 = true then jX9_doesAll_L12 n12 x1 (x2 - (jX9_truth false h6)) ((gI h6 (7, 0, 27) (x2 - (1 : Int32)).toNatClampNeg) + (1 : Int32)) x4 x5 h6 else none) else none else none else none else (jX9_may x3 h).bind fun q3 =>
  (if q3.1 = true then (jX9_does x3 q3.2).bind fun q4 =>
  jX9_doesAll_L12 n12 (x1 + (jX9_truth q3.1 q4.2)) x2 (x3 + 1) (b2i q3.1) (x5 + q4.1) q4.2 else jX9_doesAll_L12 n12 (x1 + (jX9_truth q3.1 q3.2)) x2 (x3 + 1) (b2i q3.1) x5 q3.2)) else none) else none)))
def jX9_doesAll  (h : HD) : Option (Int32 × HD) :=
  jX9_doesAll_L12  FU (0 : Int32) (0 : Int32) (0 : Int32) (1 : Int32) (0 : Int32) h
def jX9_runScript_L19 (k63 : HD → Option (Int32 × HD)) : Nat → HD → Option (Int32 × HD)
  | 0, _ => none
  | n19 + 1, h => (if (jX9_isGood h) = true then (if (gI h (7, 0, 0) 6) = 0 then k63 h else (jX9_command h).bind fun q5 =>
  (if (gI q5 (7, 0, 0) 47) = (gI h (7, 0, 0) 47) then (jX9_mustSign (59 : Int32) q5).bind fun q7 =>
  (jX9_closes q7).bind fun q8 =>
  jX9_runScript_L19 k63 n19 q8 else (jX9_closes q5).bind fun q6 =>
  jX9_runScript_L19 k63 n19 q6)) else k63 h)
def jX9_runScript  (h : HD) : Option (Int32 × HD) :=
  (jX9_beginsText h).bind fun q1 =>
  lt (sI q1 (7, 0, 0) 45 (0 : Int32)) fun h2 =>
  lt (sI h2 (7, 0, 0) 46 (0 : Int32)) fun h3 =>
  lt (sI h3 (7, 0, 0) 47 (0 : Int32)) fun h4 =>
  jX9_runScript_L19 (fun h9 => (if (jX9_isGood h9) = true then (if (gI h9 (7, 0, 0) 47) ≤ 0 then (jX9_endsText h9).bind fun q14 =>
  (if q14.1 = true then (jX9_laysAside q14.2).bind fun q15 =>
  (jX9_doesAll q15).bind fun q16 =>
  (jX9_keeps q16.2).bind fun q17 =>
  some (q16.1, q17) else some ((0 : Int32), q14.2)) else (jX9_wrong (1 : Int32) h9).bind fun q18 =>
  (jX9_endsText q18).bind fun q19 =>
  (if q19.1 = true then (jX9_laysAside q19.2).bind fun q20 =>
  (jX9_doesAll q20).bind fun q21 =>
  (jX9_keeps q21.2).bind fun q22 =>
  some (q21.1, q22) else some ((0 : Int32), q19.2))) else (jX9_endsText h9).bind fun q10 =>
  (if q10.1 = true then (jX9_laysAside q10.2).bind fun q11 =>
  (jX9_doesAll q11).bind fun q12 =>
  (jX9_keeps q12.2).bind fun q13 =>
  some (q12.1, q13) else some ((0 : Int32), q10.2)))) FU h4
def jX9_tell (p1 : Int32) (h : HD) : Option HD :=
  if inB (gI h (7, 0, 0) 49) 200 = true then lt (sI h (7, 0, 30) ((gI h (7, 0, 0) 49).toNatClampNeg) p1) fun h1 =>
  lt (sI h1 (7, 0, 0) 49 ((gI h1 (7, 0, 0) 49) + (1 : Int32))) fun h3 =>
  some h3 else none
def jX9_tellName_L2 (p1 : Int64) : Nat → Int32 → HD → Option HD
  | 0, _, _ => none
  | n2 + 1, x3, h => (jX9_lettersOf p1 h).bind fun q1 =>
  (if q1 ≤ x3 then some h else (jX9_letterOf p1 x3 h).bind fun q2 =>
  (jX9_tell ((96 : Int32) + q2) h).bind fun q3 =>
  jX9_tellName_L2 p1 n2 (x3 + 1) q3)
def jX9_tellName (p1 : Int64) (h : HD) : Option HD :=
  jX9_tellName_L2 p1 FU (0 : Int32) h
def jX9_tellSpot (p1 : Int32) (h : HD) : Option HD :=
  if inB p1 12 = true then (if (gI h (7, 0, 13) p1.toNatClampNeg) = (-1 : Int32) then (jX9_tell (46 : Int32) h).bind fun q6 =>
  some q6 else if inB (gI h (7, 0, 13) p1.toNatClampNeg) 11 = true then (jX9_tellName (gJ h (7, 0, 7) (gI h (7, 0, 13) p1.toNatClampNeg).toNatClampNeg) h).bind fun q3 =>
  if inB (gI h (7, 0, 13) p1.toNatClampNeg) 11 = true then (if (gI q3 (7, 0, 15) (gI h (7, 0, 13) p1.toNatClampNeg).toNatClampNeg) = 0 then (jX9_tell (33 : Int32) q3).bind fun q5 =>
  some q5 else some q3) else none else none) else none
def jX9_report_L27 (k56 : HD → Option (Int32 × HD)) : Nat → Int32 → HD → Option (Int32 × HD)
  | 0, _, _ => none
  | n27 + 1, x1, h => (jX9_spots h).bind fun q5 =>
  (if q5 ≤ x1 then k56 h else (if x1 ≤ 0 then (jX9_tellSpot x1 h).bind fun q6 =>
  jX9_report_L27 k56 n27 (x1 + 1) q6 else (jX9_tell (32 : Int32) h).bind fun q7 =>
  (jX9_tellSpot x1 q7).bind fun q8 =>
  jX9_report_L27 k56 n27 (x1 + 1) q8))
def jX9_report  (h : HD) : Option (Int32 × HD) :=
  lt (sI h (7, 0, 0) 0 (0 : Int32)) fun h1 =>
  lt (sI h1 (7, 0, 0) 49 (0 : Int32)) fun h2 =>
  lt (sI h2 (7, 0, 0) 50 (1 : Int32)) fun h3 =>
  (jX9_parks (gI h3 (7, 0, 2) 0) h3).bind fun q4 =>
  jX9_report_L27 (fun h9 => (jX9_tell (10 : Int32) h9).bind fun q10 =>
  some (gI q10 (7, 0, 0) 49, q10)) FU (0 : Int32) q4
def jX9_reportByte (p1 : Int32) (h : HD) : Option (Int32 × HD) :=
  (if (gI h (7, 0, 0) 50) = 0 then (jX9_goes false h).bind fun q1 =>
  (if q1.1 = true then if inB p1 200 = true then some (gI q1.2 (7, 0, 30) p1.toNatClampNeg, q1.2) else none else some ((0 : Int32), q1.2)) else (if (jX9_isIn p1.toInt64 (0 : Int64) (((gI h (7, 0, 0) 49) - (1 : Int32)).toInt64) h) = true then (jX9_goes true h).bind fun q5 =>
  (if q5.1 = true then if inB p1 200 = true then some (gI q5.2 (7, 0, 30) p1.toNatClampNeg, q5.2) else none else some ((0 : Int32), q5.2)) else (jX9_goes false h).bind fun q3 =>
  (if q3.1 = true then if inB p1 200 = true then some (gI q3.2 (7, 0, 30) p1.toNatClampNeg, q3.2) else none else some ((0 : Int32), q3.2))))
def jX2_empty (o : Nat) (h : HD) : Option HD :=
  lt (sI h (1, o, 0) 2 (0 : Int32)) fun h1 =>
  lt (sI h1 (1, o, 0) 3 (0 : Int32)) fun h2 =>
  some h2
def jX5_count  (h : HD) : Int32 :=
  gI h (3, 0, 0) 6
def jX5_has (p1 : Int32) (h : HD) : Bool :=
  (if p1 < 0 then false else (if (gI h (3, 0, 0) 6) ≤ p1 then false else (if (30 : Int32) ≤ p1 then false else true)))
def jX5_nameAt (p1 : Int32) (h : HD) : Option Int64 :=
  (if (jX5_has p1 h) = true then if inB p1 30 = true then some (gJ h (3, 0, 2) p1.toNatClampNeg) else none else some (0 : Int64))
def jX5_numberAt (p1 : Int32) (h : HD) : Option Int32 :=
  (if (jX5_has p1 h) = true then if inB p1 30 = true then some (gI h (3, 0, 3) p1.toNatClampNeg) else none else some (0 : Int32))
def jX5_behind (p1 : Int32) (h : HD) : Option Int32 :=
  (if (jX5_has p1 h) = true then if inB p1 30 = true then (if (gI h (3, 0, 4) p1.toNatClampNeg) ≤ p1 then some (p1 + (1 : Int32)) else if inB p1 30 = true then some (gI h (3, 0, 4) p1.toNatClampNeg) else none) else none else some (p1 + (1 : Int32)))
def jX5_openRepeat (p1 : Int32) (h : HD) : Option HD :=
  (if (gI h (3, 0, 0) 5) < 0 then some h else (if (2 : Int32) ≤ (gI h (3, 0, 0) 5) then some h else if inB (gI h (3, 0, 0) 5) 2 = true then lt (sI h (3, 0, 5) ((gI h (3, 0, 0) 5).toNatClampNeg) p1) fun h1 =>
  lt (sI h1 (3, 0, 0) 5 ((gI h1 (3, 0, 0) 5) + (1 : Int32))) fun h3 =>
  some h3 else none))
def jX5_closeRepeat  (h : HD) : Option HD :=
  (if (gI h (3, 0, 0) 5) ≤ 0 then some h else (if (2 : Int32) < (gI h (3, 0, 0) 5) then some h else lt (sI h (3, 0, 0) 5 ((gI h (3, 0, 0) 5) - (1 : Int32))) fun h1 =>
  if inB (gI h1 (3, 0, 0) 5) 2 = true then (if (jX5_has (gI h1 (3, 0, 5) (gI h1 (3, 0, 0) 5).toNatClampNeg) h1) = true then if inB (gI h1 (3, 0, 0) 5) 2 = true then if inB (gI h1 (3, 0, 5) (gI h1 (3, 0, 0) 5).toNatClampNeg) 30 = true then lt (sI h1 (3, 0, 4) ((gI h1 (3, 0, 5) (gI h1 (3, 0, 0) 5).toNatClampNeg).toNatClampNeg) (gI h1 (3, 0, 0) 6)) fun h4 =>
  some h4 else none else none else some h1) else none))
def jX6_begin  (h : HD) : Option HD :=
  lt (sI h (4, 0, 0) 1 (0 : Int32)) fun h1 =>
  lt (sI h1 (4, 0, 0) 2 (0 : Int32)) fun h2 =>
  lt (sI h2 (4, 0, 0) 3 (0 : Int32)) fun h3 =>
  lt (sI h3 (4, 0, 0) 7 (0 : Int32)) fun h4 =>
  lt (sI h4 (4, 0, 0) 8 (-1 : Int32)) fun h5 =>
  some h5
def jX6_isEnd  (h : HD) : Bool :=
  (if (gI h (4, 0, 0) 1) = 0 then true else false)
def jX6_isWord  (h : HD) : Bool :=
  (if (gI h (4, 0, 0) 1) = (1 : Int32) then true else false)
def jX6_word  (h : HD) : Int64 :=
  gJ h (4, 0, 0) 4
def jX6_readName  (h : HD) : Option (Bool × HD) :=
  (jX6_advance h).bind fun q1 =>
  (if (jX6_isWord q1) = true then some (true, q1) else (jX6_fail (1 : Int32) q1).bind fun q2 =>
  (if q2.1 = true then some (true, q2.2) else some (false, q2.2)))
