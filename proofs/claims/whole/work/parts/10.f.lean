/-! The methods as functions over the memory. -/
def f_X12_append_L3 (K : Kd) (o : Nat) (k : Int32 → Int32 → Wd → Option Wd) : Nat → Int32 → Int32 → Wd → Option Wd
  | 0, _, _, _ => none
  | n + 1, v1_3, v2_3, w =>
    if v2_3 < 0 then
      (k v1_3 v2_3 w)
    else
      ((cha K 21 (wR w 1200 o)).bind fun a3 =>
      if (nI a3.2) ≤ (wI w 1201 o) then
        (f_X12_append_L3 K o k n v1_3 (v2_3 + (-8)) w)
      else
        ((ixa (wI w 1201 o) a3.2).bind fun j5 =>
        (some (tI w a3.1 j5 (vp_nar .byte ((ushr v1_3 v2_3).toInt8.toInt32)))).bind fun w6 =>
        (some (sI w6 1201 o ((wI w6 1201 o) + 1))).bind fun w7 =>
        f_X12_append_L3 K o k n v1_3 (v2_3 + (-8)) w7))

def f_X12_append (K : Kd) (o : Nat) (a_1 : Int32) (w : Wd) : Option Wd :=
  f_X12_append_L3 K o (fun v1_3 v2_3 w1 =>
    some w1) fu a_1 24 w

def f_X12_truncate (K : Kd) (o : Nat) (a_1 : Int32) (w : Wd) : Option (Bool × Wd) :=
  if a_1 < 0 then
    (some (false, w))
  else
    (if a_1 ≤ (wI w 1201 o) then
      ((some (sI w 1201 o a_1)).bind fun w3 =>
      some (true, w3))
    else
      (some (false, w)))

def f_X12_errorCode (K : Kd) (o : Nat) (w : Wd) : Option (Int32 × Wd) :=
  some ((wI w 1203 o), w)

def f_X12_errorOffset (K : Kd) (o : Nat) (w : Wd) : Option (Int32 × Wd) :=
  some ((wI w 1204 o), w)

def f_X12_print (K : Kd) (o : Nat) (a_1 : Int32) (w : Wd) : Option Wd :=
  (cha K 21 (wR w 1214 o)).bind fun a1 =>
  if (nI a1.2) ≤ (wI w 1215 o) then
    (some w)
  else
    ((ixa (wI w 1215 o) a1.2).bind fun j3 =>
    (some (tI w a1.1 j3 (vp_nar .byte a_1))).bind fun w4 =>
    (some (sI w4 1215 o ((wI w4 1215 o) + 1))).bind fun w5 =>
    some w5)

def f_X12_outputByte (K : Kd) (o : Nat) (a_1 : Int32) (w : Wd) : Option (Int32 × Wd) :=
  if a_1 < 0 then
    (some ((-1), w))
  else
    (if a_1 < (wI w 1215 o) then
      ((cha K 21 (wR w 1214 o)).bind fun a3 =>
      (ixa a_1 a3.2).bind fun j4 =>
      some ((aI w a3.1 j4), w))
    else
      (some ((-1), w)))

def f_X12_requireDay (K : Kd) (o : Nat) (a_1 : Int32) (w : Wd) : Option ((Unit ⊕ Nat) × Wd) :=
  if a_1 < 0 then
    (some (.inr 2, w))
  else
    (if a_1 < 600 then
      (some (.inl (), w))
    else
      (some (.inr 2, w)))

def f_X12_requireComingDay (K : Kd) (o : Nat) (a_1 : Int32) (w : Wd) : Option ((Unit ⊕ Nat) × Wd) :=
  (chk K 9 (wR w 1205 o)).bind fun a1 =>
  if a_1 < (wI w 1001 a1) then
    (some (.inr 2, w))
  else
    (if a_1 < 600 then
      (some (.inl (), w))
    else
      (some (.inr 2, w)))

def f_X12_requireSpan (K : Kd) (o : Nat) (a_1 : Int32) (a_2 : Int32) (w : Wd) : Option ((Unit ⊕ Nat) × Wd) :=
  if a_1 < 0 then
    (some (.inr 2, w))
  else
    (if a_2 < a_1 then
      (some (.inr 2, w))
    else
      (if a_2 < 600 then
        (some (.inl (), w))
      else
        (some (.inr 2, w))))

def f_X12_requireSlot (K : Kd) (o : Nat) (a_1 : Int32) (w : Wd) : Option ((Unit ⊕ Nat) × Wd) :=
  if a_1 < 0 then
    (some (.inr 2, w))
  else
    (if a_1 < 8 then
      (some (.inl (), w))
    else
      (some (.inr 2, w)))

def f_X12_requireReason (K : Kd) (o : Nat) (a_1 : Int32) (w : Wd) : Option ((Unit ⊕ Nat) × Wd) :=
  if a_1 < 0 then
    (some (.inr 2, w))
  else
    (if a_1 < 4 then
      (some (.inl (), w))
    else
      (some (.inr 2, w)))

def f_X12_requirePassable (K : Kd) (o : Nat) (a_1 : Int32) (w : Wd) : Option ((Unit ⊕ Nat) × Wd) :=
  if a_1 < 1 then
    (some (.inr 2, w))
  else
    (if 99 < a_1 then
      (some (.inr 2, w))
    else
      ((chk K 9 (wR w 1205 o)).bind fun a3 =>
      if ((wI w 1001 a3) + a_1) < 600 then
        (some (.inl (), w))
      else
        (some (.inr 2, w))))

def f_X12_requireUnfinished (K : Kd) (o : Nat) (a_1 : Int32) (w : Wd) : Option ((Unit ⊕ Nat) × Wd) :=
  (chk K 9 (wR w 1205 o)).bind fun a1 =>
  (cha K 27 (wR w 1005 a1)).bind fun a2 =>
  (ixa a_1 a2.2).bind fun j3 =>
  (chk K 6 (aR w a2.1 j3)).bind fun a4 =>
  if (wI w 700 a4) = 0 then
    (some (.inl (), w))
  else
    (if (wI w 700 a4) = 1 then
      (some (.inl (), w))
    else
      (some (.inr 3, w)))

def f_X12_isLetter (K : Kd) (a_0 : Int32) (w : Wd) : Option (Bool × Wd) :=
  if a_0 < 97 then
    (some (false, w))
  else
    (if 122 < a_0 then
      (some (false, w))
    else
      (some (true, w)))

def f_X12_has (K : Kd) (a_0 : Int32) (a_1 : Int32) (w : Wd) : Option (Bool × Wd) :=
  if ((ushr a_0 a_1) &&& 1) = 0 then
    (some (false, w))
  else
    (some (true, w))

def f_X12_allOf (K : Kd) (a_0 : Int32) (w : Wd) : Option (Int32 × Wd) :=
  some (((1 <<< (a_0 &&& 31)) - 1), w)

def f_X12_slotSet (K : Kd) (a_0 : Int32) (a_1 : Int32) (w : Wd) : Option (Int32 × Wd) :=
  some ((((1 <<< (a_1 &&& 31)) - 1) <<< (a_0 &&& 31)), w)

def f_X13_clears_L2 (K : Kd) (o : Nat) (k : Int32 → Wd → Option Wd) : Nat → Int32 → Wd → Option Wd
  | 0, _, _ => none
  | n + 1, v1_2, w =>
    if 170 ≤ v1_2 then
      (k v1_2 w)
    else
      ((cha K 20 (wR w 1302 o)).bind fun a3 =>
      (ixa v1_2 a3.2).bind fun j4 =>
      (some (tI w a3.1 j4 0)).bind fun w5 =>
      f_X13_clears_L2 K o k n (v1_2 + 1) w5)

def f_X13_clears_L24 (K : Kd) (o : Nat) (k : Int32 → Wd → Option Wd) : Nat → Int32 → Wd → Option Wd
  | 0, _, _ => none
  | n + 1, v1_24, w =>
    if 370 ≤ v1_24 then
      (k v1_24 w)
    else
      ((cha K 20 (wR w 1304 o)).bind fun a8 =>
      (ixa v1_24 a8.2).bind fun j9 =>
      (some (tI w a8.1 j9 0)).bind fun w10 =>
      f_X13_clears_L24 K o k n (v1_24 + 1) w10)

def f_X13_clears (K : Kd) (o : Nat) (w : Wd) : Option Wd :=
  f_X13_clears_L2 K o (fun v1_2 w1 =>
    f_X13_clears_L24 K o (fun v1_24 w6 =>
      (cha K 20 (wR w6 1302 o)).bind fun a11 =>
      (ixa 160 a11.2).bind fun j12 =>
      (some (tI w6 a11.1 j12 10)).bind fun w13 =>
      (cha K 20 (wR w13 1302 o)).bind fun a14 =>
      (ixa 161 a14.2).bind fun j15 =>
      (some (tI w13 a14.1 j15 5)).bind fun w16 =>
      (cha K 20 (wR w16 1302 o)).bind fun a17 =>
      (ixa 164 a17.2).bind fun j18 =>
      (some (tI w16 a17.1 j18 15)).bind fun w19 =>
      some w19) fu 0 w1) fu 0 w

def f_X13_moves_L2 (K : Kd) (k : Option Nat → Option Nat → Int32 → Wd → Option Wd) : Nat → Option Nat → Option Nat → Int32 → Wd → Option Wd
  | 0, _, _, _, _ => none
  | n + 1, v0_2, v1_2, v2_2, w =>
    (cha K 23 v1_2).bind fun a2 =>
    if (nI a2.2) ≤ v2_2 then
      (k v0_2 v1_2 v2_2 w)
    else
      ((cha K 23 v0_2).bind fun a4 =>
      (ixa v2_2 a4.2).bind fun j5 =>
      (ixa v2_2 a2.2).bind fun j6 =>
      (some (tJ w a2.1 j6 (aJ w a4.1 j5))).bind fun w7 =>
      f_X13_moves_L2 K k n v0_2 v1_2 (v2_2 + 1) w7)

def f_X13_moves (K : Kd) (a_0 : Option Nat) (a_1 : Option Nat) (w : Wd) : Option Wd :=
  f_X13_moves_L2 K (fun v0_2 v1_2 v2_2 w1 =>
    some w1) fu a_0 a_1 0 w

def f_X13_thrown (K : Kd) (o : Nat) (w : Wd) : Option (Int32 × Wd) :=
  some ((wI w 1300 o), w)

def f_X13_is (K : Kd) (o : Nat) (a_1 : Bool) (w : Wd) : Option (Bool × Wd) :=
  if (b2i a_1) = 0 then
    ((some (sI w 1300 o 1)).bind fun w2 =>
    some (a_1, w2))
  else
    ((some (sI w 1300 o 0)).bind fun w3 =>
    some (a_1, w3))

def f_X13_may (K : Kd) (o : Nat) (a_1 : Bool) (a_2 : Int32) (w : Wd) : Option (Bool × Wd) :=
  if (b2i a_1) = 0 then
    ((some (sI w 1300 o a_2)).bind fun w2 =>
    some (a_1, w2))
  else
    ((some (sI w 1300 o 0)).bind fun w3 =>
    some (a_1, w3))

def f_X13_isIn (K : Kd) (a_0 : Int64) (a_2 : Int64) (a_4 : Int64) (w : Wd) : Option (Bool × Wd) :=
  if (lg_cmp a_0 a_2) < 0 then
    (some (false, w))
  else
    (if 0 < (lg_cmp a_0 a_4) then
      (some (false, w))
    else
      (some (true, w)))

def f_X13_has (K : Kd) (a_0 : Int32) (a_1 : Int32) (w : Wd) : Option (Bool × Wd) :=
  if ((a_0 >>> (a_1 &&& 31)) &&& 1) = 1 then
    (some (true, w))
  else
    (some (false, w))

def f_X13_bits_L4 (K : Kd) (k : Int32 → Int32 → Int32 → Wd → Option (Int32 × Wd)) : Nat → Int32 → Int32 → Int32 → Wd → Option (Int32 × Wd)
  | 0, _, _, _, _ => none
  | n + 1, v0_4, v1_4, v2_4, w =>
    if 31 ≤ v2_4 then
      (k v0_4 v1_4 v2_4 w)
    else
      (f_X13_bits_L4 K k n v0_4 (v1_4 + ((v0_4 >>> (v2_4 &&& 31)) &&& 1)) (v2_4 + 1) w)

def f_X13_bits (K : Kd) (a_0 : Int32) (w : Wd) : Option (Int32 × Wd) :=
  f_X13_bits_L4 K (fun v0_4 v1_4 v2_4 w1 =>
    some (v1_4, w1)) fu a_0 0 0 w

def f_X13_copies_L2 (K : Kd) (k : Option Nat → Option Nat → Int32 → Wd → Option Wd) : Nat → Option Nat → Option Nat → Int32 → Wd → Option Wd
  | 0, _, _, _, _ => none
  | n + 1, v0_2, v1_2, v2_2, w =>
    if 370 ≤ v2_2 then
      (k v0_2 v1_2 v2_2 w)
    else
      ((cha K 20 v0_2).bind fun a3 =>
      (ixa v2_2 a3.2).bind fun j4 =>
      (cha K 20 v1_2).bind fun a5 =>
      (ixa v2_2 a5.2).bind fun j6 =>
      (some (tI w a5.1 j6 (aI w a3.1 j4))).bind fun w7 =>
      f_X13_copies_L2 K k n v0_2 v1_2 (v2_2 + 1) w7)

def f_X13_copies (K : Kd) (a_0 : Option Nat) (a_1 : Option Nat) (w : Wd) : Option Wd :=
  f_X13_copies_L2 K (fun v0_2 v1_2 v2_2 w1 =>
    some w1) fu a_0 a_1 0 w

def f_X13_starts (K : Kd) (o : Nat) (w : Wd) : Option Wd :=
  (f_X13_copies K (wR w 1303 o) (wR w 1305 o) w).bind fun q1 =>
  some q1

def f_X13_keeps_L52 (K : Kd) (o : Nat) (k : Int32 → Wd → Option Wd) : Nat → Int32 → Wd → Option Wd
  | 0, _, _ => none
  | n + 1, v1_52, w =>
    if 370 ≤ v1_52 then
      (k v1_52 w)
    else
      ((cha K 20 (wR w 1305 o)).bind fun a4 =>
      (ixa v1_52 a4.2).bind fun j5 =>
      (cha K 20 (wR w 1308 o)).bind fun a6 =>
      (ixa ((370 * (wI w 1309 o)) + v1_52) a6.2).bind fun j7 =>
      (some (tI w a6.1 j7 (aI w a4.1 j5))).bind fun w8 =>
      f_X13_keeps_L52 K o k n (v1_52 + 1) w8)

def f_X13_keeps_L11 (K : Kd) (o : Nat) (k : Int32 → Wd → Option Wd) : Nat → Int32 → Wd → Option Wd
  | 0, _, _ => none
  | n + 1, v1_11, w =>
    if 2590 ≤ v1_11 then
      (k v1_11 w)
    else
      ((cha K 20 (wR w 1308 o)).bind fun a12 =>
      (ixa (v1_11 + 370) a12.2).bind fun j13 =>
      (ixa v1_11 a12.2).bind fun j14 =>
      (some (tI w a12.1 j14 (aI w a12.1 j13))).bind fun w15 =>
      f_X13_keeps_L11 K o k n (v1_11 + 1) w15)

def f_X13_keeps (K : Kd) (o : Nat) (w : Wd) : Option Wd :=
  if (wI w 1309 o) = 8 then
    (f_X13_keeps_L11 K o (fun v1_11 w10 =>
      (some (sI w10 1309 o ((wI w10 1309 o) - 1))).bind fun w16 =>
      f_X13_keeps_L52 K o (fun v1_52 w17 =>
        (some (sI w17 1309 o ((wI w17 1309 o) + 1))).bind fun w18 =>
        some w18) fu 0 w16) fu 0 w)
  else
    (f_X13_keeps_L52 K o (fun v1_52 w2 =>
      (some (sI w2 1309 o ((wI w2 1309 o) + 1))).bind fun w9 =>
      some w9) fu 0 w)

def f_X13_done (K : Kd) (o : Nat) (a_1 : Int32) (w : Wd) : Option (Int32 × Wd) :=
  (f_X13_keeps K o w).bind fun q1 =>
  some (a_1, q1)

def f_X13_undo_L33 (K : Kd) (o : Nat) (k : Int32 → Wd → Option (Int32 × Wd)) : Nat → Int32 → Wd → Option (Int32 × Wd)
  | 0, _, _ => none
  | n + 1, v1_33, w =>
    if 370 ≤ v1_33 then
      (k v1_33 w)
    else
      ((cha K 20 (wR w 1308 o)).bind fun a7 =>
      (ixa ((370 * (wI w 1309 o)) + v1_33) a7.2).bind fun j8 =>
      (cha K 20 (wR w 1303 o)).bind fun a9 =>
      (ixa v1_33 a9.2).bind fun j10 =>
      (some (tI w a9.1 j10 (aI w a7.1 j8))).bind fun w11 =>
      f_X13_undo_L33 K o k n (v1_33 + 1) w11)

def f_X13_undo (K : Kd) (o : Nat) (w : Wd) : Option (Int32 × Wd) :=
  if (wI w 1309 o) ≤ 0 then
    ((f_X13_is K o false w).bind fun q2 =>
    if (b2i q2.1) = 0 then
      (some (0, q2.2))
    else
      ((some (sI q2.2 1309 o ((wI q2.2 1309 o) - 1))).bind fun w4 =>
      f_X13_undo_L33 K o (fun v1_33 w5 =>
        some ((wI w5 1309 o), w5)) fu 0 w4))
  else
    ((f_X13_is K o true w).bind fun q12 =>
    if (b2i q12.1) = 0 then
      (some (0, q12.2))
    else
      ((some (sI q12.2 1309 o ((wI q12.2 1309 o) - 1))).bind fun w14 =>
      f_X13_undo_L33 K o (fun v1_33 w15 =>
        some ((wI w15 1309 o), w15)) fu 0 w14))

def f_X13_saveState (K : Kd) (o : Nat) (w : Wd) : Option (Int32 × Wd) :=
  (some (sI w 1300 o 0)).bind fun w1 =>
  (f_X13_copies K (wR w1 1303 o) (wR w1 1307 o) w1).bind fun q2 =>
  (some (sZ q2 1310 o true)).bind fun w3 =>
  (cha K 20 (wR w3 1303 o)).bind fun a4 =>
  (ixa 0 a4.2).bind fun j5 =>
  some ((aI w3 a4.1 j5), w3)

def f_X13_restoreState (K : Kd) (o : Nat) (w : Wd) : Option (Int32 × Wd) :=
  (f_X13_is K o (wZ w 1310 o) w).bind fun q1 =>
  if (b2i q1.1) = 0 then
    (some (0, q1.2))
  else
    ((f_X13_copies K (wR q1.2 1307 o) (wR q1.2 1303 o) q1.2).bind fun q3 =>
    (some (sI q3 1309 o 0)).bind fun w4 =>
    (cha K 20 (wR w4 1303 o)).bind fun a5 =>
    (ixa 0 a5.2).bind fun j6 =>
    some ((aI w4 a5.1 j6), w4))

def f_X13_tries (K : Kd) (o : Nat) (w : Wd) : Option Wd :=
  (f_X13_copies K (wR w 1303 o) (wR w 1306 o) w).bind fun q1 =>
  some q1

def f_X13_laysBack (K : Kd) (o : Nat) (a_1 : Int32) (w : Wd) : Option (Int32 × Wd) :=
  (f_X13_copies K (wR w 1306 o) (wR w 1303 o) w).bind fun q1 =>
  some (a_1, q1)

def f_X13_isHoliday_L2 (K : Kd) (o : Nat) (k : Int32 → Int32 → Wd → Option (Bool × Wd)) : Nat → Int32 → Int32 → Wd → Option (Bool × Wd)
  | 0, _, _, _ => none
  | n + 1, v1_2, v2_2, w =>
    (cha K 20 (wR w 1303 o)).bind fun a2 =>
    (ixa 1 a2.2).bind fun j3 =>
    if (aI w a2.1 j3) ≤ v2_2 then
      (k v1_2 v2_2 w)
    else
      ((ixa (2 + v2_2) a2.2).bind fun j5 =>
      if (aI w a2.1 j5) = v1_2 then
        (some (true, w))
      else
        (f_X13_isHoliday_L2 K o k n v1_2 (v2_2 + 1) w))

def f_X13_isHoliday (K : Kd) (o : Nat) (a_1 : Int32) (w : Wd) : Option (Bool × Wd) :=
  f_X13_isHoliday_L2 K o (fun v1_2 v2_2 w1 =>
    some (false, w1)) fu a_1 0 w

def f_X13_isWorking (K : Kd) (o : Nat) (a_1 : Int32) (w : Wd) : Option (Bool × Wd) :=
  if 5 ≤ (a_1 - a_1 / 7 * 7) then
    (some (false, w))
  else
    ((f_X13_isHoliday K o a_1 w).bind fun q2 =>
    if (b2i q2.1) = 0 then
      (some (true, q2.2))
    else
      (some (false, q2.2)))

def f_X13_workingIn_L5 (K : Kd) (o : Nat) (k : Int32 → Int32 → Int32 → Int32 → Wd → Option (Int32 × Wd)) : Nat → Int32 → Int32 → Int32 → Int32 → Wd → Option (Int32 × Wd)
  | 0, _, _, _, _, _ => none
  | n + 1, v1_5, v2_5, v3_5, v4_5, w =>
    if v2_5 < v4_5 then
      (k v1_5 v2_5 v3_5 v4_5 w)
    else
      ((f_X13_isWorking K o v4_5 w).bind fun q3 =>
      if (b2i q3.1) = 0 then
        (f_X13_workingIn_L5 K o k n v1_5 v2_5 v3_5 (v4_5 + 1) q3.2)
      else
        (f_X13_workingIn_L5 K o k n v1_5 v2_5 (v3_5 + 1) (v4_5 + 1) q3.2))

def f_X13_workingIn (K : Kd) (o : Nat) (a_1 : Int32) (a_2 : Int32) (w : Wd) : Option (Int32 × Wd) :=
  f_X13_workingIn_L5 K o (fun v1_5 v2_5 v3_5 v4_5 w1 =>
    some (v3_5, w1)) fu a_1 a_2 0 a_1 w

def f_X13_isDay (K : Kd) (a_0 : Int32) (w : Wd) : Option (Bool × Wd) :=
  (f_X13_isIn K (a_0.toInt64) 0 599 w).bind fun q1 =>
  some (q1.1, q1.2)

def f_X13_isSpan (K : Kd) (a_0 : Int32) (a_1 : Int32) (w : Wd) : Option (Bool × Wd) :=
  (f_X13_isDay K a_0 w).bind fun q1 =>
  if (b2i q1.1) = 0 then
    (some (false, q1.2))
  else
    ((f_X13_isIn K (a_1.toInt64) (a_0.toInt64) 599 q1.2).bind fun q3 =>
    if (b2i q3.1) = 0 then
      (some (false, q3.2))
    else
      (some (true, q3.2)))

def f_X13_isWorkingDay (K : Kd) (o : Nat) (a_1 : Int32) (w : Wd) : Option (Bool × Wd) :=
  (f_X13_isDay K a_1 w).bind fun q1 =>
  (f_X13_is K o q1.1 q1.2).bind fun q2 =>
  if (b2i q2.1) = 0 then
    (some (false, q2.2))
  else
    ((f_X13_isWorking K o a_1 q2.2).bind fun q4 =>
    if (b2i q4.1) = 0 then
      (some (false, q4.2))
    else
      (some (true, q4.2)))

def f_X13_workingDays (K : Kd) (o : Nat) (a_1 : Int32) (a_2 : Int32) (w : Wd) : Option (Int32 × Wd) :=
  (f_X13_isSpan K a_1 a_2 w).bind fun q1 =>
  (f_X13_is K o q1.1 q1.2).bind fun q2 =>
  if (b2i q2.1) = 0 then
    (some (0, q2.2))
  else
    ((f_X13_workingIn K o a_1 a_2 q2.2).bind fun q4 =>
    some (q4.1, q4.2))

def f_X13_at (K : Kd) (o : Nat) (a_1 : Int32) (a_2 : Int32) (w : Wd) : Option (Int32 × Wd) :=
  some (((46 + (27 * a_1)) + a_2), w)

def f_X13_of (K : Kd) (o : Nat) (a_1 : Int32) (a_2 : Int32) (w : Wd) : Option (Int32 × Wd) :=
  (f_X13_at K o a_1 a_2 w).bind fun q1 =>
  (cha K 20 (wR w 1303 o)).bind fun a2 =>
  (ixa q1.1 a2.2).bind fun j3 =>
  some ((aI q1.2 a2.1 j3), q1.2)

def f_X13_lays (K : Kd) (o : Nat) (a_1 : Int32) (a_2 : Int32) (a_3 : Int32) (w : Wd) : Option Wd :=
  (f_X13_at K o a_1 a_2 w).bind fun q1 =>
  (cha K 20 (wR w 1303 o)).bind fun a2 =>
  (ixa q1.1 a2.2).bind fun j3 =>
  (some (tI q1.2 a2.1 j3 a_3)).bind fun w4 =>
  some w4

def f_X13_isCase (K : Kd) (o : Nat) (a_1 : Int32) (w : Wd) : Option (Bool × Wd) :=
  (cha K 20 (wR w 1301 o)).bind fun a1 =>
  (ixa 3 a1.2).bind fun j2 =>
  (f_X13_isIn K (a_1.toInt64) 0 (((aI w a1.1 j2) - 1).toInt64) w).bind fun q3 =>
  some (q3.1, q3.2)

def f_X13_isRoom (K : Kd) (o : Nat) (a_1 : Int32) (w : Wd) : Option (Bool × Wd) :=
  (cha K 20 (wR w 1301 o)).bind fun a1 =>
  (ixa 0 a1.2).bind fun j2 =>
  (f_X13_isIn K (a_1.toInt64) 0 (((aI w a1.1 j2) - 1).toInt64) w).bind fun q3 =>
  some (q3.1, q3.2)

def f_X13_isOfficer (K : Kd) (o : Nat) (a_1 : Int32) (w : Wd) : Option (Bool × Wd) :=
  (cha K 20 (wR w 1301 o)).bind fun a1 =>
  (ixa 1 a1.2).bind fun j2 =>
  (f_X13_isIn K (a_1.toInt64) 0 (((aI w a1.1 j2) - 1).toInt64) w).bind fun q3 =>
  some (q3.1, q3.2)

def f_X13_isWitness (K : Kd) (o : Nat) (a_1 : Int32) (w : Wd) : Option (Bool × Wd) :=
  (cha K 20 (wR w 1301 o)).bind fun a1 =>
  (ixa 2 a1.2).bind fun j2 =>
  (f_X13_isIn K (a_1.toInt64) 0 (((aI w a1.1 j2) - 1).toInt64) w).bind fun q3 =>
  some (q3.1, q3.2)

def f_X13_limitDay_L27 (K : Kd) (o : Nat) (k : Int32 → Int32 → Int32 → Wd → Option (Int32 × Wd)) : Nat → Int32 → Int32 → Int32 → Wd → Option (Int32 × Wd)
  | 0, _, _, _, _ => none
  | n + 1, v1_27, v2_27, v3_27, w =>
    if v2_27 ≤ 0 then
      (k v1_27 v2_27 v3_27 w)
    else
      ((f_X13_isWorking K o (v3_27 + 1) w).bind fun q8 =>
      if (b2i q8.1) = 0 then
        (f_X13_limitDay_L27 K o k n v1_27 v2_27 (v3_27 + 1) q8.2)
      else
        (f_X13_limitDay_L27 K o k n v1_27 (v2_27 - 1) (v3_27 + 1) q8.2))

def f_X13_limitDay (K : Kd) (o : Nat) (a_1 : Int32) (w : Wd) : Option (Int32 × Wd) :=
  (cha K 20 (wR w 1301 o)).bind fun a1 =>
  (ixa (112 + a_1) a1.2).bind fun j2 =>
  (f_X13_of K o a_1 1 w).bind fun q3 =>
  (cha K 20 (wR q3.2 1301 o)).bind fun a4 =>
  (ixa (88 + a_1) a4.2).bind fun j5 =>
  f_X13_limitDay_L27 K o (fun v1_27 v2_27 v3_27 w6 =>
    some (v3_27, w6)) fu a_1 ((aI w a1.1 j2) + q3.1) (aI q3.2 a4.1 j5) q3.2

def f_X13_hasHearing (K : Kd) (o : Nat) (a_1 : Int32) (w : Wd) : Option (Bool × Wd) :=
  (f_X13_of K o a_1 0 w).bind fun q1 =>
  if q1.1 = 1 then
    (some (true, q1.2))
  else
    ((f_X13_of K o a_1 0 q1.2).bind fun q3 =>
    if q3.1 = 2 then
      (some (true, q3.2))
    else
      (some (false, q3.2)))

def f_X13_slackOf (K : Kd) (o : Nat) (a_1 : Int32) (w : Wd) : Option (Int32 × Wd) :=
  (cha K 20 (wR w 1303 o)).bind fun a1 =>
  (ixa 0 a1.2).bind fun j2 =>
  (f_X13_limitDay K o a_1 w).bind fun q3 =>
  (f_X13_workingIn K o (aI w a1.1 j2) q3.1 q3.2).bind fun q4 =>
  some (q4.1, q4.2)

def f_X13_slack (K : Kd) (o : Nat) (a_1 : Int32) (w : Wd) : Option (Int32 × Wd) :=
  (f_X13_isCase K o a_1 w).bind fun q1 =>
  (f_X13_is K o q1.1 q1.2).bind fun q2 =>
  if (b2i q2.1) = 0 then
    (some (0, q2.2))
  else
    ((f_X13_slackOf K o a_1 q2.2).bind fun q4 =>
    some (q4.1, q4.2))

def f_X13_manyIn_L4 (K : Kd) (o : Nat) (k : Int32 → Int32 → Int32 → Wd → Option (Int32 × Wd)) : Nat → Int32 → Int32 → Int32 → Wd → Option (Int32 × Wd)
  | 0, _, _, _, _ => none
  | n + 1, v1_4, v2_4, v3_4, w =>
    (cha K 20 (wR w 1301 o)).bind fun a2 =>
    (ixa 3 a2.2).bind fun j3 =>
    if (aI w a2.1 j3) ≤ v3_4 then
      (k v1_4 v2_4 v3_4 w)
    else
      ((f_X13_of K o v3_4 0 w).bind fun q5 =>
      if q5.1 = v1_4 then
        (f_X13_manyIn_L4 K o k n v1_4 (v2_4 + 1) (v3_4 + 1) q5.2)
      else
        (f_X13_manyIn_L4 K o k n v1_4 v2_4 (v3_4 + 1) q5.2))

def f_X13_manyIn (K : Kd) (o : Nat) (a_1 : Int32) (w : Wd) : Option (Int32 × Wd) :=
  f_X13_manyIn_L4 K o (fun v1_4 v2_4 v3_4 w1 =>
    some (v2_4, w1)) fu a_1 0 0 w

def f_X13_meanSlack_L15 (K : Kd) (o : Nat) (k : Int32 → Int32 → Int32 → Wd → Option (UInt64 × Wd)) : Nat → Int32 → Int32 → Int32 → Wd → Option (UInt64 × Wd)
  | 0, _, _, _, _ => none
  | n + 1, v1_15, v2_15, v3_15, w =>
    (cha K 20 (wR w 1301 o)).bind fun a4 =>
    (ixa 3 a4.2).bind fun j5 =>
    if (aI w a4.1 j5) ≤ v3_15 then
      (k v1_15 v2_15 v3_15 w)
    else
      ((f_X13_of K o v3_15 0 w).bind fun q7 =>
      if q7.1 = 0 then
        ((f_X13_slackOf K o v3_15 q7.2).bind fun q9 =>
        f_X13_meanSlack_L15 K o k n v1_15 (v2_15 + q9.1) (v3_15 + 1) q9.2)
      else
        (f_X13_meanSlack_L15 K o k n v1_15 v2_15 (v3_15 + 1) q7.2))

def f_X13_meanSlack (K : Kd) (o : Nat) (w : Wd) : Option (UInt64 × Wd) :=
  (some (sI w 1300 o 0)).bind fun w1 =>
  (f_X13_manyIn K o 0 w1).bind fun q2 =>
  f_X13_meanSlack_L15 K o (fun v1_15 v2_15 v3_15 w3 =>
    if v1_15 = 0 then
      (some (FP.dconst0, w3))
    else
      ((grd (n64 (FP.ddiv (FP.i2d v2_15) (FP.i2d v1_15)) = true)).bind fun _ =>
      some ((FP.ddiv (FP.i2d v2_15) (FP.i2d v1_15)), w3))) fu q2.1 0 0 q2.2

def f_X13_matter (K : Kd) (o : Nat) (a_1 : Int32) (a_2 : Int32) (w : Wd) : Option (Int32 × Wd) :=
  (f_X13_isCase K o a_1 w).bind fun q1 =>
  if (b2i q1.1) = 0 then
    ((f_X13_is K o false q1.2).bind fun q3 =>
    if (b2i q3.1) = 0 then
      (some (0, q3.2))
    else
      (if a_2 < 0 ∨ 8 < a_2 then
        ((cha K 20 (wR q3.2 1301 o)).bind fun a6 =>
        (ixa (148 + a_1) a6.2).bind fun j7 =>
        (f_X13_bits K (aI q3.2 a6.1 j7) q3.2).bind fun q8 =>
        some (q8.1, q8.2))
      else if a_2 = 0 then
        ((cha K 20 (wR q3.2 1301 o)).bind fun a10 =>
        (ixa (88 + a_1) a10.2).bind fun j11 =>
        some ((aI q3.2 a10.1 j11), q3.2))
      else if a_2 = 1 then
        ((cha K 20 (wR q3.2 1301 o)).bind fun a13 =>
        (ixa (100 + a_1) a13.2).bind fun j14 =>
        some ((aI q3.2 a13.1 j14), q3.2))
      else if a_2 = 2 then
        ((cha K 20 (wR q3.2 1301 o)).bind fun a16 =>
        (ixa (112 + a_1) a16.2).bind fun j17 =>
        some ((aI q3.2 a16.1 j17), q3.2))
      else if a_2 = 3 then
        ((f_X13_of K o a_1 1 q3.2).bind fun q19 =>
        some (q19.1, q19.2))
      else if a_2 = 4 then
        ((f_X13_limitDay K o a_1 q3.2).bind fun q21 =>
        some (q21.1, q21.2))
      else if a_2 = 5 then
        ((f_X13_of K o a_1 0 q3.2).bind fun q23 =>
        some (q23.1, q23.2))
      else if a_2 = 6 then
        ((cha K 20 (wR q3.2 1301 o)).bind fun a25 =>
        (ixa (124 + a_1) a25.2).bind fun j26 =>
        some ((aI q3.2 a25.1 j26), q3.2))
      else if a_2 = 7 then
        ((f_X13_of K o a_1 2 q3.2).bind fun q28 =>
        some (q28.1, q28.2))
      else if a_2 = 8 then
        ((cha K 20 (wR q3.2 1301 o)).bind fun a30 =>
        (ixa (136 + a_1) a30.2).bind fun j31 =>
        (f_X13_bits K (aI q3.2 a30.1 j31) q3.2).bind fun q32 =>
        some (q32.1, q32.2))
      else none))
  else
    ((f_X13_isIn K (a_2.toInt64) 0 9 q1.2).bind fun q33 =>
    if (b2i q33.1) = 0 then
      ((f_X13_is K o false q33.2).bind fun q35 =>
      if (b2i q35.1) = 0 then
        (some (0, q35.2))
      else
        (if a_2 < 0 ∨ 8 < a_2 then
          ((cha K 20 (wR q35.2 1301 o)).bind fun a38 =>
          (ixa (148 + a_1) a38.2).bind fun j39 =>
          (f_X13_bits K (aI q35.2 a38.1 j39) q35.2).bind fun q40 =>
          some (q40.1, q40.2))
        else if a_2 = 0 then
          ((cha K 20 (wR q35.2 1301 o)).bind fun a42 =>
          (ixa (88 + a_1) a42.2).bind fun j43 =>
          some ((aI q35.2 a42.1 j43), q35.2))
        else if a_2 = 1 then
          ((cha K 20 (wR q35.2 1301 o)).bind fun a45 =>
          (ixa (100 + a_1) a45.2).bind fun j46 =>
          some ((aI q35.2 a45.1 j46), q35.2))
        else if a_2 = 2 then
          ((cha K 20 (wR q35.2 1301 o)).bind fun a48 =>
          (ixa (112 + a_1) a48.2).bind fun j49 =>
          some ((aI q35.2 a48.1 j49), q35.2))
        else if a_2 = 3 then
          ((f_X13_of K o a_1 1 q35.2).bind fun q51 =>
          some (q51.1, q51.2))
        else if a_2 = 4 then
          ((f_X13_limitDay K o a_1 q35.2).bind fun q53 =>
          some (q53.1, q53.2))
        else if a_2 = 5 then
          ((f_X13_of K o a_1 0 q35.2).bind fun q55 =>
          some (q55.1, q55.2))
        else if a_2 = 6 then
          ((cha K 20 (wR q35.2 1301 o)).bind fun a57 =>
          (ixa (124 + a_1) a57.2).bind fun j58 =>
          some ((aI q35.2 a57.1 j58), q35.2))
        else if a_2 = 7 then
          ((f_X13_of K o a_1 2 q35.2).bind fun q60 =>
          some (q60.1, q60.2))
        else if a_2 = 8 then
          ((cha K 20 (wR q35.2 1301 o)).bind fun a62 =>
          (ixa (136 + a_1) a62.2).bind fun j63 =>
          (f_X13_bits K (aI q35.2 a62.1 j63) q35.2).bind fun q64 =>
          some (q64.1, q64.2))
        else none))
    else
      ((f_X13_is K o true q33.2).bind fun q65 =>
      if (b2i q65.1) = 0 then
        (some (0, q65.2))
      else
        (if a_2 < 0 ∨ 8 < a_2 then
          ((cha K 20 (wR q65.2 1301 o)).bind fun a68 =>
          (ixa (148 + a_1) a68.2).bind fun j69 =>
          (f_X13_bits K (aI q65.2 a68.1 j69) q65.2).bind fun q70 =>
          some (q70.1, q70.2))
        else if a_2 = 0 then
          ((cha K 20 (wR q65.2 1301 o)).bind fun a72 =>
          (ixa (88 + a_1) a72.2).bind fun j73 =>
          some ((aI q65.2 a72.1 j73), q65.2))
        else if a_2 = 1 then
          ((cha K 20 (wR q65.2 1301 o)).bind fun a75 =>
          (ixa (100 + a_1) a75.2).bind fun j76 =>
          some ((aI q65.2 a75.1 j76), q65.2))
        else if a_2 = 2 then
          ((cha K 20 (wR q65.2 1301 o)).bind fun a78 =>
          (ixa (112 + a_1) a78.2).bind fun j79 =>
          some ((aI q65.2 a78.1 j79), q65.2))
        else if a_2 = 3 then
          ((f_X13_of K o a_1 1 q65.2).bind fun q81 =>
          some (q81.1, q81.2))
        else if a_2 = 4 then
          ((f_X13_limitDay K o a_1 q65.2).bind fun q83 =>
          some (q83.1, q83.2))
        else if a_2 = 5 then
          ((f_X13_of K o a_1 0 q65.2).bind fun q85 =>
          some (q85.1, q85.2))
        else if a_2 = 6 then
          ((cha K 20 (wR q65.2 1301 o)).bind fun a87 =>
          (ixa (124 + a_1) a87.2).bind fun j88 =>
          some ((aI q65.2 a87.1 j88), q65.2))
        else if a_2 = 7 then
          ((f_X13_of K o a_1 2 q65.2).bind fun q90 =>
          some (q90.1, q90.2))
        else if a_2 = 8 then
          ((cha K 20 (wR q65.2 1301 o)).bind fun a92 =>
          (ixa (136 + a_1) a92.2).bind fun j93 =>
          (f_X13_bits K (aI q65.2 a92.1 j93) q65.2).bind fun q94 =>
          some (q94.1, q94.2))
        else none)))

def f_X13_hearing (K : Kd) (o : Nat) (a_1 : Int32) (a_2 : Int32) (w : Wd) : Option (Int32 × Wd) :=
  (f_X13_isCase K o a_1 w).bind fun q1 =>
  if (b2i q1.1) = 0 then
    ((f_X13_is K o false q1.2).bind fun q3 =>
    if (b2i q3.1) = 0 then
      (some (0, q3.2))
    else
      ((f_X13_hasHearing K o a_1 q3.2).bind fun q5 =>
      if (b2i q5.1) = 0 then
        (some ((-1), q5.2))
      else
        ((f_X13_of K o a_1 (3 + a_2) q5.2).bind fun q7 =>
        some (q7.1, q7.2))))
  else
    ((f_X13_isIn K (a_2.toInt64) 0 3 q1.2).bind fun q8 =>
    if (b2i q8.1) = 0 then
      ((f_X13_is K o false q8.2).bind fun q10 =>
      if (b2i q10.1) = 0 then
        (some (0, q10.2))
      else
        ((f_X13_hasHearing K o a_1 q10.2).bind fun q12 =>
        if (b2i q12.1) = 0 then
          (some ((-1), q12.2))
        else
          ((f_X13_of K o a_1 (3 + a_2) q12.2).bind fun q14 =>
          some (q14.1, q14.2))))
    else
      ((f_X13_is K o true q8.2).bind fun q15 =>
      if (b2i q15.1) = 0 then
        (some (0, q15.2))
      else
        ((f_X13_hasHearing K o a_1 q15.2).bind fun q17 =>
        if (b2i q17.1) = 0 then
          (some ((-1), q17.2))
        else
          ((f_X13_of K o a_1 (3 + a_2) q17.2).bind fun q19 =>
          some (q19.1, q19.2)))))

def f_X13_adjournment (K : Kd) (o : Nat) (a_1 : Int32) (a_2 : Int32) (a_3 : Int32) (w : Wd) : Option (Int32 × Wd) :=
  (f_X13_isCase K o a_1 w).bind fun q1 =>
  if (b2i q1.1) = 0 then
    ((f_X13_is K o false q1.2).bind fun q3 =>
    if (b2i q3.1) = 0 then
      (some (0, q3.2))
    else
      ((f_X13_of K o a_1 2 q3.2).bind fun q5 =>
      (f_X13_isIn K (a_2.toInt64) 0 ((q5.1 - 1).toInt64) q5.2).bind fun q6 =>
      (f_X13_is K o q6.1 q6.2).bind fun q7 =>
      if (b2i q7.1) = 0 then
        (some (0, q7.2))
      else
        ((f_X13_of K o a_1 ((7 + (4 * a_2)) + a_3) q7.2).bind fun q9 =>
        some (q9.1, q9.2))))
  else
    ((f_X13_isIn K (a_3.toInt64) 0 3 q1.2).bind fun q10 =>
    if (b2i q10.1) = 0 then
      ((f_X13_is K o false q10.2).bind fun q12 =>
      if (b2i q12.1) = 0 then
        (some (0, q12.2))
      else
        ((f_X13_of K o a_1 2 q12.2).bind fun q14 =>
        (f_X13_isIn K (a_2.toInt64) 0 ((q14.1 - 1).toInt64) q14.2).bind fun q15 =>
        (f_X13_is K o q15.1 q15.2).bind fun q16 =>
        if (b2i q16.1) = 0 then
          (some (0, q16.2))
        else
          ((f_X13_of K o a_1 ((7 + (4 * a_2)) + a_3) q16.2).bind fun q18 =>
          some (q18.1, q18.2))))
    else
      ((f_X13_is K o true q10.2).bind fun q19 =>
      if (b2i q19.1) = 0 then
        (some (0, q19.2))
      else
        ((f_X13_of K o a_1 2 q19.2).bind fun q21 =>
        (f_X13_isIn K (a_2.toInt64) 0 ((q21.1 - 1).toInt64) q21.2).bind fun q22 =>
        (f_X13_is K o q22.1 q22.2).bind fun q23 =>
        if (b2i q23.1) = 0 then
          (some (0, q23.2))
        else
          ((f_X13_of K o a_1 ((7 + (4 * a_2)) + a_3) q23.2).bind fun q25 =>
          some (q25.1, q25.2)))))

def f_X13_meets (K : Kd) (o : Nat) (a_1 : Int32) (a_2 : Int32) (a_3 : Int32) (a_4 : Int32) (w : Wd) : Option (Bool × Wd) :=
  if a_1 = a_2 then
    (some (false, w))
  else
    ((f_X13_hasHearing K o a_1 w).bind fun q2 =>
    if (b2i q2.1) = 0 then
      (some (false, q2.2))
    else
      ((f_X13_of K o a_1 3 q2.2).bind fun q4 =>
      if q4.1 = a_3 then
        ((f_X13_of K o a_1 4 q4.2).bind fun q6 =>
        (cha K 20 (wR q6.2 1301 o)).bind fun a7 =>
        (ixa (100 + a_2) a7.2).bind fun j8 =>
        if (a_4 + (aI q6.2 a7.1 j8)) ≤ q6.1 then
          (some (false, q6.2))
        else
          ((ixa (100 + a_1) a7.2).bind fun j10 =>
          if (q6.1 + (aI q6.2 a7.1 j10)) ≤ a_4 then
            (some (false, q6.2))
          else
            (some (true, q6.2))))
      else
        (some (false, q4.2))))

def f_X13_isOffOn_L2 (K : Kd) (o : Nat) (k : Int32 → Int32 → Int32 → Wd → Option (Bool × Wd)) : Nat → Int32 → Int32 → Int32 → Wd → Option (Bool × Wd)
  | 0, _, _, _, _ => none
  | n + 1, v1_2, v2_2, v3_2, w =>
    (cha K 20 (wR w 1301 o)).bind fun a2 =>
    (ixa (10 + v1_2) a2.2).bind fun j3 =>
    if (aI w a2.1 j3) ≤ v3_2 then
      (k v1_2 v2_2 v3_2 w)
    else
      ((ixa ((16 + (6 * v1_2)) + (2 * v3_2)) a2.2).bind fun j5 =>
      (ixa (((16 + (6 * v1_2)) + (2 * v3_2)) + 1) a2.2).bind fun j6 =>
      (f_X13_isIn K (v2_2.toInt64) ((aI w a2.1 j5).toInt64) ((aI w a2.1 j6).toInt64) w).bind fun q7 =>
      if (b2i q7.1) = 0 then
        (f_X13_isOffOn_L2 K o k n v1_2 v2_2 (v3_2 + 1) q7.2)
      else
        (some (true, q7.2)))

def f_X13_isOffOn (K : Kd) (o : Nat) (a_1 : Int32) (a_2 : Int32) (w : Wd) : Option (Bool × Wd) :=
  f_X13_isOffOn_L2 K o (fun v1_2 v2_2 v3_2 w1 =>
    if v1_2 = (wI w1 1315 o) then
      (some (true, w1))
    else
      (some (false, w1))) fu a_1 a_2 0 w

def f_X13_isBarredFrom_L20 (K : Kd) (o : Nat) (k : Int32 → Int32 → Int32 → Wd → Option (Bool × Wd)) : Nat → Int32 → Int32 → Int32 → Wd → Option (Bool × Wd)
  | 0, _, _, _, _ => none
  | n + 1, v1_20, v2_20, v3_20, w =>
    (cha K 20 (wR w 1301 o)).bind fun a6 =>
    (ixa 3 a6.2).bind fun j7 =>
    if (aI w a6.1 j7) ≤ v3_20 then
      (k v1_20 v2_20 v3_20 w)
    else
      ((ixa (148 + v2_20) a6.2).bind fun j9 =>
      (f_X13_has K (aI w a6.1 j9) v3_20 w).bind fun q10 =>
      if (b2i q10.1) = 0 then
        (f_X13_isBarredFrom_L20 K o k n v1_20 v2_20 (v3_20 + 1) q10.2)
      else
        ((f_X13_hasHearing K o v3_20 q10.2).bind fun q12 =>
        if (b2i q12.1) = 0 then
          (f_X13_isBarredFrom_L20 K o k n v1_20 v2_20 (v3_20 + 1) q12.2)
        else
          ((f_X13_of K o v3_20 6 q12.2).bind fun q14 =>
          if q14.1 = v1_20 then
            (some (true, q14.2))
          else
            (f_X13_isBarredFrom_L20 K o k n v1_20 v2_20 (v3_20 + 1) q14.2))))

def f_X13_isBarredFrom (K : Kd) (o : Nat) (a_1 : Int32) (a_2 : Int32) (w : Wd) : Option (Bool × Wd) :=
  (cha K 20 (wR w 1303 o)).bind fun a1 =>
  (ixa (34 + a_2) a1.2).bind fun j2 =>
  (f_X13_has K (aI w a1.1 j2) a_1 w).bind fun q3 =>
  if (b2i q3.1) = 0 then
    (f_X13_isBarredFrom_L20 K o (fun v1_20 v2_20 v3_20 w5 =>
      some (false, w5)) fu a_1 a_2 0 q3.2)
  else
    (some (true, q3.2))

def f_X13_isRoomTaken_L3 (K : Kd) (o : Nat) (k : Int32 → Int32 → Int32 → Int32 → Int32 → Wd → Option (Bool × Wd)) : Nat → Int32 → Int32 → Int32 → Int32 → Int32 → Wd → Option (Bool × Wd)
  | 0, _, _, _, _, _, _ => none
  | n + 1, v1_3, v2_3, v3_3, v4_3, v5_3, w =>
    (cha K 20 (wR w 1301 o)).bind fun a2 =>
    (ixa 3 a2.2).bind fun j3 =>
    if (aI w a2.1 j3) ≤ v5_3 then
      (k v1_3 v2_3 v3_3 v4_3 v5_3 w)
    else
      ((f_X13_meets K o v5_3 v1_3 v2_3 v3_3 w).bind fun q5 =>
      if (b2i q5.1) = 0 then
        (f_X13_isRoomTaken_L3 K o k n v1_3 v2_3 v3_3 v4_3 (v5_3 + 1) q5.2)
      else
        ((f_X13_of K o v5_3 5 q5.2).bind fun q7 =>
        if q7.1 = v4_3 then
          (some (true, q7.2))
        else
          (f_X13_isRoomTaken_L3 K o k n v1_3 v2_3 v3_3 v4_3 (v5_3 + 1) q7.2)))

def f_X13_isRoomTaken (K : Kd) (o : Nat) (a_1 : Int32) (a_2 : Int32) (a_3 : Int32) (a_4 : Int32) (w : Wd) : Option (Bool × Wd) :=
  f_X13_isRoomTaken_L3 K o (fun v1_3 v2_3 v3_3 v4_3 v5_3 w1 =>
    some (false, w1)) fu a_1 a_2 a_3 a_4 0 w

def f_X13_isOfficerTaken_L3 (K : Kd) (o : Nat) (k : Int32 → Int32 → Int32 → Int32 → Int32 → Wd → Option (Bool × Wd)) : Nat → Int32 → Int32 → Int32 → Int32 → Int32 → Wd → Option (Bool × Wd)
  | 0, _, _, _, _, _, _ => none
  | n + 1, v1_3, v2_3, v3_3, v4_3, v5_3, w =>
    (cha K 20 (wR w 1301 o)).bind fun a2 =>
    (ixa 3 a2.2).bind fun j3 =>
    if (aI w a2.1 j3) ≤ v5_3 then
      (k v1_3 v2_3 v3_3 v4_3 v5_3 w)
    else
      ((f_X13_meets K o v5_3 v1_3 v2_3 v3_3 w).bind fun q5 =>
      if (b2i q5.1) = 0 then
        (f_X13_isOfficerTaken_L3 K o k n v1_3 v2_3 v3_3 v4_3 (v5_3 + 1) q5.2)
      else
        ((f_X13_of K o v5_3 6 q5.2).bind fun q7 =>
        if q7.1 = v4_3 then
          (some (true, q7.2))
        else
          (f_X13_isOfficerTaken_L3 K o k n v1_3 v2_3 v3_3 v4_3 (v5_3 + 1) q7.2)))

def f_X13_isOfficerTaken (K : Kd) (o : Nat) (a_1 : Int32) (a_2 : Int32) (a_3 : Int32) (a_4 : Int32) (w : Wd) : Option (Bool × Wd) :=
  f_X13_isOfficerTaken_L3 K o (fun v1_3 v2_3 v3_3 v4_3 v5_3 w1 =>
    some (false, w1)) fu a_1 a_2 a_3 a_4 0 w

def f_X13_isOutOfWindows_L18 (K : Kd) (o : Nat) (k : Int32 → Int32 → Int32 → Int32 → Int32 → Wd → Option (Bool × Wd)) : Nat → Int32 → Int32 → Int32 → Int32 → Int32 → Wd → Option (Bool × Wd)
  | 0, _, _, _, _, _, _ => none
  | n + 1, v1_18, v2_18, v3_18, v4_18, v5_18, w =>
    (cha K 20 (wR w 1301 o)).bind fun a4 =>
    (ixa 2 a4.2).bind fun j5 =>
    if (aI w a4.1 j5) ≤ v5_18 then
      (k v1_18 v2_18 v3_18 v4_18 v5_18 w)
    else
      ((ixa (136 + v1_18) a4.2).bind fun j7 =>
      (f_X13_has K (aI w a4.1 j7) v5_18 w).bind fun q8 =>
      if (b2i q8.1) = 0 then
        (f_X13_isOutOfWindows_L18 K o k n v1_18 v2_18 v3_18 v4_18 (v5_18 + 1) q8.2)
      else
        ((cha K 20 (wR q8.2 1301 o)).bind fun a10 =>
        (ixa (52 + v5_18) a10.2).bind fun j11 =>
        (cha K 20 (wR q8.2 1303 o)).bind fun a12 =>
        (ixa (22 + v5_18) a12.2).bind fun j13 =>
        (f_X13_isIn K (v2_18.toInt64) ((aI q8.2 a10.1 j11).toInt64) ((aI q8.2 a12.1 j13).toInt64) q8.2).bind fun q14 =>
        if (b2i q14.1) = 0 then
          (some (true, q14.2))
        else
          ((cha K 20 (wR q14.2 1301 o)).bind fun a16 =>
          (ixa (64 + v5_18) a16.2).bind fun j17 =>
          if v3_18 < (aI q14.2 a16.1 j17) then
            (some (true, q14.2))
          else
            ((ixa (76 + v5_18) a16.2).bind fun j19 =>
            if v4_18 ≤ (aI q14.2 a16.1 j19) then
              (f_X13_isOutOfWindows_L18 K o k n v1_18 v2_18 v3_18 v4_18 (v5_18 + 1) q14.2)
            else
              (some (true, q14.2))))))

def f_X13_isOutOfWindows (K : Kd) (o : Nat) (a_1 : Int32) (a_2 : Int32) (a_3 : Int32) (w : Wd) : Option (Bool × Wd) :=
  (cha K 20 (wR w 1301 o)).bind fun a1 =>
  (ixa (100 + a_1) a1.2).bind fun j2 =>
  f_X13_isOutOfWindows_L18 K o (fun v1_18 v2_18 v3_18 v4_18 v5_18 w3 =>
    some (false, w3)) fu a_1 a_2 a_3 ((a_3 + (aI w a1.1 j2)) - 1) 0 w

def f_X13_isWitnessTaken_L3 (K : Kd) (o : Nat) (k : Int32 → Int32 → Int32 → Int32 → Wd → Option (Bool × Wd)) : Nat → Int32 → Int32 → Int32 → Int32 → Wd → Option (Bool × Wd)
  | 0, _, _, _, _, _ => none
  | n + 1, v1_3, v2_3, v3_3, v4_3, w =>
    (cha K 20 (wR w 1301 o)).bind fun a2 =>
    (ixa 3 a2.2).bind fun j3 =>
    if (aI w a2.1 j3) ≤ v4_3 then
      (k v1_3 v2_3 v3_3 v4_3 w)
    else
      ((f_X13_meets K o v4_3 v1_3 v2_3 v3_3 w).bind fun q5 =>
      if (b2i q5.1) = 0 then
        (f_X13_isWitnessTaken_L3 K o k n v1_3 v2_3 v3_3 (v4_3 + 1) q5.2)
      else
        ((cha K 20 (wR q5.2 1301 o)).bind fun a7 =>
        (ixa (136 + v4_3) a7.2).bind fun j8 =>
        (ixa (136 + v1_3) a7.2).bind fun j9 =>
        if ((aI q5.2 a7.1 j8) &&& (aI q5.2 a7.1 j9)) = 0 then
          (f_X13_isWitnessTaken_L3 K o k n v1_3 v2_3 v3_3 (v4_3 + 1) q5.2)
        else
          (some (true, q5.2))))

def f_X13_isWitnessTaken (K : Kd) (o : Nat) (a_1 : Int32) (a_2 : Int32) (a_3 : Int32) (w : Wd) : Option (Bool × Wd) :=
  f_X13_isWitnessTaken_L3 K o (fun v1_3 v2_3 v3_3 v4_3 w1 =>
    some (false, w1)) fu a_1 a_2 a_3 0 w

def f_X13_isDayOut (K : Kd) (o : Nat) (a_1 : Int32) (a_2 : Int32) (w : Wd) : Option (Bool × Wd) :=
  (cha K 20 (wR w 1303 o)).bind fun a1 =>
  (ixa 0 a1.2).bind fun j2 =>
  if a_2 < (aI w a1.1 j2) then
    (some (true, w))
  else
    ((cha K 20 (wR w 1301 o)).bind fun a4 =>
    (ixa (88 + a_1) a4.2).bind fun j5 =>
    if a_2 < (aI w a4.1 j5) then
      (some (true, w))
    else
      ((f_X13_isWorking K o a_2 w).bind fun q7 =>
      if (b2i q7.1) = 0 then
        (some (true, q7.2))
      else
        (some (false, q7.2))))

def f_X13_problemOn (K : Kd) (o : Nat) (a_1 : Int32) (a_2 : Int32) (a_3 : Int32) (a_4 : Int32) (a_5 : Int32) (w : Wd) : Option (Int32 × Wd) :=
  (cha K 20 (wR w 1301 o)).bind fun a1 =>
  (ixa (4 + a_4) a1.2).bind fun j2 =>
  if a_3 < (aI w a1.1 j2) then
    (some (3, w))
  else
    ((ixa (100 + a_1) a1.2).bind fun j4 =>
    (ixa (7 + a_4) a1.2).bind fun j5 =>
    if ((a_3 + (aI w a1.1 j4)) - 1) ≤ (aI w a1.1 j5) then
      ((f_X13_isRoomTaken K o a_1 a_2 a_3 a_4 w).bind fun q7 =>
      if (b2i q7.1) = 0 then
        ((f_X13_isOffOn K o a_5 a_2 q7.2).bind fun q9 =>
        if (b2i q9.1) = 0 then
          ((f_X13_isOfficerTaken K o a_1 a_2 a_3 a_5 q9.2).bind fun q11 =>
          if (b2i q11.1) = 0 then
            ((f_X13_isBarredFrom K o a_5 a_1 q11.2).bind fun q13 =>
            if (b2i q13.1) = 0 then
              ((f_X13_isOutOfWindows K o a_1 a_2 a_3 q13.2).bind fun q15 =>
              if (b2i q15.1) = 0 then
                ((f_X13_isWitnessTaken K o a_1 a_2 a_3 q15.2).bind fun q17 =>
                if (b2i q17.1) = 0 then
                  (some (0, q17.2))
                else
                  (some (9, q17.2)))
              else
                (some (8, q15.2)))
            else
              (some (7, q13.2)))
          else
            (some (6, q11.2)))
        else
          (some (5, q9.2)))
      else
        (some (4, q7.2)))
    else
      (some (3, w)))

def f_X13_problemOf (K : Kd) (o : Nat) (a_1 : Int32) (a_2 : Int32) (a_3 : Int32) (a_4 : Int32) (a_5 : Int32) (w : Wd) : Option (Int32 × Wd) :=
  (f_X13_isDayOut K o a_1 a_2 w).bind fun q1 =>
  if (b2i q1.1) = 0 then
    ((f_X13_limitDay K o a_1 q1.2).bind fun q3 =>
    if a_2 ≤ q3.1 then
      ((f_X13_problemOn K o a_1 a_2 a_3 a_4 a_5 q3.2).bind fun q5 =>
      some (q5.1, q5.2))
    else
      (some (2, q3.2)))
  else
    (some (1, q1.2))

def f_X13_areThere (K : Kd) (o : Nat) (a_1 : Int32) (a_2 : Int32) (a_3 : Int32) (w : Wd) : Option (Bool × Wd) :=
  (f_X13_isCase K o a_1 w).bind fun q1 =>
  if (b2i q1.1) = 0 then
    (some (false, q1.2))
  else
    ((f_X13_isRoom K o a_2 q1.2).bind fun q3 =>
    if (b2i q3.1) = 0 then
      (some (false, q3.2))
    else
      ((f_X13_isOfficer K o a_3 q3.2).bind fun q5 =>
      if (b2i q5.1) = 0 then
        (some (false, q5.2))
      else
        (some (true, q5.2))))

def f_X13_isTime (K : Kd) (a_0 : Int32) (a_1 : Int32) (w : Wd) : Option (Bool × Wd) :=
  (f_X13_isDay K a_0 w).bind fun q1 =>
  if (b2i q1.1) = 0 then
    (some (false, q1.2))
  else
    ((f_X13_isIn K (a_1.toInt64) 0 7 q1.2).bind fun q3 =>
    if (b2i q3.1) = 0 then
      (some (false, q3.2))
    else
      (some (true, q3.2)))

def f_X13_isOpen (K : Kd) (o : Nat) (a_1 : Int32) (w : Wd) : Option (Bool × Wd) :=
  (f_X13_of K o a_1 0 w).bind fun q1 =>
  if 1 < q1.1 then
    (some (false, q1.2))
  else
    (some (true, q1.2))

def f_X13_problem (K : Kd) (o : Nat) (a_1 : Int32) (a_2 : Int32) (a_3 : Int32) (a_4 : Int32) (a_5 : Int32) (w : Wd) : Option (Int32 × Wd) :=
  (f_X13_areThere K o a_1 a_4 a_5 w).bind fun q1 =>
  (f_X13_is K o q1.1 q1.2).bind fun q2 =>
  if (b2i q2.1) = 0 then
    (some (0, q2.2))
  else
    ((f_X13_isTime K a_2 a_3 q2.2).bind fun q4 =>
    (f_X13_may K o q4.1 2 q4.2).bind fun q5 =>
    if (b2i q5.1) = 0 then
      (some (0, q5.2))
    else
      ((f_X13_isOpen K o a_1 q5.2).bind fun q7 =>
      (f_X13_may K o q7.1 3 q7.2).bind fun q8 =>
      if (b2i q8.1) = 0 then
        (some (0, q8.2))
      else
        ((f_X13_problemOf K o a_1 a_2 a_3 a_4 a_5 q8.2).bind fun q10 =>
        some (q10.1, q10.2))))

def f_X13_loadOf_L4 (K : Kd) (o : Nat) (k : Int32 → Int32 → Int32 → Wd → Option (Int32 × Wd)) : Nat → Int32 → Int32 → Int32 → Wd → Option (Int32 × Wd)
  | 0, _, _, _, _ => none
  | n + 1, v1_4, v2_4, v3_4, w =>
    (cha K 20 (wR w 1301 o)).bind fun a2 =>
    (ixa 3 a2.2).bind fun j3 =>
    if (aI w a2.1 j3) ≤ v3_4 then
      (k v1_4 v2_4 v3_4 w)
    else
      ((f_X13_hasHearing K o v3_4 w).bind fun q5 =>
      if (b2i q5.1) = 0 then
        (f_X13_loadOf_L4 K o k n v1_4 v2_4 (v3_4 + 1) q5.2)
      else
        ((f_X13_of K o v3_4 6 q5.2).bind fun q7 =>
        if q7.1 = v1_4 then
          ((cha K 20 (wR q7.2 1301 o)).bind fun a9 =>
          (ixa (100 + v3_4) a9.2).bind fun j10 =>
          f_X13_loadOf_L4 K o k n v1_4 (v2_4 + (aI q7.2 a9.1 j10)) (v3_4 + 1) q7.2)
        else
          (f_X13_loadOf_L4 K o k n v1_4 v2_4 (v3_4 + 1) q7.2)))

def f_X13_loadOf (K : Kd) (o : Nat) (a_1 : Int32) (w : Wd) : Option (Int32 × Wd) :=
  f_X13_loadOf_L4 K o (fun v1_4 v2_4 v3_4 w1 =>
    some (v2_4, w1)) fu a_1 0 0 w

def f_X13_officerFor_L6 (K : Kd) (o : Nat) (k : Int32 → Int32 → Int32 → Int32 → Int32 → Int32 → Wd → Option (Int32 × Wd)) : Nat → Int32 → Int32 → Int32 → Int32 → Int32 → Int32 → Wd → Option (Int32 × Wd)
  | 0, _, _, _, _, _, _, _ => none
  | n + 1, v1_6, v2_6, v3_6, v4_6, v5_6, v6_6, w =>
    (cha K 20 (wR w 1301 o)).bind fun a2 =>
    (ixa 1 a2.2).bind fun j3 =>
    if (aI w a2.1 j3) ≤ v6_6 then
      (k v1_6 v2_6 v3_6 v4_6 v5_6 v6_6 w)
    else
      (if v5_6 = (-1) then
        ((f_X13_problemOn K o v1_6 v2_6 v3_6 v4_6 v6_6 w).bind fun q6 =>
        if q6.1 = 0 then
          (f_X13_officerFor_L6 K o k n v1_6 v2_6 v3_6 v4_6 v6_6 (v6_6 + 1) q6.2)
        else
          (f_X13_officerFor_L6 K o k n v1_6 v2_6 v3_6 v4_6 v5_6 (v6_6 + 1) q6.2))
      else
        ((f_X13_loadOf K o v6_6 w).bind fun q8 =>
        (f_X13_loadOf K o v5_6 q8.2).bind fun q9 =>
        if q8.1 < q9.1 then
          ((f_X13_problemOn K o v1_6 v2_6 v3_6 v4_6 v6_6 q9.2).bind fun q11 =>
          if q11.1 = 0 then
            (f_X13_officerFor_L6 K o k n v1_6 v2_6 v3_6 v4_6 v6_6 (v6_6 + 1) q11.2)
          else
            (f_X13_officerFor_L6 K o k n v1_6 v2_6 v3_6 v4_6 v5_6 (v6_6 + 1) q11.2))
        else
          (f_X13_officerFor_L6 K o k n v1_6 v2_6 v3_6 v4_6 v5_6 (v6_6 + 1) q9.2)))

def f_X13_officerFor (K : Kd) (o : Nat) (a_1 : Int32) (a_2 : Int32) (a_3 : Int32) (a_4 : Int32) (w : Wd) : Option (Int32 × Wd) :=
  f_X13_officerFor_L6 K o (fun v1_6 v2_6 v3_6 v4_6 v5_6 v6_6 w1 =>
    some (v5_6, w1)) fu a_1 a_2 a_3 a_4 (-1) 0 w

def f_X13_findsOn_L21 (K : Kd) (o : Nat) (k : Int32 → Int32 → Int32 → Int32 → Wd → Option (Bool × Wd)) : Nat → Int32 → Int32 → Int32 → Int32 → Wd → Option (Bool × Wd)
  | 0, _, _, _, _, _ => none
  | n + 1, v1_21, v2_21, v3_21, v4_21, w =>
    (cha K 20 (wR w 1301 o)).bind fun a6 =>
    (ixa 0 a6.2).bind fun j7 =>
    if (aI w a6.1 j7) ≤ v4_21 then
      (k v1_21 v2_21 v3_21 v4_21 w)
    else
      ((f_X13_officerFor K o v1_21 v2_21 v3_21 v4_21 w).bind fun q9 =>
      if q9.1 = (-1) then
        (f_X13_findsOn_L21 K o k n v1_21 v2_21 v3_21 (v4_21 + 1) q9.2)
      else
        ((some (sI q9.2 1316 o v2_21)).bind fun w11 =>
        (some (sI w11 1317 o v3_21)).bind fun w12 =>
        (some (sI w12 1318 o v4_21)).bind fun w13 =>
        (some (sI w13 1319 o q9.1)).bind fun w14 =>
        some (true, w14)))

def f_X13_findsOn_L2 (K : Kd) (o : Nat) (k : Int32 → Int32 → Int32 → Wd → Option (Bool × Wd)) : Nat → Int32 → Int32 → Int32 → Wd → Option (Bool × Wd)
  | 0, _, _, _, _ => none
  | n + 1, v1_2, v2_2, v3_2, w =>
    (cha K 20 (wR w 1301 o)).bind fun a2 =>
    (ixa (100 + v1_2) a2.2).bind fun j3 =>
    if 8 < (v3_2 + (aI w a2.1 j3)) then
      (k v1_2 v2_2 v3_2 w)
    else
      (f_X13_findsOn_L21 K o (fun v1_21 v2_21 v3_21 v4_21 w5 =>
        f_X13_findsOn_L2 K o k n v1_21 v2_21 (v3_21 + 1) w5) fu v1_2 v2_2 v3_2 0 w)

def f_X13_findsOn (K : Kd) (o : Nat) (a_1 : Int32) (a_2 : Int32) (w : Wd) : Option (Bool × Wd) :=
  f_X13_findsOn_L2 K o (fun v1_2 v2_2 v3_2 w1 =>
    some (false, w1)) fu a_1 a_2 0 w

def f_X13_lastDay (K : Kd) (o : Nat) (a_1 : Int32) (w : Wd) : Option (Int32 × Wd) :=
  (f_X13_limitDay K o a_1 w).bind fun q1 =>
  if 600 ≤ q1.1 then
    (some (599, q1.2))
  else
    (some (q1.1, q1.2))

def f_X13_finds_L13 (K : Kd) (o : Nat) (k : Int32 → Int32 → Int32 → Wd → Option (Bool × Wd)) : Nat → Int32 → Int32 → Int32 → Wd → Option (Bool × Wd)
  | 0, _, _, _, _ => none
  | n + 1, v1_13, v2_13, v3_13, w =>
    if v2_13 < v3_13 then
      (k v1_13 v2_13 v3_13 w)
    else
      ((f_X13_isDayOut K o v1_13 v3_13 w).bind fun q6 =>
      if (b2i q6.1) = 0 then
        ((f_X13_findsOn K o v1_13 v3_13 q6.2).bind fun q8 =>
        if (b2i q8.1) = 0 then
          (f_X13_finds_L13 K o k n v1_13 v2_13 (v3_13 + 1) q8.2)
        else
          (some (true, q8.2)))
      else
        (f_X13_finds_L13 K o k n v1_13 v2_13 (v3_13 + 1) q6.2))

def f_X13_finds (K : Kd) (o : Nat) (a_1 : Int32) (w : Wd) : Option (Bool × Wd) :=
  (f_X13_lastDay K o a_1 w).bind fun q1 =>
  (cha K 20 (wR q1.2 1303 o)).bind fun a2 =>
  (ixa 0 a2.2).bind fun j3 =>
  f_X13_finds_L13 K o (fun v1_13 v2_13 v3_13 w4 =>
    some (false, w4)) fu a_1 q1.1 (aI q1.2 a2.1 j3) q1.2

def f_X13_opening (K : Kd) (o : Nat) (a_1 : Int32) (a_2 : Int32) (w : Wd) : Option (Int32 × Wd) :=
  (f_X13_isCase K o a_1 w).bind fun q1 =>
  if (b2i q1.1) = 0 then
    ((f_X13_is K o false q1.2).bind fun q3 =>
    if (b2i q3.1) = 0 then
      (some (0, q3.2))
    else
      ((f_X13_isOpen K o a_1 q3.2).bind fun q5 =>
      (f_X13_may K o q5.1 2 q5.2).bind fun q6 =>
      if (b2i q6.1) = 0 then
        (some (0, q6.2))
      else
        ((f_X13_finds K o a_1 q6.2).bind fun q8 =>
        if (b2i q8.1) = 0 then
          (some ((-1), q8.2))
        else
          (if a_2 < 0 ∨ 2 < a_2 then
            (some ((wI q8.2 1319 o), q8.2))
          else if a_2 = 0 then
            (some ((wI q8.2 1316 o), q8.2))
          else if a_2 = 1 then
            (some ((wI q8.2 1317 o), q8.2))
          else if a_2 = 2 then
            (some ((wI q8.2 1318 o), q8.2))
          else none))))
  else
    ((f_X13_isIn K (a_2.toInt64) 0 3 q1.2).bind fun q14 =>
    if (b2i q14.1) = 0 then
      ((f_X13_is K o false q14.2).bind fun q16 =>
      if (b2i q16.1) = 0 then
        (some (0, q16.2))
      else
        ((f_X13_isOpen K o a_1 q16.2).bind fun q18 =>
        (f_X13_may K o q18.1 2 q18.2).bind fun q19 =>
        if (b2i q19.1) = 0 then
          (some (0, q19.2))
        else
          ((f_X13_finds K o a_1 q19.2).bind fun q21 =>
          if (b2i q21.1) = 0 then
            (some ((-1), q21.2))
          else
            (if a_2 < 0 ∨ 2 < a_2 then
              (some ((wI q21.2 1319 o), q21.2))
            else if a_2 = 0 then
              (some ((wI q21.2 1316 o), q21.2))
            else if a_2 = 1 then
              (some ((wI q21.2 1317 o), q21.2))
            else if a_2 = 2 then
              (some ((wI q21.2 1318 o), q21.2))
            else none))))
    else
      ((f_X13_is K o true q14.2).bind fun q27 =>
      if (b2i q27.1) = 0 then
        (some (0, q27.2))
      else
        ((f_X13_isOpen K o a_1 q27.2).bind fun q29 =>
        (f_X13_may K o q29.1 2 q29.2).bind fun q30 =>
        if (b2i q30.1) = 0 then
          (some (0, q30.2))
        else
          ((f_X13_finds K o a_1 q30.2).bind fun q32 =>
          if (b2i q32.1) = 0 then
            (some ((-1), q32.2))
          else
            (if a_2 < 0 ∨ 2 < a_2 then
              (some ((wI q32.2 1319 o), q32.2))
            else if a_2 = 0 then
              (some ((wI q32.2 1316 o), q32.2))
            else if a_2 = 1 then
              (some ((wI q32.2 1317 o), q32.2))
            else if a_2 = 2 then
              (some ((wI q32.2 1318 o), q32.2))
            else none)))))

def f_X13_openDays_L43 (K : Kd) (o : Nat) (k : Int32 → Int32 → Int32 → Int32 → Wd → Option (Int32 × Wd)) : Nat → Int32 → Int32 → Int32 → Int32 → Wd → Option (Int32 × Wd)
  | 0, _, _, _, _, _ => none
  | n + 1, v1_43, v2_43, v3_43, v4_43, w =>
    if v3_43 < v4_43 then
      (k v1_43 v2_43 v3_43 v4_43 w)
    else
      ((f_X13_isDayOut K o v1_43 v4_43 w).bind fun q12 =>
      if (b2i q12.1) = 0 then
        ((f_X13_findsOn K o v1_43 v4_43 q12.2).bind fun q14 =>
        if (b2i q14.1) = 0 then
          (f_X13_openDays_L43 K o k n v1_43 v2_43 v3_43 (v4_43 + 1) q14.2)
        else
          (f_X13_openDays_L43 K o k n v1_43 (v2_43 + 1) v3_43 (v4_43 + 1) q14.2))
      else
        (f_X13_openDays_L43 K o k n v1_43 v2_43 v3_43 (v4_43 + 1) q12.2))

def f_X13_openDays (K : Kd) (o : Nat) (a_1 : Int32) (w : Wd) : Option (Int32 × Wd) :=
  (f_X13_isCase K o a_1 w).bind fun q1 =>
  (f_X13_is K o q1.1 q1.2).bind fun q2 =>
  if (b2i q2.1) = 0 then
    (some (0, q2.2))
  else
    ((f_X13_isOpen K o a_1 q2.2).bind fun q4 =>
    (f_X13_may K o q4.1 2 q4.2).bind fun q5 =>
    if (b2i q5.1) = 0 then
      (some (0, q5.2))
    else
      ((f_X13_lastDay K o a_1 q5.2).bind fun q7 =>
      (cha K 20 (wR q7.2 1303 o)).bind fun a8 =>
      (ixa 0 a8.2).bind fun j9 =>
      f_X13_openDays_L43 K o (fun v1_43 v2_43 v3_43 v4_43 w10 =>
        some (v2_43, w10)) fu a_1 0 q7.1 (aI q7.2 a8.1 j9) q7.2))

def f_X13_isUrgenter (K : Kd) (o : Nat) (a_1 : Int32) (a_2 : Int32) (w : Wd) : Option (Bool × Wd) :=
  (f_X13_limitDay K o a_1 w).bind fun q1 =>
  (f_X13_limitDay K o a_2 q1.2).bind fun q2 =>
  if q1.1 = q2.1 then
    ((cha K 20 (wR q2.2 1301 o)).bind fun a4 =>
    (ixa (124 + a_1) a4.2).bind fun j5 =>
    (ixa (124 + a_2) a4.2).bind fun j6 =>
    if (aI q2.2 a4.1 j5) = (aI q2.2 a4.1 j6) then
      (if a_2 ≤ a_1 then
        (some (false, q2.2))
      else
        (some (true, q2.2)))
    else
      ((ixa (124 + a_1) a4.2).bind fun j9 =>
      if (aI q2.2 a4.1 j9) = 1 then
        (some (true, q2.2))
      else
        (some (false, q2.2))))
  else
    (if q2.1 ≤ q1.1 then
      (some (false, q2.2))
    else
      (some (true, q2.2)))

def f_X13_urgentAt_L29 (K : Kd) (o : Nat) (k : Int32 → Int32 → Int32 → Int32 → Wd → Option (Int32 × Wd)) : Nat → Int32 → Int32 → Int32 → Int32 → Wd → Option (Int32 × Wd)
  | 0, _, _, _, _, _ => none
  | n + 1, v1_29, v2_29, v3_29, v4_29, w =>
    (cha K 20 (wR w 1301 o)).bind fun a8 =>
    (ixa 3 a8.2).bind fun j9 =>
    if (aI w a8.1 j9) ≤ v4_29 then
      (k v1_29 v2_29 v3_29 v4_29 w)
    else
      (if v4_29 = v2_29 then
        (f_X13_urgentAt_L29 K o k n v1_29 v2_29 v3_29 (v4_29 + 1) w)
      else
        ((f_X13_of K o v4_29 0 w).bind fun q12 =>
        if q12.1 = 0 then
          ((f_X13_isUrgenter K o v4_29 v2_29 q12.2).bind fun q14 =>
          if (b2i q14.1) = 0 then
            (f_X13_urgentAt_L29 K o k n v1_29 v2_29 v3_29 (v4_29 + 1) q14.2)
          else
            (f_X13_urgentAt_L29 K o k n v1_29 v2_29 (v3_29 + 1) (v4_29 + 1) q14.2))
        else
          (f_X13_urgentAt_L29 K o k n v1_29 v2_29 v3_29 (v4_29 + 1) q12.2)))

def f_X13_urgentAt_L2 (K : Kd) (o : Nat) (k : Int32 → Int32 → Wd → Option (Int32 × Wd)) : Nat → Int32 → Int32 → Wd → Option (Int32 × Wd)
  | 0, _, _, _ => none
  | n + 1, v1_2, v2_2, w =>
    (cha K 20 (wR w 1301 o)).bind fun a2 =>
    (ixa 3 a2.2).bind fun j3 =>
    if (aI w a2.1 j3) ≤ v2_2 then
      (k v1_2 v2_2 w)
    else
      ((f_X13_of K o v2_2 0 w).bind fun q5 =>
      if q5.1 = 0 then
        (f_X13_urgentAt_L29 K o (fun v1_29 v2_29 v3_29 v4_29 w7 =>
          if v3_29 = v1_29 then
            (some (v2_29, w7))
          else
            (f_X13_urgentAt_L2 K o k n v1_29 (v2_29 + 1) w7)) fu v1_2 v2_2 0 0 q5.2)
      else
        (f_X13_urgentAt_L2 K o k n v1_2 (v2_2 + 1) q5.2))

def f_X13_urgentAt (K : Kd) (o : Nat) (a_1 : Int32) (w : Wd) : Option (Int32 × Wd) :=
  f_X13_urgentAt_L2 K o (fun v1_2 v2_2 w1 =>
    some ((-1), w1)) fu a_1 0 w

def f_X13_urgent (K : Kd) (o : Nat) (a_1 : Int32) (w : Wd) : Option (Int32 × Wd) :=
  (f_X13_manyIn K o 0 w).bind fun q1 =>
  (f_X13_isIn K (a_1.toInt64) 0 ((q1.1 - 1).toInt64) q1.2).bind fun q2 =>
  (f_X13_is K o q2.1 q2.2).bind fun q3 =>
  if (b2i q3.1) = 0 then
    (some (0, q3.2))
  else
    ((f_X13_urgentAt K o a_1 q3.2).bind fun q5 =>
    some (q5.1, q5.2))

def f_X13_plans (K : Kd) (o : Nat) (a_1 : Int32) (a_2 : Int32) (a_3 : Int32) (a_4 : Int32) (a_5 : Int32) (w : Wd) : Option Wd :=
  (f_X13_lays K o a_1 0 1 w).bind fun q1 =>
  (f_X13_lays K o a_1 3 a_2 q1).bind fun q2 =>
  (f_X13_lays K o a_1 4 a_3 q2).bind fun q3 =>
  (f_X13_lays K o a_1 5 a_4 q3).bind fun q4 =>
  (f_X13_lays K o a_1 6 a_5 q4).bind fun q5 =>
  some q5

def f_X13_plan (K : Kd) (o : Nat) (a_1 : Int32) (a_2 : Int32) (a_3 : Int32) (a_4 : Int32) (a_5 : Int32) (w : Wd) : Option (Int32 × Wd) :=
  (f_X13_areThere K o a_1 a_4 a_5 w).bind fun q1 =>
  (f_X13_is K o q1.1 q1.2).bind fun q2 =>
  if (b2i q2.1) = 0 then
    (some (0, q2.2))
  else
    ((f_X13_isTime K a_2 a_3 q2.2).bind fun q4 =>
    (f_X13_may K o q4.1 2 q4.2).bind fun q5 =>
    if (b2i q5.1) = 0 then
      (some (0, q5.2))
    else
      ((f_X13_isOpen K o a_1 q5.2).bind fun q7 =>
      if (b2i q7.1) = 0 then
        ((f_X13_may K o false 3 q7.2).bind fun q9 =>
        if (b2i q9.1) = 0 then
          (some (0, q9.2))
        else
          ((f_X13_starts K o q9.2).bind fun q11 =>
          (f_X13_plans K o a_1 a_2 a_3 a_4 a_5 q11).bind fun q12 =>
          (f_X13_limitDay K o a_1 q12).bind fun q13 =>
          (f_X13_workingIn K o (a_2 + 1) q13.1 q13.2).bind fun q14 =>
          (f_X13_done K o q14.1 q14.2).bind fun q15 =>
          some (q15.1, q15.2)))
      else
        ((f_X13_problemOf K o a_1 a_2 a_3 a_4 a_5 q7.2).bind fun q16 =>
        if q16.1 = 0 then
          ((f_X13_may K o true 3 q16.2).bind fun q25 =>
          if (b2i q25.1) = 0 then
            (some (0, q25.2))
          else
            ((f_X13_starts K o q25.2).bind fun q27 =>
            (f_X13_plans K o a_1 a_2 a_3 a_4 a_5 q27).bind fun q28 =>
            (f_X13_limitDay K o a_1 q28).bind fun q29 =>
            (f_X13_workingIn K o (a_2 + 1) q29.1 q29.2).bind fun q30 =>
            (f_X13_done K o q30.1 q30.2).bind fun q31 =>
            some (q31.1, q31.2)))
        else
          ((f_X13_may K o false 3 q16.2).bind fun q18 =>
          if (b2i q18.1) = 0 then
            (some (0, q18.2))
          else
            ((f_X13_starts K o q18.2).bind fun q20 =>
            (f_X13_plans K o a_1 a_2 a_3 a_4 a_5 q20).bind fun q21 =>
            (f_X13_limitDay K o a_1 q21).bind fun q22 =>
            (f_X13_workingIn K o (a_2 + 1) q22.1 q22.2).bind fun q23 =>
            (f_X13_done K o q23.1 q23.2).bind fun q24 =>
            some (q24.1, q24.2))))))

def f_X13_plansNext (K : Kd) (o : Nat) (a_1 : Int32) (w : Wd) : Option (Bool × Wd) :=
  (f_X13_finds K o a_1 w).bind fun q1 =>
  if (b2i q1.1) = 0 then
    (some (false, q1.2))
  else
    ((f_X13_plans K o a_1 (wI q1.2 1316 o) (wI q1.2 1317 o) (wI q1.2 1318 o) (wI q1.2 1319 o) q1.2).bind fun q3 =>
    some (true, q3))

def f_X13_planNext (K : Kd) (o : Nat) (a_1 : Int32) (w : Wd) : Option (Int32 × Wd) :=
  (f_X13_isCase K o a_1 w).bind fun q1 =>
  (f_X13_is K o q1.1 q1.2).bind fun q2 =>
  if (b2i q2.1) = 0 then
    (some (0, q2.2))
  else
    ((f_X13_of K o a_1 0 q2.2).bind fun q4 =>
    if q4.1 = 0 then
      ((f_X13_may K o true 2 q4.2).bind fun q14 =>
      if (b2i q14.1) = 0 then
        (some (0, q14.2))
      else
        ((f_X13_finds K o a_1 q14.2).bind fun q16 =>
        (f_X13_may K o q16.1 3 q16.2).bind fun q17 =>
        if (b2i q17.1) = 0 then
          (some (0, q17.2))
        else
          ((f_X13_starts K o q17.2).bind fun q19 =>
          (f_X13_plans K o a_1 (wI q19 1316 o) (wI q19 1317 o) (wI q19 1318 o) (wI q19 1319 o) q19).bind fun q20 =>
          (f_X13_done K o (wI q20 1316 o) q20).bind fun q21 =>
          some (q21.1, q21.2))))
    else
      ((f_X13_may K o false 2 q4.2).bind fun q6 =>
      if (b2i q6.1) = 0 then
        (some (0, q6.2))
      else
        ((f_X13_finds K o a_1 q6.2).bind fun q8 =>
        (f_X13_may K o q8.1 3 q8.2).bind fun q9 =>
        if (b2i q9.1) = 0 then
          (some (0, q9.2))
        else
          ((f_X13_starts K o q9.2).bind fun q11 =>
          (f_X13_plans K o a_1 (wI q11 1316 o) (wI q11 1317 o) (wI q11 1318 o) (wI q11 1319 o) q11).bind fun q12 =>
          (f_X13_done K o (wI q12 1316 o) q12).bind fun q13 =>
          some (q13.1, q13.2)))))

def f_X13_plansAll_L8 (K : Kd) (o : Nat) (k : Int32 → Int32 → Wd → Option (Int32 × Wd)) : Nat → Int32 → Int32 → Wd → Option (Int32 × Wd)
  | 0, _, _, _ => none
  | n + 1, v1_8, v2_8, w =>
    if v1_8 ≤ v2_8 then
      (k v1_8 v2_8 w)
    else
      ((f_X13_urgentAt K o v2_8 w).bind fun q4 =>
      (cha K 20 (wR w 1320 o)).bind fun a5 =>
      (ixa v2_8 a5.2).bind fun j6 =>
      (some (tI q4.2 a5.1 j6 q4.1)).bind fun w7 =>
      f_X13_plansAll_L8 K o k n v1_8 (v2_8 + 1) w7)

def f_X13_plansAll_L34 (K : Kd) (o : Nat) (k : Int32 → Int32 → Int32 → Wd → Option (Int32 × Wd)) : Nat → Int32 → Int32 → Int32 → Wd → Option (Int32 × Wd)
  | 0, _, _, _, _ => none
  | n + 1, v1_34, v2_34, v3_34, w =>
    if v1_34 ≤ v3_34 then
      (k v1_34 v2_34 v3_34 w)
    else
      ((cha K 20 (wR w 1320 o)).bind fun a10 =>
      (ixa v3_34 a10.2).bind fun j11 =>
      (f_X13_plansNext K o (aI w a10.1 j11) w).bind fun q12 =>
      if (b2i q12.1) = 0 then
        (f_X13_plansAll_L34 K o k n v1_34 v2_34 (v3_34 + 1) q12.2)
      else
        (f_X13_plansAll_L34 K o k n v1_34 (v2_34 + 1) (v3_34 + 1) q12.2))

def f_X13_plansAll (K : Kd) (o : Nat) (w : Wd) : Option (Int32 × Wd) :=
  (f_X13_manyIn K o 0 w).bind fun q1 =>
  f_X13_plansAll_L8 K o (fun v1_8 v2_8 w2 =>
    f_X13_plansAll_L34 K o (fun v1_34 v2_34 v3_34 w8 =>
      some (v2_34, w8)) fu v1_8 0 0 w2) fu q1.1 0 q1.2

def f_X13_planAll (K : Kd) (o : Nat) (w : Wd) : Option (Int32 × Wd) :=
  (some (sI w 1300 o 0)).bind fun w1 =>
  (f_X13_starts K o w1).bind fun q2 =>
  (f_X13_plansAll K o q2).bind fun q3 =>
  (f_X13_done K o q3.1 q3.2).bind fun q4 =>
  some (q4.1, q4.2)

def f_X13_takesAway (K : Kd) (o : Nat) (a_1 : Int32) (a_2 : Int32) (w : Wd) : Option Wd :=
  (f_X13_lays K o a_1 0 0 w).bind fun q1 =>
  (f_X13_of K o a_1 2 q1).bind fun q2 =>
  if q2.1 = 5 then
    (some q2.2)
  else
    ((f_X13_of K o a_1 1 q2.2).bind fun q4 =>
    (cha K 20 (wR q4.2 1301 o)).bind fun a5 =>
    (ixa (160 + a_2) a5.2).bind fun j6 =>
    (ixa (124 + a_1) a5.2).bind fun j7 =>
    if (aI q4.2 a5.1 j7) = 1 then
      ((ixa 164 a5.2).bind fun j18 =>
      if (q4.1 + (aI q4.2 a5.1 j6)) ≤ (aI q4.2 a5.1 j18) then
        ((f_X13_lays K o a_1 1 (q4.1 + (aI q4.2 a5.1 j6)) q4.2).bind fun q20 =>
        (f_X13_lays K o a_1 2 (q2.1 + 1) q20).bind fun q21 =>
        (cha K 20 (wR q21 1303 o)).bind fun a22 =>
        (ixa 0 a22.2).bind fun j23 =>
        (f_X13_lays K o a_1 (7 + (4 * q2.1)) (aI q21 a22.1 j23) q21).bind fun q24 =>
        (f_X13_lays K o a_1 ((7 + (4 * q2.1)) + 1) a_2 q24).bind fun q25 =>
        (f_X13_of K o a_1 3 q25).bind fun q26 =>
        (f_X13_lays K o a_1 ((7 + (4 * q2.1)) + 2) q26.1 q26.2).bind fun q27 =>
        (f_X13_lays K o a_1 ((7 + (4 * q2.1)) + 3) ((q4.1 + (aI q4.2 a5.1 j6)) - q4.1) q27).bind fun q28 =>
        some q28)
      else
        ((ixa 164 a5.2).bind fun j29 =>
        (f_X13_lays K o a_1 1 (aI q4.2 a5.1 j29) q4.2).bind fun q30 =>
        (f_X13_lays K o a_1 2 (q2.1 + 1) q30).bind fun q31 =>
        (cha K 20 (wR q31 1303 o)).bind fun a32 =>
        (ixa 0 a32.2).bind fun j33 =>
        (f_X13_lays K o a_1 (7 + (4 * q2.1)) (aI q31 a32.1 j33) q31).bind fun q34 =>
        (f_X13_lays K o a_1 ((7 + (4 * q2.1)) + 1) a_2 q34).bind fun q35 =>
        (f_X13_of K o a_1 3 q35).bind fun q36 =>
        (f_X13_lays K o a_1 ((7 + (4 * q2.1)) + 2) q36.1 q36.2).bind fun q37 =>
        (f_X13_lays K o a_1 ((7 + (4 * q2.1)) + 3) ((aI q4.2 a5.1 j29) - q4.1) q37).bind fun q38 =>
        some q38))
    else
      ((f_X13_lays K o a_1 1 (q4.1 + (aI q4.2 a5.1 j6)) q4.2).bind fun q9 =>
      (f_X13_lays K o a_1 2 (q2.1 + 1) q9).bind fun q10 =>
      (cha K 20 (wR q10 1303 o)).bind fun a11 =>
      (ixa 0 a11.2).bind fun j12 =>
      (f_X13_lays K o a_1 (7 + (4 * q2.1)) (aI q10 a11.1 j12) q10).bind fun q13 =>
      (f_X13_lays K o a_1 ((7 + (4 * q2.1)) + 1) a_2 q13).bind fun q14 =>
      (f_X13_of K o a_1 3 q14).bind fun q15 =>
      (f_X13_lays K o a_1 ((7 + (4 * q2.1)) + 2) q15.1 q15.2).bind fun q16 =>
      (f_X13_lays K o a_1 ((7 + (4 * q2.1)) + 3) ((q4.1 + (aI q4.2 a5.1 j6)) - q4.1) q16).bind fun q17 =>
      some q17))

def f_X13_isReason (K : Kd) (a_0 : Int32) (w : Wd) : Option (Bool × Wd) :=
  (f_X13_isIn K (a_0.toInt64) 0 3 w).bind fun q1 =>
  some (q1.1, q1.2)

def f_X13_adjourn (K : Kd) (o : Nat) (a_1 : Int32) (a_2 : Int32) (w : Wd) : Option (Int32 × Wd) :=
  (f_X13_isCase K o a_1 w).bind fun q1 =>
  (f_X13_is K o q1.1 q1.2).bind fun q2 =>
  if (b2i q2.1) = 0 then
    (some (0, q2.2))
  else
    ((f_X13_isReason K a_2 q2.2).bind fun q4 =>
    (f_X13_may K o q4.1 2 q4.2).bind fun q5 =>
    if (b2i q5.1) = 0 then
      (some (0, q5.2))
    else
      ((f_X13_of K o a_1 0 q5.2).bind fun q7 =>
      if q7.1 = 1 then
        ((f_X13_of K o a_1 2 q7.2).bind fun q15 =>
        if 5 ≤ q15.1 then
          ((f_X13_may K o false 3 q15.2).bind fun q17 =>
          if (b2i q17.1) = 0 then
            (some (0, q17.2))
          else
            ((f_X13_starts K o q17.2).bind fun q19 =>
            (f_X13_takesAway K o a_1 a_2 q19).bind fun q20 =>
            (f_X13_limitDay K o a_1 q20).bind fun q21 =>
            (f_X13_done K o q21.1 q21.2).bind fun q22 =>
            some (q22.1, q22.2)))
        else
          ((f_X13_may K o true 3 q15.2).bind fun q23 =>
          if (b2i q23.1) = 0 then
            (some (0, q23.2))
          else
            ((f_X13_starts K o q23.2).bind fun q25 =>
            (f_X13_takesAway K o a_1 a_2 q25).bind fun q26 =>
            (f_X13_limitDay K o a_1 q26).bind fun q27 =>
            (f_X13_done K o q27.1 q27.2).bind fun q28 =>
            some (q28.1, q28.2))))
      else
        ((f_X13_may K o false 3 q7.2).bind fun q9 =>
        if (b2i q9.1) = 0 then
          (some (0, q9.2))
        else
          ((f_X13_starts K o q9.2).bind fun q11 =>
          (f_X13_takesAway K o a_1 a_2 q11).bind fun q12 =>
          (f_X13_limitDay K o a_1 q12).bind fun q13 =>
          (f_X13_done K o q13.1 q13.2).bind fun q14 =>
          some (q14.1, q14.2)))))

def f_X13_withdraw_L73 (K : Kd) (o : Nat) (k : Int32 → Int32 → Int32 → Int32 → Wd → Option (Int32 × Wd)) : Nat → Int32 → Int32 → Int32 → Int32 → Wd → Option (Int32 × Wd)
  | 0, _, _, _, _, _ => none
  | n + 1, v1_73, v2_73, v3_73, v4_73, w =>
    (cha K 20 (wR w 1301 o)).bind fun a14 =>
    (ixa 3 a14.2).bind fun j15 =>
    if (aI w a14.1 j15) ≤ v4_73 then
      (k v1_73 v2_73 v3_73 v4_73 w)
    else
      ((f_X13_of K o v4_73 0 w).bind fun q17 =>
      if q17.1 = 1 then
        ((f_X13_of K o v4_73 3 q17.2).bind fun q19 =>
        if q19.1 < v2_73 then
          (f_X13_withdraw_L73 K o k n v1_73 v2_73 v3_73 (v4_73 + 1) q19.2)
        else
          ((cha K 20 (wR q19.2 1301 o)).bind fun a21 =>
          (ixa (136 + v4_73) a21.2).bind fun j22 =>
          (f_X13_has K (aI q19.2 a21.1 j22) v1_73 q19.2).bind fun q23 =>
          if (b2i q23.1) = 0 then
            (f_X13_withdraw_L73 K o k n v1_73 v2_73 v3_73 (v4_73 + 1) q23.2)
          else
            ((f_X13_takesAway K o v4_73 0 q23.2).bind fun q25 =>
            f_X13_withdraw_L73 K o k n v1_73 v2_73 (v3_73 + 1) (v4_73 + 1) q25)))
      else
        (f_X13_withdraw_L73 K o k n v1_73 v2_73 v3_73 (v4_73 + 1) q17.2))

def f_X13_withdraw (K : Kd) (o : Nat) (a_1 : Int32) (a_2 : Int32) (w : Wd) : Option (Int32 × Wd) :=
  (f_X13_isWitness K o a_1 w).bind fun q1 =>
  (f_X13_is K o q1.1 q1.2).bind fun q2 =>
  if (b2i q2.1) = 0 then
    (some (0, q2.2))
  else
    ((cha K 20 (wR q2.2 1303 o)).bind fun a4 =>
    (ixa 0 a4.2).bind fun j5 =>
    (f_X13_isIn K (a_2.toInt64) ((aI q2.2 a4.1 j5).toInt64) 599 q2.2).bind fun q6 =>
    (f_X13_may K o q6.1 2 q6.2).bind fun q7 =>
    if (b2i q7.1) = 0 then
      (some (0, q7.2))
    else
      ((f_X13_starts K o q7.2).bind fun q9 =>
      (cha K 20 (wR q9 1303 o)).bind fun a10 =>
      (ixa (22 + a_1) a10.2).bind fun j11 =>
      if (aI q9 a10.1 j11) ≤ (a_2 - 1) then
        (f_X13_withdraw_L73 K o (fun v1_73 v2_73 v3_73 v4_73 w13 =>
          (f_X13_done K o v3_73 w13).bind fun q26 =>
          some (q26.1, q26.2)) fu a_1 a_2 0 0 q9)
      else
        ((ixa (22 + a_1) a10.2).bind fun j27 =>
        (some (tI q9 a10.1 j27 (a_2 - 1))).bind fun w28 =>
        f_X13_withdraw_L73 K o (fun v1_73 v2_73 v3_73 v4_73 w29 =>
          (f_X13_done K o v3_73 w29).bind fun q30 =>
          some (q30.1, q30.2)) fu a_1 a_2 0 0 w28)))

def f_X13_addHoliday_L92 (K : Kd) (o : Nat) (k : Int32 → Int32 → Int32 → Wd → Option (Int32 × Wd)) : Nat → Int32 → Int32 → Int32 → Wd → Option (Int32 × Wd)
  | 0, _, _, _, _ => none
  | n + 1, v1_92, v2_92, v3_92, w =>
    (cha K 20 (wR w 1301 o)).bind fun a20 =>
    (ixa 3 a20.2).bind fun j21 =>
    if (aI w a20.1 j21) ≤ v3_92 then
      (k v1_92 v2_92 v3_92 w)
    else
      ((f_X13_of K o v3_92 0 w).bind fun q23 =>
      if q23.1 = 1 then
        ((f_X13_of K o v3_92 3 q23.2).bind fun q25 =>
        if q25.1 = v1_92 then
          ((f_X13_takesAway K o v3_92 3 q25.2).bind fun q27 =>
          f_X13_addHoliday_L92 K o k n v1_92 (v2_92 + 1) (v3_92 + 1) q27)
        else
          (f_X13_addHoliday_L92 K o k n v1_92 v2_92 (v3_92 + 1) q25.2))
      else
        (f_X13_addHoliday_L92 K o k n v1_92 v2_92 (v3_92 + 1) q23.2))

def f_X13_addHoliday (K : Kd) (o : Nat) (a_1 : Int32) (w : Wd) : Option (Int32 × Wd) :=
  (cha K 20 (wR w 1303 o)).bind fun a1 =>
  (ixa 0 a1.2).bind fun j2 =>
  (f_X13_isIn K (a_1.toInt64) ((aI w a1.1 j2).toInt64) 599 w).bind fun q3 =>
  (f_X13_is K o q3.1 q3.2).bind fun q4 =>
  if (b2i q4.1) = 0 then
    (some (0, q4.2))
  else
    ((f_X13_isWorking K o a_1 q4.2).bind fun q6 =>
    if (b2i q6.1) = 0 then
      ((f_X13_may K o false 2 q6.2).bind fun q8 =>
      if (b2i q8.1) = 0 then
        (some (0, q8.2))
      else
        ((f_X13_starts K o q8.2).bind fun q10 =>
        (cha K 20 (wR q10 1303 o)).bind fun a11 =>
        (ixa 1 a11.2).bind fun j12 =>
        (ixa (2 + (aI q10 a11.1 j12)) a11.2).bind fun j13 =>
        (some (tI q10 a11.1 j13 a_1)).bind fun w14 =>
        (cha K 20 (wR w14 1303 o)).bind fun a15 =>
        (ixa 1 a15.2).bind fun j16 =>
        (ixa 1 a15.2).bind fun j17 =>
        (some (tI w14 a15.1 j17 ((aI w14 a15.1 j16) + 1))).bind fun w18 =>
        f_X13_addHoliday_L92 K o (fun v1_92 v2_92 v3_92 w19 =>
          (f_X13_done K o v2_92 w19).bind fun q28 =>
          some (q28.1, q28.2)) fu a_1 0 0 w18))
    else
      ((cha K 20 (wR q6.2 1303 o)).bind fun a29 =>
      (ixa 1 a29.2).bind fun j30 =>
      if 20 ≤ (aI q6.2 a29.1 j30) then
        ((f_X13_may K o false 2 q6.2).bind fun q32 =>
        if (b2i q32.1) = 0 then
          (some (0, q32.2))
        else
          ((f_X13_starts K o q32.2).bind fun q34 =>
          (cha K 20 (wR q34 1303 o)).bind fun a35 =>
          (ixa 1 a35.2).bind fun j36 =>
          (ixa (2 + (aI q34 a35.1 j36)) a35.2).bind fun j37 =>
          (some (tI q34 a35.1 j37 a_1)).bind fun w38 =>
          (cha K 20 (wR w38 1303 o)).bind fun a39 =>
          (ixa 1 a39.2).bind fun j40 =>
          (ixa 1 a39.2).bind fun j41 =>
          (some (tI w38 a39.1 j41 ((aI w38 a39.1 j40) + 1))).bind fun w42 =>
          f_X13_addHoliday_L92 K o (fun v1_92 v2_92 v3_92 w43 =>
            (f_X13_done K o v2_92 w43).bind fun q44 =>
            some (q44.1, q44.2)) fu a_1 0 0 w42))
      else
        ((f_X13_may K o true 2 q6.2).bind fun q45 =>
        if (b2i q45.1) = 0 then
          (some (0, q45.2))
        else
          ((f_X13_starts K o q45.2).bind fun q47 =>
          (cha K 20 (wR q47 1303 o)).bind fun a48 =>
          (ixa 1 a48.2).bind fun j49 =>
          (ixa (2 + (aI q47 a48.1 j49)) a48.2).bind fun j50 =>
          (some (tI q47 a48.1 j50 a_1)).bind fun w51 =>
          (cha K 20 (wR w51 1303 o)).bind fun a52 =>
          (ixa 1 a52.2).bind fun j53 =>
          (ixa 1 a52.2).bind fun j54 =>
          (some (tI w51 a52.1 j54 ((aI w51 a52.1 j53) + 1))).bind fun w55 =>
          f_X13_addHoliday_L92 K o (fun v1_92 v2_92 v3_92 w56 =>
            (f_X13_done K o v2_92 w56).bind fun q57 =>
            some (q57.1, q57.2)) fu a_1 0 0 w55))))

def f_X13_addBar (K : Kd) (o : Nat) (a_1 : Int32) (a_2 : Int32) (w : Wd) : Option (Bool × Wd) :=
  (f_X13_isOfficer K o a_1 w).bind fun q1 =>
  if (b2i q1.1) = 0 then
    ((f_X13_is K o false q1.2).bind fun q3 =>
    if (b2i q3.1) = 0 then
      (some (false, q3.2))
    else
      ((cha K 20 (wR q3.2 1303 o)).bind fun a5 =>
      (ixa (34 + a_2) a5.2).bind fun j6 =>
      (f_X13_has K (aI q3.2 a5.1 j6) a_1 q3.2).bind fun q7 =>
      if (b2i q7.1) = 0 then
        ((f_X13_may K o true 2 q7.2).bind fun q33 =>
        if (b2i q33.1) = 0 then
          (some (false, q33.2))
        else
          ((f_X13_starts K o q33.2).bind fun q35 =>
          (cha K 20 (wR q35 1303 o)).bind fun a36 =>
          (ixa (34 + a_2) a36.2).bind fun j37 =>
          (ixa (34 + a_2) a36.2).bind fun j38 =>
          (some (tI q35 a36.1 j38 ((aI q35 a36.1 j37) ||| (1 <<< (a_1 &&& 31))))).bind fun w39 =>
          (f_X13_of K o a_2 0 w39).bind fun q40 =>
          if q40.1 = 1 then
            ((f_X13_of K o a_2 6 q40.2).bind fun q46 =>
            if q46.1 = a_1 then
              ((f_X13_takesAway K o a_2 1 q46.2).bind fun q53 =>
              (f_X13_done K o 1 q53).bind fun q54 =>
              if q54.1 = 1 then
                (some (true, q54.2))
              else
                (some (false, q54.2)))
            else
              ((f_X13_done K o 1 q46.2).bind fun q49 =>
              if q49.1 = 1 then
                (some (false, q49.2))
              else
                (some (false, q49.2))))
          else
            ((f_X13_done K o 1 q40.2).bind fun q43 =>
            if q43.1 = 1 then
              (some (false, q43.2))
            else
              (some (false, q43.2)))))
      else
        ((f_X13_may K o false 2 q7.2).bind fun q9 =>
        if (b2i q9.1) = 0 then
          (some (false, q9.2))
        else
          ((f_X13_starts K o q9.2).bind fun q11 =>
          (cha K 20 (wR q11 1303 o)).bind fun a12 =>
          (ixa (34 + a_2) a12.2).bind fun j13 =>
          (ixa (34 + a_2) a12.2).bind fun j14 =>
          (some (tI q11 a12.1 j14 ((aI q11 a12.1 j13) ||| (1 <<< (a_1 &&& 31))))).bind fun w15 =>
          (f_X13_of K o a_2 0 w15).bind fun q16 =>
          if q16.1 = 1 then
            ((f_X13_of K o a_2 6 q16.2).bind fun q22 =>
            if q22.1 = a_1 then
              ((f_X13_takesAway K o a_2 1 q22.2).bind fun q29 =>
              (f_X13_done K o 1 q29).bind fun q30 =>
              if q30.1 = 1 then
                (some (true, q30.2))
              else
                (some (false, q30.2)))
            else
              ((f_X13_done K o 1 q22.2).bind fun q25 =>
              if q25.1 = 1 then
                (some (false, q25.2))
              else
                (some (false, q25.2))))
          else
            ((f_X13_done K o 1 q16.2).bind fun q19 =>
            if q19.1 = 1 then
              (some (false, q19.2))
            else
              (some (false, q19.2)))))))
  else
    ((f_X13_isCase K o a_2 q1.2).bind fun q57 =>
    if (b2i q57.1) = 0 then
      ((f_X13_is K o false q57.2).bind fun q59 =>
      if (b2i q59.1) = 0 then
        (some (false, q59.2))
      else
        ((cha K 20 (wR q59.2 1303 o)).bind fun a61 =>
        (ixa (34 + a_2) a61.2).bind fun j62 =>
        (f_X13_has K (aI q59.2 a61.1 j62) a_1 q59.2).bind fun q63 =>
        if (b2i q63.1) = 0 then
          ((f_X13_may K o true 2 q63.2).bind fun q89 =>
          if (b2i q89.1) = 0 then
            (some (false, q89.2))
          else
            ((f_X13_starts K o q89.2).bind fun q91 =>
            (cha K 20 (wR q91 1303 o)).bind fun a92 =>
            (ixa (34 + a_2) a92.2).bind fun j93 =>
            (ixa (34 + a_2) a92.2).bind fun j94 =>
            (some (tI q91 a92.1 j94 ((aI q91 a92.1 j93) ||| (1 <<< (a_1 &&& 31))))).bind fun w95 =>
            (f_X13_of K o a_2 0 w95).bind fun q96 =>
            if q96.1 = 1 then
              ((f_X13_of K o a_2 6 q96.2).bind fun q102 =>
              if q102.1 = a_1 then
                ((f_X13_takesAway K o a_2 1 q102.2).bind fun q109 =>
                (f_X13_done K o 1 q109).bind fun q110 =>
                if q110.1 = 1 then
                  (some (true, q110.2))
                else
                  (some (false, q110.2)))
              else
                ((f_X13_done K o 1 q102.2).bind fun q105 =>
                if q105.1 = 1 then
                  (some (false, q105.2))
                else
                  (some (false, q105.2))))
            else
              ((f_X13_done K o 1 q96.2).bind fun q99 =>
              if q99.1 = 1 then
                (some (false, q99.2))
              else
                (some (false, q99.2)))))
        else
          ((f_X13_may K o false 2 q63.2).bind fun q65 =>
          if (b2i q65.1) = 0 then
            (some (false, q65.2))
          else
            ((f_X13_starts K o q65.2).bind fun q67 =>
            (cha K 20 (wR q67 1303 o)).bind fun a68 =>
            (ixa (34 + a_2) a68.2).bind fun j69 =>
            (ixa (34 + a_2) a68.2).bind fun j70 =>
            (some (tI q67 a68.1 j70 ((aI q67 a68.1 j69) ||| (1 <<< (a_1 &&& 31))))).bind fun w71 =>
            (f_X13_of K o a_2 0 w71).bind fun q72 =>
            if q72.1 = 1 then
              ((f_X13_of K o a_2 6 q72.2).bind fun q78 =>
              if q78.1 = a_1 then
                ((f_X13_takesAway K o a_2 1 q78.2).bind fun q85 =>
                (f_X13_done K o 1 q85).bind fun q86 =>
                if q86.1 = 1 then
                  (some (true, q86.2))
                else
                  (some (false, q86.2)))
              else
                ((f_X13_done K o 1 q78.2).bind fun q81 =>
                if q81.1 = 1 then
                  (some (false, q81.2))
                else
                  (some (false, q81.2))))
            else
              ((f_X13_done K o 1 q72.2).bind fun q75 =>
              if q75.1 = 1 then
                (some (false, q75.2))
              else
                (some (false, q75.2)))))))
    else
      ((f_X13_is K o true q57.2).bind fun q113 =>
      if (b2i q113.1) = 0 then
        (some (false, q113.2))
      else
        ((cha K 20 (wR q113.2 1303 o)).bind fun a115 =>
        (ixa (34 + a_2) a115.2).bind fun j116 =>
        (f_X13_has K (aI q113.2 a115.1 j116) a_1 q113.2).bind fun q117 =>
        if (b2i q117.1) = 0 then
          ((f_X13_may K o true 2 q117.2).bind fun q143 =>
          if (b2i q143.1) = 0 then
            (some (false, q143.2))
          else
            ((f_X13_starts K o q143.2).bind fun q145 =>
            (cha K 20 (wR q145 1303 o)).bind fun a146 =>
            (ixa (34 + a_2) a146.2).bind fun j147 =>
            (ixa (34 + a_2) a146.2).bind fun j148 =>
            (some (tI q145 a146.1 j148 ((aI q145 a146.1 j147) ||| (1 <<< (a_1 &&& 31))))).bind fun w149 =>
            (f_X13_of K o a_2 0 w149).bind fun q150 =>
            if q150.1 = 1 then
              ((f_X13_of K o a_2 6 q150.2).bind fun q156 =>
              if q156.1 = a_1 then
                ((f_X13_takesAway K o a_2 1 q156.2).bind fun q163 =>
                (f_X13_done K o 1 q163).bind fun q164 =>
                if q164.1 = 1 then
                  (some (true, q164.2))
                else
                  (some (false, q164.2)))
              else
                ((f_X13_done K o 1 q156.2).bind fun q159 =>
                if q159.1 = 1 then
                  (some (false, q159.2))
                else
                  (some (false, q159.2))))
            else
              ((f_X13_done K o 1 q150.2).bind fun q153 =>
              if q153.1 = 1 then
                (some (false, q153.2))
              else
                (some (false, q153.2)))))
        else
          ((f_X13_may K o false 2 q117.2).bind fun q119 =>
          if (b2i q119.1) = 0 then
            (some (false, q119.2))
          else
            ((f_X13_starts K o q119.2).bind fun q121 =>
            (cha K 20 (wR q121 1303 o)).bind fun a122 =>
            (ixa (34 + a_2) a122.2).bind fun j123 =>
            (ixa (34 + a_2) a122.2).bind fun j124 =>
            (some (tI q121 a122.1 j124 ((aI q121 a122.1 j123) ||| (1 <<< (a_1 &&& 31))))).bind fun w125 =>
            (f_X13_of K o a_2 0 w125).bind fun q126 =>
            if q126.1 = 1 then
              ((f_X13_of K o a_2 6 q126.2).bind fun q132 =>
              if q132.1 = a_1 then
                ((f_X13_takesAway K o a_2 1 q132.2).bind fun q139 =>
                (f_X13_done K o 1 q139).bind fun q140 =>
                if q140.1 = 1 then
                  (some (true, q140.2))
                else
                  (some (false, q140.2)))
              else
                ((f_X13_done K o 1 q132.2).bind fun q135 =>
                if q135.1 = 1 then
                  (some (false, q135.2))
                else
                  (some (false, q135.2))))
            else
              ((f_X13_done K o 1 q126.2).bind fun q129 =>
              if q129.1 = 1 then
                (some (false, q129.2))
              else
                (some (false, q129.2))))))))

def f_X13_passes_L4 (K : Kd) (o : Nat) (k : Int32 → Int32 → Wd → Option (Int32 × Wd)) : Nat → Int32 → Int32 → Wd → Option (Int32 × Wd)
  | 0, _, _, _ => none
  | n + 1, v1_4, v2_4, w =>
    (cha K 20 (wR w 1301 o)).bind fun a2 =>
    (ixa 3 a2.2).bind fun j3 =>
    if (aI w a2.1 j3) ≤ v2_4 then
      (k v1_4 v2_4 w)
    else
      ((f_X13_of K o v2_4 0 w).bind fun q5 =>
      if q5.1 = 1 then
        ((f_X13_of K o v2_4 3 q5.2).bind fun q7 =>
        (cha K 20 (wR q7.2 1303 o)).bind fun a8 =>
        (ixa 0 a8.2).bind fun j9 =>
        if q7.1 = (aI q7.2 a8.1 j9) then
          ((f_X13_lays K o v2_4 0 2 q7.2).bind fun q11 =>
          f_X13_passes_L4 K o k n (v1_4 + 1) (v2_4 + 1) q11)
        else
          (f_X13_passes_L4 K o k n v1_4 (v2_4 + 1) q7.2))
      else
        (f_X13_passes_L4 K o k n v1_4 (v2_4 + 1) q5.2))

def f_X13_passes_L75 (K : Kd) (o : Nat) (k : Int32 → Int32 → Wd → Option (Int32 × Wd)) : Nat → Int32 → Int32 → Wd → Option (Int32 × Wd)
  | 0, _, _, _ => none
  | n + 1, v1_75, v2_75, w =>
    (cha K 20 (wR w 1301 o)).bind fun a17 =>
    (ixa 3 a17.2).bind fun j18 =>
    if (aI w a17.1 j18) ≤ v2_75 then
      (k v1_75 v2_75 w)
    else
      ((f_X13_of K o v2_75 0 w).bind fun q20 =>
      if q20.1 = 0 then
        ((f_X13_limitDay K o v2_75 q20.2).bind fun q22 =>
        (cha K 20 (wR q22.2 1303 o)).bind fun a23 =>
        (ixa 0 a23.2).bind fun j24 =>
        if (aI q22.2 a23.1 j24) ≤ q22.1 then
          (f_X13_passes_L75 K o k n v1_75 (v2_75 + 1) q22.2)
        else
          ((f_X13_lays K o v2_75 0 3 q22.2).bind fun q26 =>
          f_X13_passes_L75 K o k n v1_75 (v2_75 + 1) q26))
      else
        (f_X13_passes_L75 K o k n v1_75 (v2_75 + 1) q20.2))

def f_X13_passes (K : Kd) (o : Nat) (w : Wd) : Option (Int32 × Wd) :=
  f_X13_passes_L4 K o (fun v1_4 v2_4 w1 =>
    (cha K 20 (wR w1 1303 o)).bind fun a12 =>
    (ixa 0 a12.2).bind fun j13 =>
    (ixa 0 a12.2).bind fun j14 =>
    (some (tI w1 a12.1 j14 ((aI w1 a12.1 j13) + 1))).bind fun w15 =>
    f_X13_passes_L75 K o (fun v1_75 v2_75 w16 =>
      some (v1_75, w16)) fu v1_4 0 w15) fu 0 0 w

def f_X13_canPass (K : Kd) (o : Nat) (a_1 : Int32) (w : Wd) : Option (Bool × Wd) :=
  (f_X13_isIn K (a_1.toInt64) 1 99 w).bind fun q1 =>
  if (b2i q1.1) = 0 then
    (some (false, q1.2))
  else
    ((cha K 20 (wR q1.2 1303 o)).bind fun a3 =>
    (ixa 0 a3.2).bind fun j4 =>
    if 600 ≤ ((aI q1.2 a3.1 j4) + a_1) then
      (some (false, q1.2))
    else
      (some (true, q1.2)))

def f_X13_passesAll_L4 (K : Kd) (o : Nat) (k : Int32 → Int32 → Int32 → Wd → Option (Int32 × Wd)) : Nat → Int32 → Int32 → Int32 → Wd → Option (Int32 × Wd)
  | 0, _, _, _, _ => none
  | n + 1, v1_4, v2_4, v3_4, w =>
    if v1_4 ≤ v3_4 then
      (k v1_4 v2_4 v3_4 w)
    else
      ((f_X13_passes K o w).bind fun q3 =>
      f_X13_passesAll_L4 K o k n v1_4 (v2_4 + q3.1) (v3_4 + 1) q3.2)

def f_X13_passesAll (K : Kd) (o : Nat) (a_1 : Int32) (w : Wd) : Option (Int32 × Wd) :=
  f_X13_passesAll_L4 K o (fun v1_4 v2_4 v3_4 w1 =>
    some (v2_4, w1)) fu a_1 0 0 w

def f_X13_pass (K : Kd) (o : Nat) (a_1 : Int32) (w : Wd) : Option (Int32 × Wd) :=
  (f_X13_canPass K o a_1 w).bind fun q1 =>
  (f_X13_is K o q1.1 q1.2).bind fun q2 =>
  if (b2i q2.1) = 0 then
    (some (0, q2.2))
  else
    ((f_X13_starts K o q2.2).bind fun q4 =>
    (f_X13_passesAll K o a_1 q4).bind fun q5 =>
    (f_X13_done K o q5.1 q5.2).bind fun q6 =>
    some (q6.1, q6.2))

def f_X13_lapsesIn (K : Kd) (o : Nat) (a_1 : Int32) (w : Wd) : Option (Int32 × Wd) :=
  (f_X13_canPass K o a_1 w).bind fun q1 =>
  (f_X13_is K o q1.1 q1.2).bind fun q2 =>
  if (b2i q2.1) = 0 then
    (some (0, q2.2))
  else
    ((f_X13_tries K o q2.2).bind fun q4 =>
    (f_X13_manyIn K o 3 q4).bind fun q5 =>
    (f_X13_passesAll K o a_1 q5.2).bind fun q6 =>
    (f_X13_manyIn K o 3 q6.2).bind fun q7 =>
    (f_X13_laysBack K o (q7.1 - q5.1) q7.2).bind fun q8 =>
    some (q8.1, q8.2))

def f_X13_plannableNow (K : Kd) (o : Nat) (w : Wd) : Option (Int32 × Wd) :=
  (f_X13_tries K o w).bind fun q1 =>
  (f_X13_plansAll K o q1).bind fun q2 =>
  (f_X13_laysBack K o q2.1 q2.2).bind fun q3 =>
  some (q3.1, q3.2)

def f_X13_plannable (K : Kd) (o : Nat) (w : Wd) : Option (Int32 × Wd) :=
  (some (sI w 1300 o 0)).bind fun w1 =>
  (f_X13_plannableNow K o w1).bind fun q2 =>
  some (q2.1, q2.2)

def f_X13_keyOfficer_L14 (K : Kd) (o : Nat) (k : Int32 → Int32 → Int32 → Wd → Option (Int32 × Wd)) : Nat → Int32 → Int32 → Int32 → Wd → Option (Int32 × Wd)
  | 0, _, _, _, _ => none
  | n + 1, v1_14, v2_14, v3_14, w =>
    (cha K 20 (wR w 1301 o)).bind fun a4 =>
    (ixa 1 a4.2).bind fun j5 =>
    if (aI w a4.1 j5) ≤ v3_14 then
      (k v1_14 v2_14 v3_14 w)
    else
      ((some (sI w 1315 o v3_14)).bind fun w7 =>
      (f_X13_plannableNow K o w7).bind fun q8 =>
      (some (sI q8.2 1315 o (-1))).bind fun w9 =>
      if q8.1 < v2_14 then
        (f_X13_keyOfficer_L14 K o k n v3_14 q8.1 (v3_14 + 1) w9)
      else
        (f_X13_keyOfficer_L14 K o k n v1_14 v2_14 (v3_14 + 1) w9))

def f_X13_keyOfficer (K : Kd) (o : Nat) (w : Wd) : Option (Int32 × Wd) :=
  (some (sI w 1300 o 0)).bind fun w1 =>
  (f_X13_plannableNow K o w1).bind fun q2 =>
  f_X13_keyOfficer_L14 K o (fun v1_14 v2_14 v3_14 w3 =>
    some (v1_14, w3)) fu (-1) q2.1 0 q2.2

def f_X13_needing_L4 (K : Kd) (o : Nat) (k : Int32 → Int32 → Int32 → Wd → Option (Int32 × Wd)) : Nat → Int32 → Int32 → Int32 → Wd → Option (Int32 × Wd)
  | 0, _, _, _, _ => none
  | n + 1, v1_4, v2_4, v3_4, w =>
    (cha K 20 (wR w 1301 o)).bind fun a2 =>
    (ixa 3 a2.2).bind fun j3 =>
    if (aI w a2.1 j3) ≤ v3_4 then
      (k v1_4 v2_4 v3_4 w)
    else
      ((f_X13_of K o v3_4 0 w).bind fun q5 =>
      if q5.1 = 1 then
        ((cha K 20 (wR q5.2 1301 o)).bind fun a7 =>
        (ixa (136 + v3_4) a7.2).bind fun j8 =>
        (f_X13_has K (aI q5.2 a7.1 j8) v1_4 q5.2).bind fun q9 =>
        if (b2i q9.1) = 0 then
          (f_X13_needing_L4 K o k n v1_4 v2_4 (v3_4 + 1) q9.2)
        else
          (f_X13_needing_L4 K o k n v1_4 (v2_4 + 1) (v3_4 + 1) q9.2))
      else
        (f_X13_needing_L4 K o k n v1_4 v2_4 (v3_4 + 1) q5.2))

def f_X13_needing (K : Kd) (o : Nat) (a_1 : Int32) (w : Wd) : Option (Int32 × Wd) :=
  f_X13_needing_L4 K o (fun v1_4 v2_4 v3_4 w1 =>
    some (v2_4, w1)) fu a_1 0 0 w

def f_X13_isOff (K : Kd) (o : Nat) (a_1 : Int32) (a_2 : Int32) (w : Wd) : Option (Bool × Wd) :=
  (f_X13_isOfficer K o a_1 w).bind fun q1 =>
  (f_X13_is K o q1.1 q1.2).bind fun q2 =>
  if (b2i q2.1) = 0 then
    (some (false, q2.2))
  else
    ((f_X13_isDay K a_2 q2.2).bind fun q4 =>
    (f_X13_may K o q4.1 2 q4.2).bind fun q5 =>
    if (b2i q5.1) = 0 then
      (some (false, q5.2))
    else
      ((f_X13_isOffOn K o a_1 a_2 q5.2).bind fun q7 =>
      if (b2i q7.1) = 0 then
        (some (false, q7.2))
      else
        (some (true, q7.2))))

def f_X13_isBarred (K : Kd) (o : Nat) (a_1 : Int32) (a_2 : Int32) (w : Wd) : Option (Bool × Wd) :=
  (f_X13_isOfficer K o a_1 w).bind fun q1 =>
  if (b2i q1.1) = 0 then
    ((f_X13_is K o false q1.2).bind fun q3 =>
    if (b2i q3.1) = 0 then
      (some (false, q3.2))
    else
      ((f_X13_isBarredFrom K o a_1 a_2 q3.2).bind fun q5 =>
      if (b2i q5.1) = 0 then
        (some (false, q5.2))
      else
        (some (true, q5.2))))
  else
    ((f_X13_isCase K o a_2 q1.2).bind fun q7 =>
    if (b2i q7.1) = 0 then
      ((f_X13_is K o false q7.2).bind fun q9 =>
      if (b2i q9.1) = 0 then
        (some (false, q9.2))
      else
        ((f_X13_isBarredFrom K o a_1 a_2 q9.2).bind fun q11 =>
        if (b2i q11.1) = 0 then
          (some (false, q11.2))
        else
          (some (true, q11.2))))
    else
      ((f_X13_is K o true q7.2).bind fun q13 =>
      if (b2i q13.1) = 0 then
        (some (false, q13.2))
      else
        ((f_X13_isBarredFrom K o a_1 a_2 q13.2).bind fun q15 =>
        if (b2i q15.1) = 0 then
          (some (false, q15.2))
        else
          (some (true, q15.2)))))

def f_X13_load (K : Kd) (o : Nat) (a_1 : Int32) (w : Wd) : Option (Int32 × Wd) :=
  (f_X13_isOfficer K o a_1 w).bind fun q1 =>
  (f_X13_is K o q1.1 q1.2).bind fun q2 =>
  if (b2i q2.1) = 0 then
    (some (0, q2.2))
  else
    ((f_X13_loadOf K o a_1 q2.2).bind fun q4 =>
    some (q4.1, q4.2))

def f_X13_eligible_L18 (K : Kd) (o : Nat) (k : Int32 → Int32 → Int32 → Wd → Option (Int32 × Wd)) : Nat → Int32 → Int32 → Int32 → Wd → Option (Int32 × Wd)
  | 0, _, _, _, _ => none
  | n + 1, v1_18, v2_18, v3_18, w =>
    (cha K 20 (wR w 1301 o)).bind fun a5 =>
    (ixa 1 a5.2).bind fun j6 =>
    if (aI w a5.1 j6) ≤ v3_18 then
      (k v1_18 v2_18 v3_18 w)
    else
      ((f_X13_isBarredFrom K o v3_18 v1_18 w).bind fun q8 =>
      if (b2i q8.1) = 0 then
        (f_X13_eligible_L18 K o k n v1_18 (v2_18 ||| (1 <<< (v3_18 &&& 31))) (v3_18 + 1) q8.2)
      else
        (f_X13_eligible_L18 K o k n v1_18 v2_18 (v3_18 + 1) q8.2))

def f_X13_eligible (K : Kd) (o : Nat) (a_1 : Int32) (w : Wd) : Option (Int32 × Wd) :=
  (f_X13_isCase K o a_1 w).bind fun q1 =>
  (f_X13_is K o q1.1 q1.2).bind fun q2 =>
  if (b2i q2.1) = 0 then
    (some (0, q2.2))
  else
    (f_X13_eligible_L18 K o (fun v1_18 v2_18 v3_18 w4 =>
      some (v2_18, w4)) fu a_1 0 0 q2.2)

def f_X13_caseAt_L30 (K : Kd) (o : Nat) (k : Int32 → Int32 → Int32 → Int32 → Wd → Option (Int32 × Wd)) : Nat → Int32 → Int32 → Int32 → Int32 → Wd → Option (Int32 × Wd)
  | 0, _, _, _, _, _ => none
  | n + 1, v1_30, v2_30, v3_30, v4_30, w =>
    (cha K 20 (wR w 1301 o)).bind fun a8 =>
    (ixa 3 a8.2).bind fun j9 =>
    if (aI w a8.1 j9) ≤ v4_30 then
      (k v1_30 v2_30 v3_30 v4_30 w)
    else
      ((f_X13_hasHearing K o v4_30 w).bind fun q11 =>
      if (b2i q11.1) = 0 then
        (f_X13_caseAt_L30 K o k n v1_30 v2_30 v3_30 (v4_30 + 1) q11.2)
      else
        ((f_X13_of K o v4_30 5 q11.2).bind fun q13 =>
        if q13.1 = v1_30 then
          ((f_X13_of K o v4_30 3 q13.2).bind fun q15 =>
          if q15.1 = v2_30 then
            ((f_X13_of K o v4_30 4 q15.2).bind fun q17 =>
            (f_X13_of K o v4_30 4 q17.2).bind fun q18 =>
            (cha K 20 (wR q18.2 1301 o)).bind fun a19 =>
            (ixa (100 + v4_30) a19.2).bind fun j20 =>
            (f_X13_isIn K (v3_30.toInt64) (q17.1.toInt64) (((q18.1 + (aI q18.2 a19.1 j20)) - 1).toInt64) q18.2).bind fun q21 =>
            if (b2i q21.1) = 0 then
              (f_X13_caseAt_L30 K o k n v1_30 v2_30 v3_30 (v4_30 + 1) q21.2)
            else
              (some (v4_30, q21.2)))
          else
            (f_X13_caseAt_L30 K o k n v1_30 v2_30 v3_30 (v4_30 + 1) q15.2))
        else
          (f_X13_caseAt_L30 K o k n v1_30 v2_30 v3_30 (v4_30 + 1) q13.2)))

def f_X13_caseAt (K : Kd) (o : Nat) (a_1 : Int32) (a_2 : Int32) (a_3 : Int32) (w : Wd) : Option (Int32 × Wd) :=
  (f_X13_isRoom K o a_1 w).bind fun q1 =>
  (f_X13_is K o q1.1 q1.2).bind fun q2 =>
  if (b2i q2.1) = 0 then
    (some (0, q2.2))
  else
    ((f_X13_isTime K a_2 a_3 q2.2).bind fun q4 =>
    (f_X13_may K o q4.1 2 q4.2).bind fun q5 =>
    if (b2i q5.1) = 0 then
      (some (0, q5.2))
    else
      (f_X13_caseAt_L30 K o (fun v1_30 v2_30 v3_30 v4_30 w7 =>
        some ((-1), w7)) fu a_1 a_2 a_3 0 q5.2))

def f_X13_usage_L62 (K : Kd) (o : Nat) (k : Int32 → Int32 → Int32 → Int32 → Int32 → Int32 → Wd → Option (UInt32 × Wd)) : Nat → Int32 → Int32 → Int32 → Int32 → Int32 → Int32 → Wd → Option (UInt32 × Wd)
  | 0, _, _, _, _, _, _, _ => none
  | n + 1, v1_62, v2_62, v3_62, v4_62, v5_62, v6_62, w =>
    (cha K 20 (wR w 1301 o)).bind fun a12 =>
    (ixa 3 a12.2).bind fun j13 =>
    if (aI w a12.1 j13) ≤ v6_62 then
      (k v1_62 v2_62 v3_62 v4_62 v5_62 v6_62 w)
    else
      ((f_X13_hasHearing K o v6_62 w).bind fun q15 =>
      if (b2i q15.1) = 0 then
        (f_X13_usage_L62 K o k n v1_62 v2_62 v3_62 v4_62 v5_62 (v6_62 + 1) q15.2)
      else
        ((f_X13_of K o v6_62 5 q15.2).bind fun q17 =>
        if q17.1 = v1_62 then
          ((f_X13_of K o v6_62 3 q17.2).bind fun q19 =>
          (f_X13_isIn K (q19.1.toInt64) (v2_62.toInt64) (v3_62.toInt64) q19.2).bind fun q20 =>
          if (b2i q20.1) = 0 then
            (f_X13_usage_L62 K o k n v1_62 v2_62 v3_62 v4_62 v5_62 (v6_62 + 1) q20.2)
          else
            ((f_X13_of K o v6_62 3 q20.2).bind fun q22 =>
            (f_X13_isWorking K o q22.1 q22.2).bind fun q23 =>
            if (b2i q23.1) = 0 then
              (f_X13_usage_L62 K o k n v1_62 v2_62 v3_62 v4_62 v5_62 (v6_62 + 1) q23.2)
            else
              ((cha K 20 (wR q23.2 1301 o)).bind fun a25 =>
              (ixa (100 + v6_62) a25.2).bind fun j26 =>
              f_X13_usage_L62 K o k n v1_62 v2_62 v3_62 v4_62 (v5_62 + (aI q23.2 a25.1 j26)) (v6_62 + 1) q23.2)))
        else
          (f_X13_usage_L62 K o k n v1_62 v2_62 v3_62 v4_62 v5_62 (v6_62 + 1) q17.2)))

def f_X13_usage (K : Kd) (o : Nat) (a_1 : Int32) (a_2 : Int32) (a_3 : Int32) (w : Wd) : Option (UInt32 × Wd) :=
  (f_X13_isRoom K o a_1 w).bind fun q1 =>
  (f_X13_is K o q1.1 q1.2).bind fun q2 =>
  if (b2i q2.1) = 0 then
    (some (FP.fconst0, q2.2))
  else
    ((f_X13_isSpan K a_2 a_3 q2.2).bind fun q4 =>
    (f_X13_may K o q4.1 2 q4.2).bind fun q5 =>
    if (b2i q5.1) = 0 then
      (some (FP.fconst0, q5.2))
    else
      ((f_X13_workingIn K o a_2 a_3 q5.2).bind fun q7 =>
      (cha K 20 (wR q7.2 1301 o)).bind fun a8 =>
      (ixa (7 + a_1) a8.2).bind fun j9 =>
      (ixa (4 + a_1) a8.2).bind fun j10 =>
      f_X13_usage_L62 K o (fun v1_62 v2_62 v3_62 v4_62 v5_62 v6_62 w11 =>
        if v4_62 = 0 then
          (some (FP.fconst0, w11))
        else
          ((grd (n32 (FP.fdiv (FP.i2f v5_62) (FP.i2f v4_62)) = true)).bind fun _ =>
          some ((FP.fdiv (FP.i2f v5_62) (FP.i2f v4_62)), w11))) fu a_1 a_2 a_3 (q7.1 * (((aI q7.2 a8.1 j9) - (aI q7.2 a8.1 j10)) + 1)) 0 0 q7.2))

def f_X13_allBars_L4 (K : Kd) (o : Nat) (k : Int32 → Int32 → Wd → Option (Int32 × Wd)) : Nat → Int32 → Int32 → Wd → Option (Int32 × Wd)
  | 0, _, _, _ => none
  | n + 1, v1_4, v2_4, w =>
    (cha K 20 (wR w 1301 o)).bind fun a2 =>
    (ixa 3 a2.2).bind fun j3 =>
    if (aI w a2.1 j3) ≤ v2_4 then
      (k v1_4 v2_4 w)
    else
      ((cha K 20 (wR w 1303 o)).bind fun a5 =>
      (ixa (34 + v2_4) a5.2).bind fun j6 =>
      (f_X13_bits K (aI w a5.1 j6) w).bind fun q7 =>
      f_X13_allBars_L4 K o k n (v1_4 + q7.1) (v2_4 + 1) q7.2)

def f_X13_allBars (K : Kd) (o : Nat) (w : Wd) : Option (Int32 × Wd) :=
  f_X13_allBars_L4 K o (fun v1_4 v2_4 w1 =>
    some (v1_4, w1)) fu 0 0 w

def f_X13_allConflicts_L4 (K : Kd) (o : Nat) (k : Int32 → Int32 → Wd → Option (Int32 × Wd)) : Nat → Int32 → Int32 → Wd → Option (Int32 × Wd)
  | 0, _, _, _ => none
  | n + 1, v1_4, v2_4, w =>
    (cha K 20 (wR w 1301 o)).bind fun a2 =>
    (ixa 3 a2.2).bind fun j3 =>
    if (aI w a2.1 j3) ≤ v2_4 then
      (k v1_4 v2_4 w)
    else
      ((ixa (148 + v2_4) a2.2).bind fun j5 =>
      (f_X13_bits K (aI w a2.1 j5) w).bind fun q6 =>
      f_X13_allConflicts_L4 K o k n (v1_4 + q6.1) (v2_4 + 1) q6.2)

def f_X13_allConflicts (K : Kd) (o : Nat) (w : Wd) : Option (Int32 × Wd) :=
  f_X13_allConflicts_L4 K o (fun v1_4 v2_4 w1 =>
    some ((v1_4 / 2), w1)) fu 0 0 w

def f_X13_count (K : Kd) (o : Nat) (a_1 : Int32) (w : Wd) : Option (Int32 × Wd) :=
  (some (sI w 1300 o 0)).bind fun w1 =>
  if a_1 < 0 ∨ 9 < a_1 then
    ((f_X13_isIn K (a_1.toInt64) 10 13 w1).bind fun q3 =>
    if (b2i q3.1) = 0 then
      (some ((-1), q3.2))
    else
      ((f_X13_manyIn K o (a_1 - 10) q3.2).bind fun q5 =>
      some (q5.1, q5.2)))
  else if a_1 = 0 then
    ((cha K 20 (wR w1 1301 o)).bind fun a7 =>
    (ixa 0 a7.2).bind fun j8 =>
    some ((aI w1 a7.1 j8), w1))
  else if a_1 = 1 then
    ((cha K 20 (wR w1 1301 o)).bind fun a10 =>
    (ixa 1 a10.2).bind fun j11 =>
    some ((aI w1 a10.1 j11), w1))
  else if a_1 = 2 then
    ((cha K 20 (wR w1 1301 o)).bind fun a13 =>
    (ixa 2 a13.2).bind fun j14 =>
    some ((aI w1 a13.1 j14), w1))
  else if a_1 = 3 then
    ((cha K 20 (wR w1 1301 o)).bind fun a16 =>
    (ixa 3 a16.2).bind fun j17 =>
    some ((aI w1 a16.1 j17), w1))
  else if a_1 = 4 then
    ((cha K 20 (wR w1 1303 o)).bind fun a19 =>
    (ixa 1 a19.2).bind fun j20 =>
    some ((aI w1 a19.1 j20), w1))
  else if a_1 = 5 then
    ((f_X13_allBars K o w1).bind fun q22 =>
    some (q22.1, q22.2))
  else if a_1 = 6 then
    ((f_X13_allConflicts K o w1).bind fun q24 =>
    some (q24.1, q24.2))
  else if a_1 = 7 then
    ((cha K 20 (wR w1 1303 o)).bind fun a26 =>
    (ixa 0 a26.2).bind fun j27 =>
    some ((aI w1 a26.1 j27), w1))
  else if a_1 = 8 then
    ((cha K 20 (wR w1 1301 o)).bind fun a29 =>
    (ixa 164 a29.2).bind fun j30 =>
    some ((aI w1 a29.1 j30), w1))
  else if a_1 = 9 then
    (some ((wI w1 1309 o), w1))
  else none

def f_X13_lengthening (K : Kd) (o : Nat) (a_1 : Int32) (w : Wd) : Option (Int32 × Wd) :=
  (f_X13_isReason K a_1 w).bind fun q1 =>
  (f_X13_is K o q1.1 q1.2).bind fun q2 =>
  if (b2i q2.1) = 0 then
    (some (0, q2.2))
  else
    ((cha K 20 (wR q2.2 1301 o)).bind fun a4 =>
    (ixa (160 + a_1) a4.2).bind fun j5 =>
    some ((aI q2.2 a4.1 j5), q2.2))

def f_X13_laysPeaceful_L12 (K : Kd) (o : Nat) (k : Int32 → Int32 → Int32 → Int32 → Wd → Option Wd) : Nat → Int32 → Int32 → Int32 → Int32 → Wd → Option Wd
  | 0, _, _, _, _, _ => none
  | n + 1, v1_12, v2_12, v3_12, v4_12, w =>
    if 12 ≤ v4_12 then
      (k v1_12 v2_12 v3_12 v4_12 w)
    else
      (if v3_12 = 0 then
        (k v1_12 v2_12 v3_12 v4_12 w)
      else
        ((f_X13_has K v2_12 v4_12 w).bind fun q6 =>
        if (b2i q6.1) = 0 then
          (f_X13_laysPeaceful_L12 K o k n v1_12 v2_12 1 (v4_12 + 1) q6.2)
        else
          ((cha K 20 (wR q6.2 1301 o)).bind fun a8 =>
          (ixa (148 + v4_12) a8.2).bind fun j9 =>
          if ((aI q6.2 a8.1 j9) &&& v2_12) = 0 then
            (f_X13_laysPeaceful_L12 K o k n v1_12 v2_12 1 (v4_12 + 1) q6.2)
          else
            (f_X13_laysPeaceful_L12 K o k n v1_12 v2_12 0 (v4_12 + 1) q6.2))))

def f_X13_laysPeaceful_L2 (K : Kd) (o : Nat) (k : Int32 → Int32 → Wd → Option Wd) : Nat → Int32 → Int32 → Wd → Option Wd
  | 0, _, _, _ => none
  | n + 1, v1_2, v2_2, w =>
    if v1_2 < v2_2 then
      (k v1_2 v2_2 w)
    else
      (f_X13_laysPeaceful_L12 K o (fun v1_12 v2_12 v3_12 v4_12 w3 =>
        (cha K 22 (wR w3 1322 o)).bind fun a11 =>
        (ixa v2_12 a11.2).bind fun j12 =>
        (some (tI w3 a11.1 j12 (vp_nar .boolean v3_12))).bind fun w13 =>
        f_X13_laysPeaceful_L2 K o k n v1_12 (v2_12 + 1) w13) fu v1_2 v2_2 1 0 w)

def f_X13_laysPeaceful (K : Kd) (o : Nat) (a_1 : Int32) (w : Wd) : Option Wd :=
  f_X13_laysPeaceful_L2 K o (fun v1_2 v2_2 w1 =>
    some w1) fu a_1 0 w

def f_X13_takesPart_L5 (K : Kd) (o : Nat) (k : Int32 → Int32 → Int32 → Int32 → Wd → Option Wd) : Nat → Int32 → Int32 → Int32 → Int32 → Wd → Option Wd
  | 0, _, _, _, _, _ => none
  | n + 1, v1_5, v2_5, v3_5, v4_5, w =>
    (cha K 20 (wR w 1301 o)).bind fun a2 =>
    (ixa 3 a2.2).bind fun j3 =>
    if (aI w a2.1 j3) ≤ v4_5 then
      (k v1_5 v2_5 v3_5 v4_5 w)
    else
      ((cha K 20 (wR w 1303 o)).bind fun a5 =>
      (ixa (34 + v4_5) a5.2).bind fun j6 =>
      (f_X13_has K (aI w a5.1 j6) v1_5 w).bind fun q7 =>
      if (b2i q7.1) = 0 then
        (f_X13_takesPart_L5 K o k n v1_5 v2_5 (v3_5 ||| (1 <<< (v4_5 &&& 31))) (v4_5 + 1) q7.2)
      else
        (f_X13_takesPart_L5 K o k n v1_5 v2_5 v3_5 (v4_5 + 1) q7.2))

def f_X13_takesPart_L64 (K : Kd) (o : Nat) (k : Int32 → Int32 → Int32 → Int32 → Int32 → Int32 → Wd → Option Wd) : Nat → Int32 → Int32 → Int32 → Int32 → Int32 → Int32 → Wd → Option Wd
  | 0, _, _, _, _, _, _, _ => none
  | n + 1, v1_64, v2_64, v3_64, v4_64, v5_64, v6_64, w =>
    if v6_64 ≤ 0 then
      (k v1_64 v2_64 v3_64 v4_64 v5_64 v6_64 w)
    else
      ((cha K 20 (wR w 1321 o)).bind fun a13 =>
      (ixa (v4_64 ^^^ v6_64) a13.2).bind fun j14 =>
      (cha K 22 (wR w 1322 o)).bind fun a15 =>
      (ixa v6_64 a15.2).bind fun j16 =>
      if (aI w a15.1 j16) = 0 then
        (f_X13_takesPart_L64 K o k n v1_64 v2_64 v3_64 v4_64 v5_64 ((v6_64 - 1) &&& v5_64) w)
      else
        (if (aI w a13.1 j14) = (-1) then
          (f_X13_takesPart_L64 K o k n v1_64 v2_64 v3_64 v4_64 v5_64 ((v6_64 - 1) &&& v5_64) w)
        else
          ((ixa v4_64 a13.2).bind fun j19 =>
          if (aI w a13.1 j19) = (-1) then
            ((ixa v4_64 a13.2).bind fun j21 =>
            (some (tI w a13.1 j21 ((aI w a13.1 j14) + 1))).bind fun w22 =>
            f_X13_takesPart_L64 K o k n v1_64 v2_64 v3_64 v4_64 v5_64 ((v6_64 - 1) &&& v5_64) w22)
          else
            ((ixa v4_64 a13.2).bind fun j23 =>
            if (aI w a13.1 j23) ≤ ((aI w a13.1 j14) + 1) then
              (f_X13_takesPart_L64 K o k n v1_64 v2_64 v3_64 v4_64 v5_64 ((v6_64 - 1) &&& v5_64) w)
            else
              ((ixa v4_64 a13.2).bind fun j25 =>
              (some (tI w a13.1 j25 ((aI w a13.1 j14) + 1))).bind fun w26 =>
              f_X13_takesPart_L64 K o k n v1_64 v2_64 v3_64 v4_64 v5_64 ((v6_64 - 1) &&& v5_64) w26)))))

def f_X13_takesPart_L49 (K : Kd) (o : Nat) (k : Int32 → Int32 → Int32 → Int32 → Wd → Option Wd) : Nat → Int32 → Int32 → Int32 → Int32 → Wd → Option Wd
  | 0, _, _, _, _, _ => none
  | n + 1, v1_49, v2_49, v3_49, v4_49, w =>
    if v4_49 ≤ 0 then
      (k v1_49 v2_49 v3_49 v4_49 w)
    else
      (f_X13_takesPart_L64 K o (fun v1_64 v2_64 v3_64 v4_64 v5_64 v6_64 w11 =>
        f_X13_takesPart_L49 K o k n v1_64 v2_64 v3_64 (v4_64 + (-1)) w11) fu v1_49 v2_49 v3_49 v4_49 (v4_49 &&& v3_49) (v4_49 &&& v3_49) w)

def f_X13_takesPart (K : Kd) (o : Nat) (a_1 : Int32) (a_2 : Int32) (w : Wd) : Option Wd :=
  f_X13_takesPart_L5 K o (fun v1_5 v2_5 v3_5 v4_5 w1 =>
    f_X13_takesPart_L49 K o (fun v1_49 v2_49 v3_49 v4_49 w9 =>
      some w9) fu v1_5 v2_5 v3_5 v2_5 w1) fu a_1 a_2 0 0 w

def f_X13_fewestOfficers_L30 (K : Kd) (o : Nat) (k : Int32 → Int32 → Wd → Option (Int32 × Wd)) : Nat → Int32 → Int32 → Wd → Option (Int32 × Wd)
  | 0, _, _, _ => none
  | n + 1, v1_30, v2_30, w =>
    if v1_30 < v2_30 then
      (k v1_30 v2_30 w)
    else
      ((cha K 20 (wR w 1321 o)).bind fun a10 =>
      (ixa v2_30 a10.2).bind fun j11 =>
      (some (tI w a10.1 j11 (-1))).bind fun w12 =>
      f_X13_fewestOfficers_L30 K o k n v1_30 (v2_30 + 1) w12)

def f_X13_fewestOfficers_L50 (K : Kd) (o : Nat) (k : Int32 → Int32 → Wd → Option (Int32 × Wd)) : Nat → Int32 → Int32 → Wd → Option (Int32 × Wd)
  | 0, _, _, _ => none
  | n + 1, v1_50, v2_50, w =>
    (cha K 20 (wR w 1301 o)).bind fun a14 =>
    (ixa 1 a14.2).bind fun j15 =>
    if (aI w a14.1 j15) ≤ v2_50 then
      (k v1_50 v2_50 w)
    else
      ((f_X13_takesPart K o v2_50 v1_50 w).bind fun q17 =>
      f_X13_fewestOfficers_L50 K o k n v1_50 (v2_50 + 1) q17)

def f_X13_fewestOfficers (K : Kd) (o : Nat) (w : Wd) : Option (Int32 × Wd) :=
  (some (sI w 1300 o 0)).bind fun w1 =>
  (cha K 20 (wR w1 1301 o)).bind fun a2 =>
  (ixa 3 a2.2).bind fun j3 =>
  (f_X13_laysPeaceful K o ((1 <<< ((aI w1 a2.1 j3) &&& 31)) - 1) w1).bind fun q4 =>
  (cha K 20 (wR q4 1321 o)).bind fun a5 =>
  (ixa 0 a5.2).bind fun j6 =>
  (some (tI q4 a5.1 j6 0)).bind fun w7 =>
  f_X13_fewestOfficers_L30 K o (fun v1_30 v2_30 w8 =>
    f_X13_fewestOfficers_L50 K o (fun v1_50 v2_50 w13 =>
      (cha K 20 (wR w13 1321 o)).bind fun a18 =>
      (ixa v1_50 a18.2).bind fun j19 =>
      some ((aI w13 a18.1 j19), w13)) fu v1_30 0 w8) fu ((1 <<< ((aI w1 a2.1 j3) &&& 31)) - 1) 1 w7

def f_X13_feed_L23 (K : Kd) (o : Nat) (k : Int32 → Int32 → Int32 → Int32 → Int32 → Int32 → Wd → Option (Int32 × Wd)) : Nat → Int32 → Int32 → Int32 → Int32 → Int32 → Int32 → Wd → Option (Int32 × Wd)
  | 0, _, _, _, _, _, _, _ => none
  | n + 1, v1_23, v2_23, v3_23, v4_23, v5_23, v6_23, w =>
    if 20 ≤ v6_23 then
      (k v1_23 v2_23 v3_23 v4_23 v5_23 v6_23 w)
    else
      (if 4 ≤ v6_23 then
        (if 8 ≤ v6_23 then
          (if 12 ≤ v6_23 then
            (if 16 ≤ v6_23 then
              ((cha K 21 (wR w 1323 o)).bind fun a9 =>
              (ixa (wI w 1324 o) a9.2).bind fun j10 =>
              (some (tI w a9.1 j10 (vp_nar .byte ((v5_23 >>> ((24 - (8 * (v6_23 - v6_23 / 4 * 4))) &&& 31)).toInt8.toInt32)))).bind fun w11 =>
              (some (sI w11 1324 o ((wI w11 1324 o) + 1))).bind fun w12 =>
              f_X13_feed_L23 K o k n v1_23 v2_23 v3_23 v4_23 v5_23 (v6_23 + 1) w12)
            else
              ((cha K 21 (wR w 1323 o)).bind fun a13 =>
              (ixa (wI w 1324 o) a13.2).bind fun j14 =>
              (some (tI w a13.1 j14 (vp_nar .byte ((v4_23 >>> ((24 - (8 * (v6_23 - v6_23 / 4 * 4))) &&& 31)).toInt8.toInt32)))).bind fun w15 =>
              (some (sI w15 1324 o ((wI w15 1324 o) + 1))).bind fun w16 =>
              f_X13_feed_L23 K o k n v1_23 v2_23 v3_23 v4_23 v5_23 (v6_23 + 1) w16))
          else
            ((cha K 21 (wR w 1323 o)).bind fun a17 =>
            (ixa (wI w 1324 o) a17.2).bind fun j18 =>
            (some (tI w a17.1 j18 (vp_nar .byte ((v3_23 >>> ((24 - (8 * (v6_23 - v6_23 / 4 * 4))) &&& 31)).toInt8.toInt32)))).bind fun w19 =>
            (some (sI w19 1324 o ((wI w19 1324 o) + 1))).bind fun w20 =>
            f_X13_feed_L23 K o k n v1_23 v2_23 v3_23 v4_23 v5_23 (v6_23 + 1) w20))
        else
          ((cha K 21 (wR w 1323 o)).bind fun a21 =>
          (ixa (wI w 1324 o) a21.2).bind fun j22 =>
          (some (tI w a21.1 j22 (vp_nar .byte ((v2_23 >>> ((24 - (8 * (v6_23 - v6_23 / 4 * 4))) &&& 31)).toInt8.toInt32)))).bind fun w23 =>
          (some (sI w23 1324 o ((wI w23 1324 o) + 1))).bind fun w24 =>
          f_X13_feed_L23 K o k n v1_23 v2_23 v3_23 v4_23 v5_23 (v6_23 + 1) w24))
      else
        ((cha K 21 (wR w 1323 o)).bind fun a25 =>
        (ixa (wI w 1324 o) a25.2).bind fun j26 =>
        (some (tI w a25.1 j26 (vp_nar .byte ((v1_23 >>> ((24 - (8 * (v6_23 - v6_23 / 4 * 4))) &&& 31)).toInt8.toInt32)))).bind fun w27 =>
        (some (sI w27 1324 o ((wI w27 1324 o) + 1))).bind fun w28 =>
        f_X13_feed_L23 K o k n v1_23 v2_23 v3_23 v4_23 v5_23 (v6_23 + 1) w28))

def f_X13_feed (K : Kd) (o : Nat) (a_1 : Int32) (a_2 : Int32) (a_3 : Int32) (a_4 : Int32) (a_5 : Int32) (w : Wd) : Option (Int32 × Wd) :=
  (some (sI w 1300 o 0)).bind fun w1 =>
  if ((wI w1 1324 o) + 20) ≤ 900 then
    (f_X13_feed_L23 K o (fun v1_23 v2_23 v3_23 v4_23 v5_23 v6_23 w3 =>
      some ((wI w3 1324 o), w3)) fu a_1 a_2 a_3 a_4 a_5 0 w1)
  else
    (some ((-1), w1))

def f_X13_truncate (K : Kd) (o : Nat) (a_1 : Int32) (w : Wd) : Option (Bool × Wd) :=
  (some (sI w 1300 o 0)).bind fun w1 =>
  (f_X13_isIn K (a_1.toInt64) 0 ((wI w1 1324 o).toInt64) w1).bind fun q2 =>
  if (b2i q2.1) = 0 then
    (some (false, q2.2))
  else
    ((some (sI q2.2 1324 o a_1)).bind fun w4 =>
    some (true, w4))

def f_X13_here (K : Kd) (o : Nat) (a_1 : Int32) (w : Wd) : Option (Int32 × Wd) :=
  if (wI w 1325 o) ≤ a_1 then
    (some ((-1), w))
  else
    ((cha K 21 (wR w 1323 o)).bind fun a2 =>
    (ixa a_1 a2.2).bind fun j3 =>
    some (((aI w a2.1 j3) &&& 255), w))

def f_X13_fine (K : Kd) (o : Nat) (w : Wd) : Option (Bool × Wd) :=
  if (wI w 1331 o) = 0 then
    (some (true, w))
  else
    (some (false, w))

def f_X13_needs (K : Kd) (o : Nat) (a_1 : Bool) (a_2 : Int32) (w : Wd) : Option Wd :=
  if (wI w 1331 o) = 0 then
    (if (b2i a_1) = 0 then
      ((some (sI w 1331 o a_2)).bind fun w3 =>
      (some (sI w3 1332 o (wI w3 1327 o))).bind fun w4 =>
      some w4)
    else
      (some w))
  else
    (some w)

def f_X13_isWord (K : Kd) (o : Nat) (a_1 : Int32) (w : Wd) : Option (Bool × Wd) :=
  (f_X13_fine K o w).bind fun q1 =>
  if (b2i q1.1) = 0 then
    (some (false, q1.2))
  else
    (if (wI q1.2 1328 o) = 1 then
      (if (wI q1.2 1329 o) = a_1 then
        (some (true, q1.2))
      else
        (some (false, q1.2)))
    else
      (some (false, q1.2)))

def f_X13_look (K : Kd) (o : Nat) (a_1 : Int32) (a_2 : Int32) (w : Wd) : Option (Int32 × Wd) :=
  if (wI w 1328 o) = 2 then
    ((f_X13_needs K o true 1 w).bind fun q7 =>
    (f_X13_fine K o q7).bind fun q8 =>
    if (b2i q8.1) = 0 then
      (some ((wI q8.2 1330 o), q8.2))
    else
      ((f_X13_isIn K ((wI q8.2 1330 o).toInt64) (a_1.toInt64) (a_2.toInt64) q8.2).bind fun q10 =>
      (f_X13_needs K o q10.1 2 q10.2).bind fun q11 =>
      some ((wI q11 1330 o), q11)))
  else
    ((f_X13_needs K o false 1 w).bind fun q2 =>
    (f_X13_fine K o q2).bind fun q3 =>
    if (b2i q3.1) = 0 then
      (some ((wI q3.2 1330 o), q3.2))
    else
      ((f_X13_isIn K ((wI q3.2 1330 o).toInt64) (a_1.toInt64) (a_2.toInt64) q3.2).bind fun q5 =>
      (f_X13_needs K o q5.1 2 q5.2).bind fun q6 =>
      some ((wI q6 1330 o), q6)))

def f_X13_laysDraft (K : Kd) (o : Nat) (a_1 : Int32) (a_2 : Int32) (w : Wd) : Option Wd :=
  (f_X13_fine K o w).bind fun q1 =>
  if (b2i q1.1) = 0 then
    (some q1.2)
  else
    ((cha K 20 (wR q1.2 1302 o)).bind fun a3 =>
    (ixa a_1 a3.2).bind fun j4 =>
    (some (tI q1.2 a3.1 j4 a_2)).bind fun w5 =>
    some w5)

def f_X13_nameHere_L7 (K : Kd) (o : Nat) (k : Int64 → Int32 → Wd → Option (Int64 × Wd)) : Nat → Int64 → Int32 → Wd → Option (Int64 × Wd)
  | 0, _, _, _ => none
  | n + 1, v1_7, v3_7, w =>
    if (wI w 1326 o) ≤ v3_7 then
      (k v1_7 v3_7 w)
    else
      ((cha K 21 (wR w 1323 o)).bind fun a3 =>
      (ixa v3_7 a3.2).bind fun j4 =>
      f_X13_nameHere_L7 K o k n (((27 * v1_7) + ((aI w a3.1 j4).toInt64)) - 96) (v3_7 + 1) w)

def f_X13_nameHere (K : Kd) (o : Nat) (w : Wd) : Option (Int64 × Wd) :=
  f_X13_nameHere_L7 K o (fun v1_7 v3_7 w1 =>
    some (v1_7, w1)) fu 0 (wI w 1327 o) w

def f_X13_placeOf_L3 (K : Kd) (k : Int64 → Option Nat → Int32 → Int32 → Wd → Option (Int32 × Wd)) : Nat → Int64 → Option Nat → Int32 → Int32 → Wd → Option (Int32 × Wd)
  | 0, _, _, _, _, _ => none
  | n + 1, v0_3, v2_3, v3_3, v4_3, w =>
    if v3_3 ≤ v4_3 then
      (k v0_3 v2_3 v3_3 v4_3 w)
    else
      ((cha K 23 v2_3).bind fun a3 =>
      (ixa v4_3 a3.2).bind fun j4 =>
      if (lg_cmp (aJ w a3.1 j4) v0_3) = 0 then
        (some (v4_3, w))
      else
        (f_X13_placeOf_L3 K k n v0_3 v2_3 v3_3 (v4_3 + 1) w))

def f_X13_placeOf (K : Kd) (a_0 : Int64) (a_2 : Option Nat) (a_3 : Int32) (w : Wd) : Option (Int32 × Wd) :=
  f_X13_placeOf_L3 K (fun v0_3 v2_3 v3_3 v4_3 w1 =>
    some ((-1), w1)) fu a_0 a_2 a_3 0 w

def f_X13_needsName (K : Kd) (o : Nat) (w : Wd) : Option Wd :=
  if (wI w 1328 o) = 1 then
    (if (wI w 1329 o) = (-1) then
      (if 8 < ((wI w 1326 o) - (wI w 1327 o)) then
        ((f_X13_needs K o false 1 w).bind fun q6 =>
        some q6)
      else
        ((f_X13_needs K o true 1 w).bind fun q7 =>
        some q7))
    else
      ((f_X13_needs K o false 1 w).bind fun q4 =>
      some q4))
  else
    ((f_X13_needs K o false 1 w).bind fun q2 =>
    some q2)

def f_X13_known (K : Kd) (o : Nat) (a_1 : Option Nat) (a_2 : Int32) (w : Wd) : Option (Int32 × Wd) :=
  (f_X13_needsName K o w).bind fun q1 =>
  (f_X13_fine K o q1).bind fun q2 =>
  if (b2i q2.1) = 0 then
    (some (0, q2.2))
  else
    ((f_X13_nameHere K o q2.2).bind fun q4 =>
    (f_X13_placeOf K q4.1 a_1 a_2 q4.2).bind fun q5 =>
    if q5.1 = (-1) then
      ((f_X13_needs K o false 3 q5.2).bind fun q7 =>
      some (q5.1, q7))
    else
      ((f_X13_needs K o true 3 q5.2).bind fun q8 =>
      some (q5.1, q8)))

def f_X13_errorCode (K : Kd) (o : Nat) (w : Wd) : Option (Int32 × Wd) :=
  (some (sI w 1300 o 0)).bind fun w1 =>
  some ((wI w1 1331 o), w1)

def f_X13_errorOffset (K : Kd) (o : Nat) (w : Wd) : Option (Int32 × Wd) :=
  (some (sI w 1300 o 0)).bind fun w1 =>
  some ((wI w1 1332 o), w1)

def f_X13_says (K : Kd) (o : Nat) (a_1 : Int32) (w : Wd) : Option Wd :=
  (cha K 21 (wR w 1337 o)).bind fun a1 =>
  (ixa (wI w 1338 o) a1.2).bind fun j2 =>
  (some (tI w a1.1 j2 (vp_nar .byte (a_1.toInt8.toInt32)))).bind fun w3 =>
  (some (sI w3 1338 o ((wI w3 1338 o) + 1))).bind fun w4 =>
  some w4

def f_X13_saysName (K : Kd) (o : Nat) : Nat → Int64 → Wd → Option Wd
  | 0, _, _ => none
  | n9 + 1, a_1, w =>
    if (lg_cmp a_1 27) < 0 then
      ((f_X13_says K o (96 + ((a_1 - a_1 / 27 * 27).toInt32)) w).bind fun q2 =>
      some q2)
    else
      ((f_X13_saysName K o n9 (a_1 / 27) w).bind fun q3 =>
      (f_X13_says K o (96 + ((a_1 - a_1 / 27 * 27).toInt32)) q3).bind fun q4 =>
      some q4)

def f_X13_saysHearing (K : Kd) (o : Nat) (a_1 : Int32) (w : Wd) : Option Wd :=
  (f_X13_of K o a_1 4 w).bind fun q1 =>
  (f_X13_says K o (48 + q1.1) q1.2).bind fun q2 =>
  (f_X13_says K o 32 q2).bind fun q3 =>
  (f_X13_of K o a_1 5 q3).bind fun q4 =>
  (cha K 23 (wR q3 1311 o)).bind fun a5 =>
  (ixa q4.1 a5.2).bind fun j6 =>
  (f_X13_saysName K o 16 (aJ q4.2 a5.1 j6) q4.2).bind fun q7 =>
  (f_X13_says K o 32 q7).bind fun q8 =>
  (cha K 23 (wR q8 1314 o)).bind fun a9 =>
  (ixa a_1 a9.2).bind fun j10 =>
  (f_X13_saysName K o 16 (aJ q8 a9.1 j10) q8).bind fun q11 =>
  (f_X13_says K o 32 q11).bind fun q12 =>
  (f_X13_of K o a_1 6 q12).bind fun q13 =>
  (cha K 23 (wR q12 1312 o)).bind fun a14 =>
  (ixa q13.1 a14.2).bind fun j15 =>
  (f_X13_saysName K o 16 (aJ q13.2 a14.1 j15) q13.2).bind fun q16 =>
  (f_X13_says K o 10 q16).bind fun q17 =>
  some q17

def f_X13_printDay_L41 (K : Kd) (o : Nat) (k : Int32 → Int32 → Int32 → Int32 → Wd → Option (Int32 × Wd)) : Nat → Int32 → Int32 → Int32 → Int32 → Wd → Option (Int32 × Wd)
  | 0, _, _, _, _, _ => none
  | n + 1, v1_41, v2_41, v3_41, v4_41, w =>
    (cha K 20 (wR w 1301 o)).bind fun a12 =>
    (ixa 3 a12.2).bind fun j13 =>
    if (aI w a12.1 j13) ≤ v4_41 then
      (k v1_41 v2_41 v3_41 v4_41 w)
    else
      ((f_X13_hasHearing K o v4_41 w).bind fun q15 =>
      if (b2i q15.1) = 0 then
        (f_X13_printDay_L41 K o k n v1_41 v2_41 v3_41 (v4_41 + 1) q15.2)
      else
        ((f_X13_of K o v4_41 3 q15.2).bind fun q17 =>
        if q17.1 = v1_41 then
          ((f_X13_of K o v4_41 4 q17.2).bind fun q19 =>
          if q19.1 = v2_41 then
            ((f_X13_of K o v4_41 5 q19.2).bind fun q21 =>
            if q21.1 = v3_41 then
              ((f_X13_saysHearing K o v4_41 q21.2).bind fun q23 =>
              f_X13_printDay_L41 K o k n v1_41 v2_41 v3_41 (v4_41 + 1) q23)
            else
              (f_X13_printDay_L41 K o k n v1_41 v2_41 v3_41 (v4_41 + 1) q21.2))
          else
            (f_X13_printDay_L41 K o k n v1_41 v2_41 v3_41 (v4_41 + 1) q19.2))
        else
          (f_X13_printDay_L41 K o k n v1_41 v2_41 v3_41 (v4_41 + 1) q17.2)))

def f_X13_printDay_L28 (K : Kd) (o : Nat) (k : Int32 → Int32 → Int32 → Wd → Option (Int32 × Wd)) : Nat → Int32 → Int32 → Int32 → Wd → Option (Int32 × Wd)
  | 0, _, _, _, _ => none
  | n + 1, v1_28, v2_28, v3_28, w =>
    (cha K 20 (wR w 1301 o)).bind fun a8 =>
    (ixa 0 a8.2).bind fun j9 =>
    if (aI w a8.1 j9) ≤ v3_28 then
      (k v1_28 v2_28 v3_28 w)
    else
      (f_X13_printDay_L41 K o (fun v1_41 v2_41 v3_41 v4_41 w11 =>
        f_X13_printDay_L28 K o k n v1_41 v2_41 (v3_41 + 1) w11) fu v1_28 v2_28 v3_28 0 w)

def f_X13_printDay_L20 (K : Kd) (o : Nat) (k : Int32 → Int32 → Wd → Option (Int32 × Wd)) : Nat → Int32 → Int32 → Wd → Option (Int32 × Wd)
  | 0, _, _, _ => none
  | n + 1, v1_20, v2_20, w =>
    if 8 ≤ v2_20 then
      (k v1_20 v2_20 w)
    else
      (f_X13_printDay_L28 K o (fun v1_28 v2_28 v3_28 w7 =>
        f_X13_printDay_L20 K o k n v1_28 (v2_28 + 1) w7) fu v1_20 v2_20 0 w)

def f_X13_printDay (K : Kd) (o : Nat) (a_1 : Int32) (w : Wd) : Option (Int32 × Wd) :=
  (f_X13_isDay K a_1 w).bind fun q1 =>
  (f_X13_is K o q1.1 q1.2).bind fun q2 =>
  if (b2i q2.1) = 0 then
    (some (0, q2.2))
  else
    ((some (sI q2.2 1338 o 0)).bind fun w4 =>
    f_X13_printDay_L20 K o (fun v1_20 v2_20 w5 =>
      some ((wI w5 1338 o), w5)) fu a_1 0 w4)

def f_X13_outputByte (K : Kd) (o : Nat) (a_1 : Int32) (w : Wd) : Option (Int32 × Wd) :=
  (some (sI w 1300 o 0)).bind fun w1 =>
  (f_X13_isIn K (a_1.toInt64) 0 (((wI w1 1338 o).toInt64) - 1) w1).bind fun q2 =>
  if (b2i q2.1) = 0 then
    (some ((-1), q2.2))
  else
    ((cha K 21 (wR q2.2 1337 o)).bind fun a4 =>
    (ixa a_1 a4.2).bind fun j5 =>
    some ((aI q2.2 a4.1 j5), q2.2))

def f_X1_init (K : Kd) (n : Nat) (o : Nat) (w : Wd) : Option (Kd × Nat × Wd) :=
  (some (kup K n (20, 12))).bind fun K1 =>
  (some (clr w n)).bind fun w2 =>
  (chk K1 0 (some o)).bind fun a3 =>
  (some (sR w2 100 a3 (some n))).bind fun w4 =>
  (some (kup K1 (n + 1) (20, 6))).bind fun K5 =>
  (some (clr w4 (n + 1))).bind fun w6 =>
  (chk K5 0 (some o)).bind fun a7 =>
  (some (sR w6 101 a7 (some (n + 1)))).bind fun w8 =>
  (some (kup K5 ((n + 1) + 1) (20, 156))).bind fun K9 =>
  (some (clr w8 ((n + 1) + 1))).bind fun w10 =>
  (chk K9 0 (some o)).bind fun a11 =>
  (some (sR w10 102 a11 (some ((n + 1) + 1)))).bind fun w12 =>
  some (K9, (((n + 1) + 1) + 1), w12)

def f_X1_isSpare_L3 (K : Kd) (o : Nat) (k : Int32 → Int32 → Int32 → Int32 → Wd → Option (Bool × Wd)) : Nat → Int32 → Int32 → Int32 → Int32 → Wd → Option (Bool × Wd)
  | 0, _, _, _, _, _ => none
  | n + 1, v1_3, v2_3, v3_3, v4_3, w =>
    if v1_3 ≤ v4_3 then
      (k v1_3 v2_3 v3_3 v4_3 w)
    else
      ((f_X12_has K v3_3 v1_3 w).bind fun q3 =>
      if (b2i q3.1) = 0 then
        ((cha K 20 (wR q3.2 101 o)).bind fun a5 =>
        (ixa v4_3 a5.2).bind fun j6 =>
        (ixa v1_3 a5.2).bind fun j7 =>
        (f_X12_has K v3_3 v4_3 q3.2).bind fun q8 =>
        if (b2i q8.1) = 0 then
          (if (((aI q3.2 a5.1 j6) ^^^ (aI q3.2 a5.1 j7)) &&& v2_3) = 0 then
            (some (true, q8.2))
          else
            (f_X1_isSpare_L3 K o k n v1_3 v2_3 v3_3 (v4_3 + 1) q8.2))
        else
          (f_X1_isSpare_L3 K o k n v1_3 v2_3 v3_3 (v4_3 + 1) q8.2))
      else
        (k v1_3 v2_3 v3_3 v4_3 q3.2))

def f_X1_isSpare (K : Kd) (o : Nat) (a_1 : Int32) (a_2 : Int32) (a_3 : Int32) (w : Wd) : Option (Bool × Wd) :=
  f_X1_isSpare_L3 K o (fun v1_3 v2_3 v3_3 v4_3 w1 =>
    some (false, w1)) fu a_1 a_2 a_3 0 w

def f_X1_giveTo_L9 (K : Kd) (o : Nat) (k : Int32 → Int32 → Int32 → Int32 → Int32 → Wd → Option Wd) : Nat → Int32 → Int32 → Int32 → Int32 → Int32 → Wd → Option Wd
  | 0, _, _, _, _, _, _ => none
  | n + 1, v1_9, v2_9, v3_9, v4_9, v5_9, w =>
    if (wI w 103 o) ≤ v5_9 then
      (k v1_9 v2_9 v3_9 v4_9 v5_9 w)
    else
      ((cha K 20 (wR w 100 o)).bind fun a3 =>
      (ixa v2_9 a3.2).bind fun j4 =>
      (f_X12_has K (aI w a3.1 j4) v5_9 w).bind fun q5 =>
      if (b2i q5.1) = 0 then
        ((cha K 20 (wR q5.2 102 o)).bind fun a7 =>
        (ixa (v4_9 + v5_9) a7.2).bind fun j8 =>
        (ixa ((v4_9 + 12) + v5_9) a7.2).bind fun j9 =>
        (some (tI q5.2 a7.1 j9 ((aI q5.2 a7.1 j8) &&& (0 ^^^ (-1))))).bind fun w10 =>
        f_X1_giveTo_L9 K o k n v1_9 v2_9 v3_9 v4_9 (v5_9 + 1) w10)
      else
        ((cha K 20 (wR q5.2 102 o)).bind fun a11 =>
        (ixa (v4_9 + v5_9) a11.2).bind fun j12 =>
        (ixa ((v4_9 + 12) + v5_9) a11.2).bind fun j13 =>
        (some (tI q5.2 a11.1 j13 ((aI q5.2 a11.1 j12) &&& ((1 <<< (v3_9 &&& 31)) ^^^ (-1))))).bind fun w14 =>
        f_X1_giveTo_L9 K o k n v1_9 v2_9 v3_9 v4_9 (v5_9 + 1) w14))

def f_X1_giveTo (K : Kd) (o : Nat) (a_1 : Int32) (a_2 : Int32) (a_3 : Int32) (w : Wd) : Option Wd :=
  f_X1_giveTo_L9 K o (fun v1_9 v2_9 v3_9 v4_9 v5_9 w1 =>
    some w1) fu a_1 a_2 a_3 (a_1 * 12) 0 w

def f_X2_init (K : Kd) (n : Nat) (o : Nat) (w : Wd) : Option (Kd × Nat × Wd) :=
  (some (kup K n (20, 19))).bind fun K1 =>
  (some (clr w n)).bind fun w2 =>
  (chk K1 1 (some o)).bind fun a3 =>
  (some (sR w2 200 a3 (some n))).bind fun w4 =>
  some (K1, (n + 1), w4)

def f_X2_contains (K : Kd) (o : Nat) (a_1 : Int32) (w : Wd) : Option (Bool × Wd) :=
  if a_1 < 0 then
    (some (false, w))
  else
    (if 600 ≤ a_1 then
      (some (false, w))
    else
      ((cha K 20 (wR w 200 o)).bind fun a3 =>
      (ixa (a_1 / 32) a3.2).bind fun j4 =>
      if ((ushr (aI w a3.1 j4) (a_1 - a_1 / 32 * 32)) &&& 1) = 0 then
        (some (false, w))
      else
        (some (true, w))))

def f_X2_add (K : Kd) (o : Nat) (a_1 : Int32) (w : Wd) : Option Wd :=
  if a_1 < 0 then
    (some w)
  else
    (if 600 ≤ a_1 then
      (some w)
    else
      ((f_X2_contains K o a_1 w).bind fun q3 =>
      if (b2i q3.1) = 0 then
        ((cha K 20 (wR q3.2 200 o)).bind fun a5 =>
        (ixa (a_1 / 32) a5.2).bind fun j6 =>
        (ixa (a_1 / 32) a5.2).bind fun j7 =>
        (some (tI q3.2 a5.1 j7 ((aI q3.2 a5.1 j6) ||| (1 <<< ((a_1 - a_1 / 32 * 32) &&& 31))))).bind fun w8 =>
        (some (sI w8 201 o ((wI w8 201 o) + 1))).bind fun w9 =>
        some w9)
      else
        (some q3.2)))

def f_X2_copyFrom (K : Kd) (o : Nat) (a_1 : Option Nat) (w : Wd) : Option Wd :=
  (chk K 1 a_1).bind fun a1 =>
  (cha K 20 (wR w 200 o)).bind fun a2 =>
  (cha K 20 (wR w 200 a1)).bind fun a3 =>
  (grd (¬ (0 : Int32) < 0 ∧ ¬ (0 : Int32) < 0 ∧ ¬ (nI a2.2) < 0 ∧ (0 : Int32).toNatClampNeg + (nI a2.2).toNatClampNeg ≤ a3.2 ∧ (0 : Int32).toNatClampNeg + (nI a2.2).toNatClampNeg ≤ a2.2)).bind fun _ =>
  (some (tA w a2.1 (va_cpy (aI w a3.1) (aI w a2.1) (0 : Int32).toNatClampNeg (0 : Int32).toNatClampNeg (nI a2.2).toNatClampNeg))).bind fun w5 =>
  (some (sI w5 201 o (wI w5 201 a1))).bind fun w6 =>
  some w6

def f_X3_init (K : Kd) (n : Nat) (o : Nat) (w : Wd) : Option (Kd × Nat × Wd) :=
  some (K, n, w)

def f_X3_clear (K : Kd) (o : Nat) (w : Wd) : Option Wd :=
  (some (sI w 300 o 0)).bind fun w1 =>
  (some (sI w1 301 o 1)).bind fun w2 =>
  (some (sI w2 302 o 1)).bind fun w3 =>
  (some (sZ w3 303 o false)).bind fun w4 =>
  (some (sI w4 304 o 0)).bind fun w5 =>
  (some (sI w5 305 o 0)).bind fun w6 =>
  (some (sI w6 306 o 0)).bind fun w7 =>
  some w7

def f_X4_init (K : Kd) (n : Nat) (o : Nat) (a_1 : Int32) (w : Wd) : Option (Kd × Nat × Wd) :=
  (grd (¬ (imax a_1 0) < 0 ∧ (imax a_1 0).toNatClampNeg ≤ 12)).bind fun _ =>
  (some (kup K n (23, (imax a_1 0).toNatClampNeg))).bind fun K2 =>
  (some (clr w n)).bind fun w3 =>
  (chk K2 3 (some o)).bind fun a4 =>
  (some (sR w3 400 a4 (some n))).bind fun w5 =>
  some (K2, (n + 1), w5)

def f_X4_isFull (K : Kd) (o : Nat) (w : Wd) : Option (Bool × Wd) :=
  (cha K 23 (wR w 400 o)).bind fun a1 =>
  if (wI w 401 o) < (nI a1.2) then
    (some (false, w))
  else
    (some (true, w))

def f_X4_add (K : Kd) (o : Nat) (a_1 : Int64) (w : Wd) : Option Wd :=
  (cha K 23 (wR w 400 o)).bind fun a1 =>
  if (nI a1.2) ≤ (wI w 401 o) then
    (some w)
  else
    ((ixa (wI w 401 o) a1.2).bind fun j3 =>
    (some (tJ w a1.1 j3 a_1)).bind fun w4 =>
    (some (sI w4 401 o ((wI w4 401 o) + 1))).bind fun w5 =>
    some w5)

def f_X4_indexOf_L2 (K : Kd) (o : Nat) (k : Int64 → Int32 → Wd → Option (Int32 × Wd)) : Nat → Int64 → Int32 → Wd → Option (Int32 × Wd)
  | 0, _, _, _ => none
  | n + 1, v1_2, v3_2, w =>
    if (wI w 401 o) ≤ v3_2 then
      (k v1_2 v3_2 w)
    else
      ((cha K 23 (wR w 400 o)).bind fun a3 =>
      (ixa v3_2 a3.2).bind fun j4 =>
      if (lg_cmp (aJ w a3.1 j4) v1_2) = 0 then
        (some (v3_2, w))
      else
        (f_X4_indexOf_L2 K o k n v1_2 (v3_2 + 1) w))

def f_X4_indexOf (K : Kd) (o : Nat) (a_1 : Int64) (w : Wd) : Option (Int32 × Wd) :=
  f_X4_indexOf_L2 K o (fun v1_2 v3_2 w1 =>
    some ((-1), w1)) fu a_1 0 w

def f_X4_at (K : Kd) (o : Nat) (a_1 : Int32) (w : Wd) : Option (Int64 × Wd) :=
  if a_1 < 0 then
    (some (0, w))
  else
    (if a_1 < (wI w 401 o) then
      ((cha K 23 (wR w 400 o)).bind fun a3 =>
      (ixa a_1 a3.2).bind fun j4 =>
      some ((aJ w a3.1 j4), w))
    else
      (some (0, w)))

def f_X5_exchange (K : Kd) (o : Nat) (a_1 : Option Nat) (w : Wd) : Option (Option Nat × Wd) :=
  (some (sR w 501 o a_1)).bind fun w1 =>
  some ((wR w 501 o), w1)

def f_X5_fail (K : Kd) (o : Nat) (a_1 : Int32) (w : Wd) : Option (Bool × Wd) :=
  (some (sI w 502 o a_1)).bind fun w1 =>
  (chk K 7 (wR w1 500 o)).bind fun a2 =>
  (some (sI w1 503 o (wI w1 802 a2))).bind fun w3 =>
  some (false, w3)

def f_X5_seesToldName (K : Kd) (o : Nat) (a_1 : Int32) (w : Wd) : Option (Bool × Wd) :=
  (chk K 7 (wR w 500 o)).bind fun a1 =>
  (grd (tkB (wR w 804 a1) = true)).bind fun _ =>
  if (wR w 804 a1) = (some 16) then
    ((chk K 8 (wR w 501 o)).bind fun a4 =>
    (cha K 26 (wR w 900 a4)).bind fun a5 =>
    (ixa a_1 a5.2).bind fun j6 =>
    (chk K 3 (aR w a5.1 j6)).bind fun a7 =>
    (f_X4_indexOf K a7 (wJ w 805 a1) w).bind fun q8 =>
    (some (sI q8.2 504 o q8.1)).bind fun w9 =>
    if (wI w9 504 o) = (-1) then
      ((f_X5_fail K o 3 w9).bind fun q11 =>
      if (b2i q11.1) = 0 then
        (some (false, q11.2))
      else
        (some (true, q11.2)))
    else
      (some (true, w9)))
  else
    ((f_X5_fail K o 1 w).bind fun q13 =>
    some (q13.1, q13.2))

def f_X5_seesNumber (K : Kd) (o : Nat) (a_1 : Int32) (a_2 : Int32) (w : Wd) : Option (Bool × Wd) :=
  (chk K 7 (wR w 500 o)).bind fun a1 =>
  (grd (tkB (wR w 804 a1) = true)).bind fun _ =>
  if (wR w 804 a1) = (some 17) then
    (if (wI w 806 a1) < a_1 then
      ((f_X5_fail K o 2 w).bind fun q5 =>
      if (b2i q5.1) = 0 then
        (some (false, q5.2))
      else
        (some (true, q5.2)))
    else
      (if (wI w 806 a1) ≤ a_2 then
        (some (true, w))
      else
        ((f_X5_fail K o 2 w).bind fun q8 =>
        if (b2i q8.1) = 0 then
          (some (false, q8.2))
        else
          (some (true, q8.2)))))
  else
    ((f_X5_fail K o 1 w).bind fun q10 =>
    some (q10.1, q10.2))

def f_X6_init (K : Kd) (n : Nat) (o : Nat) (w : Wd) : Option (Kd × Nat × Wd) :=
  (some (kup K n (20, 3))).bind fun K1 =>
  (some (clr w n)).bind fun w2 =>
  (chk K1 5 (some o)).bind fun a3 =>
  (some (sR w2 600 a3 (some n))).bind fun w4 =>
  (some (kup K1 (n + 1) (20, 6))).bind fun K5 =>
  (some (clr w4 (n + 1))).bind fun w6 =>
  (chk K5 5 (some o)).bind fun a7 =>
  (some (sR w6 601 a7 (some (n + 1)))).bind fun w8 =>
  (some (kup K5 ((n + 1) + 1) (20, 6))).bind fun K9 =>
  (some (clr w8 ((n + 1) + 1))).bind fun w10 =>
  (chk K9 5 (some o)).bind fun a11 =>
  (some (sR w10 602 a11 (some ((n + 1) + 1)))).bind fun w12 =>
  (some (kup K9 (((n + 1) + 1) + 1) (20, 12))).bind fun K13 =>
  (some (clr w12 (((n + 1) + 1) + 1))).bind fun w14 =>
  (chk K13 5 (some o)).bind fun a15 =>
  (some (sR w14 603 a15 (some (((n + 1) + 1) + 1)))).bind fun w16 =>
  some (K13, ((((n + 1) + 1) + 1) + 1), w16)

def f_X6_firstDay (K : Kd) (a_0 : Option Nat) (a_1 : Int32) (w : Wd) : Option (Int32 × Wd) :=
  (chk K 9 a_0).bind fun a1 =>
  (chk K 8 (wR w 1000 a1)).bind fun a2 =>
  (cha K 25 (wR w 909 a2)).bind fun a3 =>
  (ixa a_1 a3.2).bind fun j4 =>
  (chk K 2 (aR w a3.1 j4)).bind fun a5 =>
  some ((imax (wI w 1001 a1) (wI w 300 a5)), w)

def f_X6_leastLoaded_L5 (K : Kd) (o : Nat) (k : Int32 → Int32 → Int32 → Int32 → Wd → Option (Int32 × Wd)) : Nat → Int32 → Int32 → Int32 → Int32 → Wd → Option (Int32 × Wd)
  | 0, _, _, _, _, _ => none
  | n + 1, v1_5, v2_5, v3_5, v4_5, w =>
    if v1_5 ≤ v4_5 then
      (k v1_5 v2_5 v3_5 v4_5 w)
    else
      ((f_X12_has K ((wI w 604 o) ||| (wI w 605 o)) v4_5 w).bind fun q3 =>
      if (b2i q3.1) = 0 then
        ((cha K 20 (wR q3.2 601 o)).bind fun a6 =>
        (ixa v4_5 a6.2).bind fun j7 =>
        if (v2_5 &&& (aI q3.2 a6.1 j7)) = 0 then
          (if v3_5 = (-1) then
            (f_X6_leastLoaded_L5 K o k n v1_5 v2_5 v4_5 (v4_5 + 1) q3.2)
          else
            ((cha K 20 (wR q3.2 602 o)).bind fun a12 =>
            (ixa v4_5 a12.2).bind fun j13 =>
            (ixa v3_5 a12.2).bind fun j14 =>
            if (aI q3.2 a12.1 j14) ≤ (aI q3.2 a12.1 j13) then
              (f_X6_leastLoaded_L5 K o k n v1_5 v2_5 v3_5 (v4_5 + 1) q3.2)
            else
              (f_X6_leastLoaded_L5 K o k n v1_5 v2_5 v4_5 (v4_5 + 1) q3.2)))
        else
          (f_X6_leastLoaded_L5 K o k n v1_5 v2_5 v3_5 (v4_5 + 1) q3.2))
      else
        (f_X6_leastLoaded_L5 K o k n v1_5 v2_5 v3_5 (v4_5 + 1) q3.2))

def f_X6_leastLoaded (K : Kd) (o : Nat) (a_1 : Int32) (a_2 : Int32) (w : Wd) : Option (Int32 × Wd) :=
  f_X6_leastLoaded_L5 K o (fun v1_5 v2_5 v3_5 v4_5 w1 =>
    some (v3_5, w1)) fu a_1 a_2 (-1) 0 w

def f_X6_take (K : Kd) (a_0 : Option Nat) (a_1 : Int32) (a_2 : Int32) (w : Wd) : Option Wd :=
  if a_1 < 0 then
    (some w)
  else
    ((cha K 20 a_0).bind fun a2 =>
    if (nI a2.2) ≤ a_1 then
      (some w)
    else
      ((ixa a_1 a2.2).bind fun j4 =>
      (ixa a_1 a2.2).bind fun j5 =>
      (some (tI w a2.1 j5 ((aI w a2.1 j4) ||| a_2))).bind fun w6 =>
      some w6))

def f_X7_init (K : Kd) (n : Nat) (o : Nat) (w : Wd) : Option (Kd × Nat × Wd) :=
  (some (kup K n (20, 20))).bind fun K1 =>
  (some (clr w n)).bind fun w2 =>
  (chk K1 6 (some o)).bind fun a3 =>
  (some (sR w2 707 a3 (some n))).bind fun w4 =>
  some (K1, (n + 1), w4)

def f_X7_copyFrom (K : Kd) (o : Nat) (a_1 : Option Nat) (w : Wd) : Option Wd :=
  (chk K 6 a_1).bind fun a1 =>
  (some (sI w 700 o (wI w 700 a1))).bind fun w2 =>
  (some (sI w2 701 o (wI w2 701 a1))).bind fun w3 =>
  (some (sI w3 702 o (wI w3 702 a1))).bind fun w4 =>
  (some (sI w4 703 o (wI w4 703 a1))).bind fun w5 =>
  (some (sI w5 704 o (wI w5 704 a1))).bind fun w6 =>
  (some (sI w6 705 o (wI w6 705 a1))).bind fun w7 =>
  (some (sI w7 706 o (wI w7 706 a1))).bind fun w8 =>
  (cha K 20 (wR w8 707 o)).bind fun a9 =>
  (cha K 20 (wR w8 707 a1)).bind fun a10 =>
  (grd (¬ (0 : Int32) < 0 ∧ ¬ (0 : Int32) < 0 ∧ ¬ (nI a9.2) < 0 ∧ (0 : Int32).toNatClampNeg + (nI a9.2).toNatClampNeg ≤ a10.2 ∧ (0 : Int32).toNatClampNeg + (nI a9.2).toNatClampNeg ≤ a9.2)).bind fun _ =>
  (some (tA w8 a9.1 (va_cpy (aI w8 a10.1) (aI w8 a9.1) (0 : Int32).toNatClampNeg (0 : Int32).toNatClampNeg (nI a9.2).toNatClampNeg))).bind fun w12 =>
  some w12

def f_X7_isOn (K : Kd) (o : Nat) (a_1 : Int32) (w : Wd) : Option (Bool × Wd) :=
  if (wI w 700 o) = 1 then
    (if (wI w 702 o) = a_1 then
      (some (true, w))
    else
      (some (false, w)))
  else
    (if (wI w 700 o) = 2 then
      (if (wI w 702 o) = a_1 then
        (some (true, w))
      else
        (some (false, w)))
    else
      (some (false, w)))

def f_X7_setHearing (K : Kd) (o : Nat) (a_1 : Int32) (a_2 : Int32) (a_3 : Int32) (a_4 : Int32) (w : Wd) : Option Wd :=
  (some (sI w 700 o 1)).bind fun w1 =>
  (some (sI w1 702 o a_1)).bind fun w2 =>
  (some (sI w2 703 o a_2)).bind fun w3 =>
  (some (sI w3 704 o a_3)).bind fun w4 =>
  (some (sI w4 705 o a_4)).bind fun w5 =>
  some w5

def f_X7_dropHearing (K : Kd) (o : Nat) (w : Wd) : Option Wd :=
  (some (sI w 700 o 0)).bind fun w1 =>
  (some (sI w1 702 o (-1))).bind fun w2 =>
  (some (sI w2 703 o (-1))).bind fun w3 =>
  (some (sI w3 704 o (-1))).bind fun w4 =>
  (some (sI w4 705 o (-1))).bind fun w5 =>
  some w5

def f_X7_note (K : Kd) (o : Nat) (a_1 : Int32) (a_2 : Int32) (a_3 : Int32) (w : Wd) : Option Wd :=
  if 5 ≤ (wI w 706 o) then
    (some w)
  else
    ((cha K 20 (wR w 707 o)).bind fun a2 =>
    (ixa ((wI w 706 o) * 4) a2.2).bind fun j3 =>
    (some (tI w a2.1 j3 a_1)).bind fun w4 =>
    (cha K 20 (wR w4 707 o)).bind fun a5 =>
    (ixa (((wI w 706 o) * 4) + 1) a5.2).bind fun j6 =>
    (some (tI w4 a5.1 j6 a_2)).bind fun w7 =>
    (cha K 20 (wR w7 707 o)).bind fun a8 =>
    (ixa (((wI w 706 o) * 4) + 2) a8.2).bind fun j9 =>
    (some (tI w7 a8.1 j9 (wI w7 702 o))).bind fun w10 =>
    (cha K 20 (wR w10 707 o)).bind fun a11 =>
    (ixa (((wI w 706 o) * 4) + 3) a11.2).bind fun j12 =>
    (some (tI w10 a11.1 j12 a_3)).bind fun w13 =>
    (some (sI w13 706 o ((wI w13 706 o) + 1))).bind fun w14 =>
    some w14)

def f_X8_init (K : Kd) (n : Nat) (o : Nat) (w : Wd) : Option (Kd × Nat × Wd) :=
  (some (kup K n (21, 0))).bind fun K1 =>
  (some (clr w n)).bind fun w2 =>
  (chk K1 7 (some o)).bind fun a3 =>
  (some (sR w2 800 a3 (some n))).bind fun w4 =>
  (some (sR w4 804 a3 (some 19))).bind fun w5 =>
  some (K1, (n + 1), w5)

def f_X8_isDigit (K : Kd) (a_0 : Int32) (w : Wd) : Option (Bool × Wd) :=
  if a_0 < 48 then
    (some (false, w))
  else
    (if 57 < a_0 then
      (some (false, w))
    else
      (some (true, w)))

def f_X9_size (K : Kd) (o : Nat) (a_1 : Int32) (w : Wd) : Option (Int32 × Wd) :=
  (cha K 26 (wR w 900 o)).bind fun a1 =>
  (ixa a_1 a1.2).bind fun j2 =>
  (chk K 3 (aR w a1.1 j2)).bind fun a3 =>
  some ((wI w 401 a3), w)

def f_X9_addOff (K : Kd) (o : Nat) (a_1 : Int32) (a_2 : Int32) (a_3 : Int32) (w : Wd) : Option Wd :=
  (cha K 20 (wR w 902 o)).bind fun a1 =>
  (ixa a_1 a1.2).bind fun j2 =>
  if 3 ≤ (aI w a1.1 j2) then
    (some w)
  else
    ((ixa a_1 a1.2).bind fun j4 =>
    (cha K 20 (wR w 903 o)).bind fun a5 =>
    (ixa ((a_1 * 3) + (aI w a1.1 j4)) a5.2).bind fun j6 =>
    (some (tI w a5.1 j6 a_2)).bind fun w7 =>
    (cha K 20 (wR w7 904 o)).bind fun a8 =>
    (ixa ((a_1 * 3) + (aI w a1.1 j4)) a8.2).bind fun j9 =>
    (some (tI w7 a8.1 j9 a_3)).bind fun w10 =>
    (cha K 20 (wR w10 902 o)).bind fun a11 =>
    (ixa a_1 a11.2).bind fun j12 =>
    (ixa a_1 a11.2).bind fun j13 =>
    (some (tI w10 a11.1 j13 ((aI w10 a11.1 j12) + 1))).bind fun w14 =>
    some w14)

def f_X9_isAway_L7 (K : Kd) (o : Nat) (k : Int32 → Int32 → Int32 → Int32 → Wd → Option (Bool × Wd)) : Nat → Int32 → Int32 → Int32 → Int32 → Wd → Option (Bool × Wd)
  | 0, _, _, _, _, _ => none
  | n + 1, v1_7, v2_7, v3_7, v4_7, w =>
    (cha K 20 (wR w 902 o)).bind fun a2 =>
    (ixa v1_7 a2.2).bind fun j3 =>
    if (v3_7 + (aI w a2.1 j3)) ≤ v4_7 then
      (k v1_7 v2_7 v3_7 v4_7 w)
    else
      ((cha K 20 (wR w 903 o)).bind fun a5 =>
      (ixa v4_7 a5.2).bind fun j6 =>
      if v2_7 < (aI w a5.1 j6) then
        (f_X9_isAway_L7 K o k n v1_7 v2_7 v3_7 (v4_7 + 1) w)
      else
        ((cha K 20 (wR w 904 o)).bind fun a8 =>
        (ixa v4_7 a8.2).bind fun j9 =>
        if (aI w a8.1 j9) < v2_7 then
          (f_X9_isAway_L7 K o k n v1_7 v2_7 v3_7 (v4_7 + 1) w)
        else
          (some (true, w))))

def f_X9_isAway (K : Kd) (o : Nat) (a_1 : Int32) (a_2 : Int32) (w : Wd) : Option (Bool × Wd) :=
  f_X9_isAway_L7 K o (fun v1_7 v2_7 v3_7 v4_7 w1 =>
    some (false, w1)) fu a_1 a_2 (a_1 * 3) (a_1 * 3) w

def f_X9_awayOfficers_L4 (K : Kd) (o : Nat) (k : Int32 → Int32 → Int32 → Wd → Option (Int32 × Wd)) : Nat → Int32 → Int32 → Int32 → Wd → Option (Int32 × Wd)
  | 0, _, _, _, _ => none
  | n + 1, v1_4, v2_4, v3_4, w =>
    (f_X9_size K o 1 w).bind fun q2 =>
    if q2.1 ≤ v3_4 then
      (k v1_4 v2_4 v3_4 q2.2)
    else
      ((f_X9_isAway K o v3_4 v1_4 q2.2).bind fun q4 =>
      if (b2i q4.1) = 0 then
        (f_X9_awayOfficers_L4 K o k n v1_4 v2_4 (v3_4 + 1) q4.2)
      else
        (f_X9_awayOfficers_L4 K o k n v1_4 (v2_4 ||| (1 <<< (v3_4 &&& 31))) (v3_4 + 1) q4.2))

def f_X9_awayOfficers (K : Kd) (o : Nat) (a_1 : Int32) (w : Wd) : Option (Int32 × Wd) :=
  f_X9_awayOfficers_L4 K o (fun v1_4 v2_4 v3_4 w1 =>
    some (v2_4, w1)) fu a_1 0 0 w

def f_X10_copyFrom_L65 (K : Kd) (o : Nat) (k : Option Nat → Int32 → Wd → Option Wd) : Nat → Option Nat → Int32 → Wd → Option Wd
  | 0, _, _, _ => none
  | n + 1, v1_65, v2_65, w =>
    if 12 ≤ v2_65 then
      (k v1_65 v2_65 w)
    else
      ((cha K 27 (wR w 1005 o)).bind fun a16 =>
      (ixa v2_65 a16.2).bind fun j17 =>
      (chk K 9 v1_65).bind fun a18 =>
      (cha K 27 (wR w 1005 a18)).bind fun a19 =>
      (ixa v2_65 a19.2).bind fun j20 =>
      (chk K 6 (aR w a16.1 j17)).bind fun a21 =>
      (f_X7_copyFrom K a21 (aR w a19.1 j20) w).bind fun q22 =>
      f_X10_copyFrom_L65 K o k n v1_65 (v2_65 + 1) q22)

def f_X10_copyFrom (K : Kd) (o : Nat) (a_1 : Option Nat) (w : Wd) : Option Wd :=
  (chk K 9 a_1).bind fun a1 =>
  (some (sR w 1000 o (wR w 1000 a1))).bind fun w2 =>
  (some (sI w2 1001 o (wI w2 1001 a1))).bind fun w3 =>
  (chk K 1 (wR w3 1002 o)).bind fun a4 =>
  (f_X2_copyFrom K a4 (wR w3 1002 a1) w3).bind fun q5 =>
  (cha K 20 (wR q5 1003 o)).bind fun a6 =>
  (cha K 20 (wR q5 1003 a1)).bind fun a7 =>
  (grd (¬ (0 : Int32) < 0 ∧ ¬ (0 : Int32) < 0 ∧ ¬ (nI a6.2) < 0 ∧ (0 : Int32).toNatClampNeg + (nI a6.2).toNatClampNeg ≤ a7.2 ∧ (0 : Int32).toNatClampNeg + (nI a6.2).toNatClampNeg ≤ a6.2)).bind fun _ =>
  (some (tA q5 a6.1 (va_cpy (aI q5 a7.1) (aI q5 a6.1) (0 : Int32).toNatClampNeg (0 : Int32).toNatClampNeg (nI a6.2).toNatClampNeg))).bind fun w9 =>
  (cha K 20 (wR w9 1004 o)).bind fun a10 =>
  (cha K 20 (wR w9 1004 a1)).bind fun a11 =>
  (grd (¬ (0 : Int32) < 0 ∧ ¬ (0 : Int32) < 0 ∧ ¬ (nI a10.2) < 0 ∧ (0 : Int32).toNatClampNeg + (nI a10.2).toNatClampNeg ≤ a11.2 ∧ (0 : Int32).toNatClampNeg + (nI a10.2).toNatClampNeg ≤ a10.2)).bind fun _ =>
  (some (tA w9 a10.1 (va_cpy (aI w9 a11.1) (aI w9 a10.1) (0 : Int32).toNatClampNeg (0 : Int32).toNatClampNeg (nI a10.2).toNatClampNeg))).bind fun w13 =>
  f_X10_copyFrom_L65 K o (fun v1_65 v2_65 w14 =>
    some w14) fu a_1 0 w13

def f_X10_works (K : Kd) (o : Nat) (a_1 : Int32) (w : Wd) : Option (Bool × Wd) :=
  if 5 ≤ (a_1 - a_1 / 7 * 7) then
    (some (false, w))
  else
    ((chk K 1 (wR w 1002 o)).bind fun a2 =>
    (f_X2_contains K a2 a_1 w).bind fun q3 =>
    if (b2i q3.1) = 0 then
      (some (true, q3.2))
    else
      (some (false, q3.2)))

def f_X10_countWorking_L5 (K : Kd) (o : Nat) (k : Int32 → Int32 → Int32 → Int32 → Wd → Option (Int32 × Wd)) : Nat → Int32 → Int32 → Int32 → Int32 → Wd → Option (Int32 × Wd)
  | 0, _, _, _, _, _ => none
  | n + 1, v1_5, v2_5, v3_5, v4_5, w =>
    if v2_5 < v4_5 then
      (k v1_5 v2_5 v3_5 v4_5 w)
    else
      ((f_X10_works K o v4_5 w).bind fun q3 =>
      if (b2i q3.1) = 0 then
        (f_X10_countWorking_L5 K o k n v1_5 v2_5 v3_5 (v4_5 + 1) q3.2)
      else
        (f_X10_countWorking_L5 K o k n v1_5 v2_5 (v3_5 + 1) (v4_5 + 1) q3.2))

def f_X10_countWorking (K : Kd) (o : Nat) (a_1 : Int32) (a_2 : Int32) (w : Wd) : Option (Int32 × Wd) :=
  f_X10_countWorking_L5 K o (fun v1_5 v2_5 v3_5 v4_5 w1 =>
    some (v3_5, w1)) fu a_1 a_2 0 a_1 w

def f_X10_limitDay_L31 (K : Kd) (o : Nat) (k : Int32 → Option Nat → Int32 → Int32 → Wd → Option (Int32 × Wd)) : Nat → Int32 → Option Nat → Int32 → Int32 → Wd → Option (Int32 × Wd)
  | 0, _, _, _, _, _ => none
  | n + 1, v1_31, v2_31, v3_31, v4_31, w =>
    if v3_31 ≤ 0 then
      (k v1_31 v2_31 v3_31 v4_31 w)
    else
      (if 10000 ≤ v4_31 then
        (k v1_31 v2_31 v3_31 v4_31 w)
      else
        ((f_X10_works K o (v4_31 + 1) w).bind fun q11 =>
        if (b2i q11.1) = 0 then
          (f_X10_limitDay_L31 K o k n v1_31 v2_31 v3_31 (v4_31 + 1) q11.2)
        else
          (f_X10_limitDay_L31 K o k n v1_31 v2_31 (v3_31 + (-1)) (v4_31 + 1) q11.2)))

def f_X10_limitDay (K : Kd) (o : Nat) (a_1 : Int32) (w : Wd) : Option (Int32 × Wd) :=
  (chk K 8 (wR w 1000 o)).bind fun a1 =>
  (cha K 25 (wR w 909 a1)).bind fun a2 =>
  (ixa a_1 a2.2).bind fun j3 =>
  (chk K 2 (aR w a2.1 j3)).bind fun a4 =>
  (cha K 27 (wR w 1005 o)).bind fun a5 =>
  (ixa a_1 a5.2).bind fun j6 =>
  (chk K 6 (aR w a5.1 j6)).bind fun a7 =>
  f_X10_limitDay_L31 K o (fun v1_31 v2_31 v3_31 v4_31 w8 =>
    some (v4_31, w8)) fu a_1 (aR w a2.1 j3) ((wI w 302 a4) + (wI w 701 a7)) (wI w 300 a4) w

def f_X10_slackOf (K : Kd) (o : Nat) (a_1 : Int32) (w : Wd) : Option (Int32 × Wd) :=
  (f_X10_limitDay K o a_1 w).bind fun q1 =>
  (f_X10_countWorking K o (wI w 1001 o) q1.1 q1.2).bind fun q2 =>
  some (q2.1, q2.2)

def f_X10_countPhase_L4 (K : Kd) (o : Nat) (k : Int32 → Int32 → Int32 → Wd → Option (Int32 × Wd)) : Nat → Int32 → Int32 → Int32 → Wd → Option (Int32 × Wd)
  | 0, _, _, _, _ => none
  | n + 1, v1_4, v2_4, v3_4, w =>
    (chk K 8 (wR w 1000 o)).bind fun a2 =>
    (f_X9_size K a2 3 w).bind fun q3 =>
    if q3.1 ≤ v3_4 then
      (k v1_4 v2_4 v3_4 q3.2)
    else
      ((cha K 27 (wR q3.2 1005 o)).bind fun a5 =>
      (ixa v3_4 a5.2).bind fun j6 =>
      (chk K 6 (aR q3.2 a5.1 j6)).bind fun a7 =>
      if (wI q3.2 700 a7) = v1_4 then
        (f_X10_countPhase_L4 K o k n v1_4 (v2_4 + 1) (v3_4 + 1) q3.2)
      else
        (f_X10_countPhase_L4 K o k n v1_4 v2_4 (v3_4 + 1) q3.2))

def f_X10_countPhase (K : Kd) (o : Nat) (a_1 : Int32) (w : Wd) : Option (Int32 × Wd) :=
  f_X10_countPhase_L4 K o (fun v1_4 v2_4 v3_4 w1 =>
    some (v2_4, w1)) fu a_1 0 0 w

def f_X10_countNeeding_L4 (K : Kd) (o : Nat) (k : Int32 → Int32 → Int32 → Wd → Option (Int32 × Wd)) : Nat → Int32 → Int32 → Int32 → Wd → Option (Int32 × Wd)
  | 0, _, _, _, _ => none
  | n + 1, v1_4, v2_4, v3_4, w =>
    (chk K 8 (wR w 1000 o)).bind fun a2 =>
    (f_X9_size K a2 3 w).bind fun q3 =>
    if q3.1 ≤ v3_4 then
      (k v1_4 v2_4 v3_4 q3.2)
    else
      ((cha K 27 (wR q3.2 1005 o)).bind fun a5 =>
      (ixa v3_4 a5.2).bind fun j6 =>
      (chk K 6 (aR q3.2 a5.1 j6)).bind fun a7 =>
      if (wI q3.2 700 a7) = 1 then
        ((chk K 8 (wR q3.2 1000 o)).bind fun a9 =>
        (cha K 25 (wR q3.2 909 a9)).bind fun a10 =>
        (ixa v3_4 a10.2).bind fun j11 =>
        (chk K 2 (aR q3.2 a10.1 j11)).bind fun a12 =>
        (f_X12_has K (wI q3.2 304 a12) v1_4 q3.2).bind fun q13 =>
        if (b2i q13.1) = 0 then
          (f_X10_countNeeding_L4 K o k n v1_4 v2_4 (v3_4 + 1) q13.2)
        else
          (f_X10_countNeeding_L4 K o k n v1_4 (v2_4 + 1) (v3_4 + 1) q13.2))
      else
        (f_X10_countNeeding_L4 K o k n v1_4 v2_4 (v3_4 + 1) q3.2))

def f_X10_countNeeding (K : Kd) (o : Nat) (a_1 : Int32) (w : Wd) : Option (Int32 × Wd) :=
  f_X10_countNeeding_L4 K o (fun v1_4 v2_4 v3_4 w1 =>
    some (v2_4, w1)) fu a_1 0 0 w

def f_X10_loadOf_L4 (K : Kd) (o : Nat) (k : Int32 → Int32 → Int32 → Wd → Option (Int32 × Wd)) : Nat → Int32 → Int32 → Int32 → Wd → Option (Int32 × Wd)
  | 0, _, _, _, _ => none
  | n + 1, v1_4, v2_4, v3_4, w =>
    (chk K 8 (wR w 1000 o)).bind fun a2 =>
    (f_X9_size K a2 3 w).bind fun q3 =>
    if q3.1 ≤ v3_4 then
      (k v1_4 v2_4 v3_4 q3.2)
    else
      ((cha K 27 (wR q3.2 1005 o)).bind fun a5 =>
      (ixa v3_4 a5.2).bind fun j6 =>
      (chk K 6 (aR q3.2 a5.1 j6)).bind fun a7 =>
      if (wI q3.2 705 a7) = v1_4 then
        ((chk K 8 (wR q3.2 1000 o)).bind fun a9 =>
        (cha K 25 (wR q3.2 909 a9)).bind fun a10 =>
        (ixa v3_4 a10.2).bind fun j11 =>
        (chk K 2 (aR q3.2 a10.1 j11)).bind fun a12 =>
        f_X10_loadOf_L4 K o k n v1_4 (v2_4 + (wI q3.2 301 a12)) (v3_4 + 1) q3.2)
      else
        (f_X10_loadOf_L4 K o k n v1_4 v2_4 (v3_4 + 1) q3.2))

def f_X10_loadOf (K : Kd) (o : Nat) (a_1 : Int32) (w : Wd) : Option (Int32 × Wd) :=
  f_X10_loadOf_L4 K o (fun v1_4 v2_4 v3_4 w1 =>
    some (v2_4, w1)) fu a_1 0 0 w

def f_X10_countTaken_L6 (K : Kd) (o : Nat) (k : Int32 → Int32 → Int32 → Int32 → Int32 → Wd → Option (Int32 × Wd)) : Nat → Int32 → Int32 → Int32 → Int32 → Int32 → Wd → Option (Int32 × Wd)
  | 0, _, _, _, _, _, _ => none
  | n + 1, v1_6, v2_6, v3_6, v4_6, v5_6, w =>
    (chk K 8 (wR w 1000 o)).bind fun a2 =>
    (f_X9_size K a2 3 w).bind fun q3 =>
    if q3.1 ≤ v5_6 then
      (k v1_6 v2_6 v3_6 v4_6 v5_6 q3.2)
    else
      ((cha K 27 (wR q3.2 1005 o)).bind fun a5 =>
      (ixa v5_6 a5.2).bind fun j6 =>
      (chk K 6 (aR q3.2 a5.1 j6)).bind fun a7 =>
      if (wI q3.2 704 a7) = v1_6 then
        (if (wI q3.2 702 a7) < v2_6 then
          (f_X10_countTaken_L6 K o k n v1_6 v2_6 v3_6 v4_6 (v5_6 + 1) q3.2)
        else
          (if v3_6 < (wI q3.2 702 a7) then
            (f_X10_countTaken_L6 K o k n v1_6 v2_6 v3_6 v4_6 (v5_6 + 1) q3.2)
          else
            ((f_X10_works K o (wI q3.2 702 a7) q3.2).bind fun q11 =>
            if (b2i q11.1) = 0 then
              (f_X10_countTaken_L6 K o k n v1_6 v2_6 v3_6 v4_6 (v5_6 + 1) q11.2)
            else
              ((chk K 8 (wR q11.2 1000 o)).bind fun a13 =>
              (cha K 25 (wR q11.2 909 a13)).bind fun a14 =>
              (ixa v5_6 a14.2).bind fun j15 =>
              (chk K 2 (aR q11.2 a14.1 j15)).bind fun a16 =>
              f_X10_countTaken_L6 K o k n v1_6 v2_6 v3_6 (v4_6 + (wI q11.2 301 a16)) (v5_6 + 1) q11.2))))
      else
        (f_X10_countTaken_L6 K o k n v1_6 v2_6 v3_6 v4_6 (v5_6 + 1) q3.2))

def f_X10_countTaken (K : Kd) (o : Nat) (a_1 : Int32) (a_2 : Int32) (a_3 : Int32) (w : Wd) : Option (Int32 × Wd) :=
  f_X10_countTaken_L6 K o (fun v1_6 v2_6 v3_6 v4_6 v5_6 w1 =>
    some (v4_6, w1)) fu a_1 a_2 a_3 0 0 w

def f_X10_slotsOf (K : Kd) (o : Nat) (a_1 : Int32) (w : Wd) : Option (Int32 × Wd) :=
  (cha K 27 (wR w 1005 o)).bind fun a1 =>
  (ixa a_1 a1.2).bind fun j2 =>
  (chk K 6 (aR w a1.1 j2)).bind fun a3 =>
  (chk K 8 (wR w 1000 o)).bind fun a4 =>
  (cha K 25 (wR w 909 a4)).bind fun a5 =>
  (ixa a_1 a5.2).bind fun j6 =>
  (chk K 2 (aR w a5.1 j6)).bind fun a7 =>
  (f_X12_slotSet K (wI w 703 a3) (wI w 301 a7) w).bind fun q8 =>
  some (q8.1, q8.2)

def f_X10_barredOfficers_L23 (K : Kd) (o : Nat) (k : Int32 → Int32 → Int32 → Int32 → Wd → Option (Int32 × Wd)) : Nat → Int32 → Int32 → Int32 → Int32 → Wd → Option (Int32 × Wd)
  | 0, _, _, _, _, _ => none
  | n + 1, v1_23, v2_23, v3_23, v4_23, w =>
    (chk K 8 (wR w 1000 o)).bind fun a8 =>
    (f_X9_size K a8 3 w).bind fun q9 =>
    if q9.1 ≤ v4_23 then
      (k v1_23 v2_23 v3_23 v4_23 q9.2)
    else
      ((f_X12_has K v3_23 v4_23 q9.2).bind fun q11 =>
      if (b2i q11.1) = 0 then
        (f_X10_barredOfficers_L23 K o k n v1_23 v2_23 v3_23 (v4_23 + 1) q11.2)
      else
        ((cha K 27 (wR q11.2 1005 o)).bind fun a13 =>
        (ixa v4_23 a13.2).bind fun j14 =>
        (chk K 6 (aR q11.2 a13.1 j14)).bind fun a15 =>
        if (wI q11.2 705 a15) = (-1) then
          (f_X10_barredOfficers_L23 K o k n v1_23 v2_23 v3_23 (v4_23 + 1) q11.2)
        else
          ((ixa v4_23 a13.2).bind fun j17 =>
          (chk K 6 (aR q11.2 a13.1 j17)).bind fun a18 =>
          f_X10_barredOfficers_L23 K o k n v1_23 (v2_23 ||| (1 <<< ((wI q11.2 705 a18) &&& 31))) v3_23 (v4_23 + 1) q11.2)))

def f_X10_barredOfficers (K : Kd) (o : Nat) (a_1 : Int32) (w : Wd) : Option (Int32 × Wd) :=
  (cha K 20 (wR w 1004 o)).bind fun a1 =>
  (ixa a_1 a1.2).bind fun j2 =>
  (chk K 8 (wR w 1000 o)).bind fun a3 =>
  (cha K 25 (wR w 909 a3)).bind fun a4 =>
  (ixa a_1 a4.2).bind fun j5 =>
  (chk K 2 (aR w a4.1 j5)).bind fun a6 =>
  f_X10_barredOfficers_L23 K o (fun v1_23 v2_23 v3_23 v4_23 w7 =>
    some (v2_23, w7)) fu a_1 (aI w a1.1 j2) (wI w 305 a6) 0 w

def f_X10_slotsOutside_L5 (K : Kd) (o : Nat) (k : Int32 → Int32 → Int32 → Int32 → Wd → Option (Int32 × Wd)) : Nat → Int32 → Int32 → Int32 → Int32 → Wd → Option (Int32 × Wd)
  | 0, _, _, _, _, _ => none
  | n + 1, v1_5, v2_5, v3_5, v4_5, w =>
    (chk K 8 (wR w 1000 o)).bind fun a2 =>
    (f_X9_size K a2 2 w).bind fun q3 =>
    if q3.1 ≤ v4_5 then
      (k v1_5 v2_5 v3_5 v4_5 q3.2)
    else
      ((f_X12_has K v1_5 v4_5 q3.2).bind fun q5 =>
      if (b2i q5.1) = 0 then
        (f_X10_slotsOutside_L5 K o k n v1_5 v2_5 v3_5 (v4_5 + 1) q5.2)
      else
        ((chk K 8 (wR q5.2 1000 o)).bind fun a7 =>
        (cha K 20 (wR q5.2 905 a7)).bind fun a8 =>
        (ixa v4_5 a8.2).bind fun j9 =>
        if v2_5 < (aI q5.2 a8.1 j9) then
          ((cha K 20 (wR q5.2 907 a7)).bind fun a11 =>
          (ixa v4_5 a11.2).bind fun j12 =>
          f_X10_slotsOutside_L5 K o k n v1_5 v2_5 (v3_5 ||| (0 ^^^ (-1))) (v4_5 + 1) q5.2)
        else
          ((cha K 20 (wR q5.2 1003 o)).bind fun a14 =>
          (ixa v4_5 a14.2).bind fun j15 =>
          if (aI q5.2 a14.1 j15) < v2_5 then
            ((cha K 20 (wR q5.2 907 a7)).bind fun a17 =>
            (ixa v4_5 a17.2).bind fun j18 =>
            f_X10_slotsOutside_L5 K o k n v1_5 v2_5 (v3_5 ||| (0 ^^^ (-1))) (v4_5 + 1) q5.2)
          else
            ((cha K 20 (wR q5.2 907 a7)).bind fun a20 =>
            (ixa v4_5 a20.2).bind fun j21 =>
            (cha K 20 (wR q5.2 908 a7)).bind fun a23 =>
            (ixa v4_5 a23.2).bind fun j24 =>
            (f_X12_slotSet K (aI q5.2 a20.1 j21) (((aI q5.2 a23.1 j24) - (aI q5.2 a20.1 j21)) + 1) q5.2).bind fun q25 =>
            f_X10_slotsOutside_L5 K o k n v1_5 v2_5 (v3_5 ||| (q25.1 ^^^ (-1))) (v4_5 + 1) q25.2))))

def f_X10_slotsOutside (K : Kd) (o : Nat) (a_1 : Int32) (a_2 : Int32) (w : Wd) : Option (Int32 × Wd) :=
  f_X10_slotsOutside_L5 K o (fun v1_5 v2_5 v3_5 v4_5 w1 =>
    some (v3_5, w1)) fu a_1 a_2 0 0 w

def f_X10_urgencyKey (K : Kd) (o : Nat) (a_1 : Int32) (w : Wd) : Option (Int32 × Wd) :=
  (chk K 8 (wR w 1000 o)).bind fun a1 =>
  (cha K 25 (wR w 909 a1)).bind fun a2 =>
  (ixa a_1 a2.2).bind fun j3 =>
  (chk K 2 (aR w a2.1 j3)).bind fun a4 =>
  if (b2i (wZ w 303 a4)) = 0 then
    ((f_X10_limitDay K o a_1 w).bind fun q6 =>
    some (((((q6.1 * 2) + 1) * 12) + a_1), q6.2))
  else
    ((f_X10_limitDay K o a_1 w).bind fun q7 =>
    some (((((q7.1 * 2) + 0) * 12) + a_1), q7.2))

def f_X10_insert_L2 (K : Kd) (k : Option Nat → Int32 → Int32 → Int32 → Wd → Option Wd) : Nat → Option Nat → Int32 → Int32 → Int32 → Wd → Option Wd
  | 0, _, _, _, _, _ => none
  | n + 1, v0_2, v1_2, v2_2, v3_2, w =>
    if v3_2 ≤ 0 then
      (k v0_2 v1_2 v2_2 v3_2 w)
    else
      ((cha K 20 v0_2).bind fun a3 =>
      (ixa (v3_2 - 1) a3.2).bind fun j4 =>
      if (aI w a3.1 j4) ≤ v2_2 then
        (k v0_2 v1_2 v2_2 v3_2 w)
      else
        ((ixa (v3_2 - 1) a3.2).bind fun j6 =>
        (ixa v3_2 a3.2).bind fun j7 =>
        (some (tI w a3.1 j7 (aI w a3.1 j6))).bind fun w8 =>
        f_X10_insert_L2 K k n v0_2 v1_2 v2_2 (v3_2 + (-1)) w8))

def f_X10_insert (K : Kd) (a_0 : Option Nat) (a_1 : Int32) (a_2 : Int32) (w : Wd) : Option Wd :=
  f_X10_insert_L2 K (fun v0_2 v1_2 v2_2 v3_2 w1 =>
    (cha K 20 v0_2).bind fun a9 =>
    (ixa v3_2 a9.2).bind fun j10 =>
    (some (tI w1 a9.1 j10 v2_2)).bind fun w11 =>
    some w11) fu a_0 a_1 a_2 a_1 w

def f_X10_takeAway (K : Kd) (o : Nat) (a_1 : Int32) (a_2 : Int32) (w : Wd) : Option Wd :=
  (cha K 27 (wR w 1005 o)).bind fun a1 =>
  (ixa a_1 a1.2).bind fun j2 =>
  (chk K 6 (aR w a1.1 j2)).bind fun a3 =>
  if 5 ≤ (wI w 706 a3) then
    ((f_X7_dropHearing K a3 w).bind fun q5 =>
    some q5)
  else
    ((chk K 8 (wR w 1000 o)).bind fun a6 =>
    (cha K 20 (wR w 911 a6)).bind fun a7 =>
    (ixa a_2 a7.2).bind fun j8 =>
    (cha K 25 (wR w 909 a6)).bind fun a9 =>
    (ixa a_1 a9.2).bind fun j10 =>
    (chk K 2 (aR w a9.1 j10)).bind fun a11 =>
    if (b2i (wZ w 303 a11)) = 0 then
      ((f_X7_note K a3 (wI w 1001 o) a_2 (((wI w 701 a3) + (aI w a7.1 j8)) - (wI w 701 a3)) w).bind fun q13 =>
      (some (sI q13 701 a3 ((wI w 701 a3) + (aI w a7.1 j8)))).bind fun w14 =>
      (f_X7_dropHearing K a3 w14).bind fun q15 =>
      some q15)
    else
      ((f_X7_note K a3 (wI w 1001 o) a_2 ((imin ((wI w 701 a3) + (aI w a7.1 j8)) (wI w 913 a6)) - (wI w 701 a3)) w).bind fun q16 =>
      (some (sI q16 701 a3 (imin ((wI w 701 a3) + (aI w a7.1 j8)) (wI w 913 a6)))).bind fun w17 =>
      (f_X7_dropHearing K a3 w17).bind fun q18 =>
      some q18))

def f_X10_passDays_L14 (K : Kd) (o : Nat) (k : Int32 → Int32 → Int32 → Wd → Option (Int32 × Wd)) : Nat → Int32 → Int32 → Int32 → Wd → Option (Int32 × Wd)
  | 0, _, _, _, _ => none
  | n + 1, v1_14, v2_14, v3_14, w =>
    (chk K 8 (wR w 1000 o)).bind fun a3 =>
    (f_X9_size K a3 3 w).bind fun q4 =>
    if q4.1 ≤ v3_14 then
      (k v1_14 v2_14 v3_14 q4.2)
    else
      ((cha K 27 (wR q4.2 1005 o)).bind fun a6 =>
      (ixa v3_14 a6.2).bind fun j7 =>
      (chk K 6 (aR q4.2 a6.1 j7)).bind fun a8 =>
      if (wI q4.2 700 a8) = 1 then
        ((ixa v3_14 a6.2).bind fun j10 =>
        (chk K 6 (aR q4.2 a6.1 j10)).bind fun a11 =>
        if (wI q4.2 1001 o) ≤ (wI q4.2 702 a11) then
          (f_X10_passDays_L14 K o k n v1_14 v2_14 (v3_14 + 1) q4.2)
        else
          ((ixa v3_14 a6.2).bind fun j13 =>
          (chk K 6 (aR q4.2 a6.1 j13)).bind fun a14 =>
          (some (sI q4.2 700 a14 2)).bind fun w15 =>
          f_X10_passDays_L14 K o k n v1_14 (v2_14 + 1) (v3_14 + 1) w15))
      else
        (f_X10_passDays_L14 K o k n v1_14 v2_14 (v3_14 + 1) q4.2))

def f_X10_passDays_L76 (K : Kd) (o : Nat) (k : Int32 → Int32 → Int32 → Wd → Option (Int32 × Wd)) : Nat → Int32 → Int32 → Int32 → Wd → Option (Int32 × Wd)
  | 0, _, _, _, _ => none
  | n + 1, v1_76, v2_76, v3_76, w =>
    (chk K 8 (wR w 1000 o)).bind fun a17 =>
    (f_X9_size K a17 3 w).bind fun q18 =>
    if q18.1 ≤ v3_76 then
      (k v1_76 v2_76 v3_76 q18.2)
    else
      ((cha K 27 (wR q18.2 1005 o)).bind fun a20 =>
      (ixa v3_76 a20.2).bind fun j21 =>
      (chk K 6 (aR q18.2 a20.1 j21)).bind fun a22 =>
      if (wI q18.2 700 a22) = 0 then
        ((f_X10_limitDay K o v3_76 q18.2).bind fun q24 =>
        if (wI q24.2 1001 o) ≤ q24.1 then
          (f_X10_passDays_L76 K o k n v1_76 v2_76 (v3_76 + 1) q24.2)
        else
          ((cha K 27 (wR q24.2 1005 o)).bind fun a26 =>
          (ixa v3_76 a26.2).bind fun j27 =>
          (chk K 6 (aR q24.2 a26.1 j27)).bind fun a28 =>
          (some (sI q24.2 700 a28 3)).bind fun w29 =>
          f_X10_passDays_L76 K o k n v1_76 v2_76 (v3_76 + 1) w29))
      else
        (f_X10_passDays_L76 K o k n v1_76 v2_76 (v3_76 + 1) q18.2))

def f_X10_passDays (K : Kd) (o : Nat) (a_1 : Int32) (w : Wd) : Option (Int32 × Wd) :=
  (some (sI w 1001 o ((wI w 1001 o) + a_1))).bind fun w1 =>
  f_X10_passDays_L14 K o (fun v1_14 v2_14 v3_14 w2 =>
    f_X10_passDays_L76 K o (fun v1_76 v2_76 v3_76 w16 =>
      some (v2_76, w16)) fu v1_14 v2_14 0 w2) fu a_1 0 0 w1

def f_X11_ofWord_L2 (K : Kd) (k : Int64 → Int32 → Wd → Option (Option Nat × Wd)) : Nat → Int64 → Int32 → Wd → Option (Option Nat × Wd)
  | 0, _, _, _ => none
  | n + 1, v0_2, v2_2, w =>
    if 21 ≤ v2_2 then
      (k v0_2 v2_2 w)
    else
      ((ixa v2_2 21).bind fun j3 =>
      if (lg_cmp (tokP.getD j3 0) v0_2) = 0 then
        ((ixa v2_2 21).bind fun j5 =>
        some ((some j5), w))
      else
        (f_X11_ofWord_L2 K k n v0_2 (v2_2 + 1) w))

def f_X11_ofWord (K : Kd) (a_0 : Int64) (w : Wd) : Option (Option Nat × Wd) :=
  f_X11_ofWord_L2 K (fun v0_2 v2_2 w1 =>
    some ((some 16), w1)) fu a_0 0 w

def f_J0_isLatin1_aae02 (K : Kd) (w : Wd) : Option (Bool × Wd) :=
  some (true, w)

def f_J0_coder_7d493 (K : Kd) (w : Wd) : Option (Int32 × Wd) :=
  some (0, w)

def f_J0_length_8abf5 (K : Kd) (w : Wd) : Option (Int32 × Wd) :=
  some (((101 : Int32) >>> ((0 : Int32) &&& 31)), w)

def f_J3_checkIndex_8e157 (K : Kd) (a_0 : Int32) (a_1 : Int32) (w : Wd) : Option (Int32 × Wd) :=
  if a_0 < 0 then
    (none)
  else
    (if a_0 < a_1 then
      (some (a_0, w))
    else
      (none))

def f_Jx29ce0_ordinal_8abf5 (K : Kd) (o : Nat) (w : Wd) : Option (Int32 × Wd) :=
  some ((tokO.getD o 0), w)

def f_J6_bitCount_0f7a4 (K : Kd) (a_0 : Int32) (w : Wd) : Option (Int32 × Wd) :=
  some (((((((((a_0 - ((ushr a_0 1) &&& 1431655765)) &&& 858993459) + ((ushr (a_0 - ((ushr a_0 1) &&& 1431655765)) 2) &&& 858993459)) + (ushr (((a_0 - ((ushr a_0 1) &&& 1431655765)) &&& 858993459) + ((ushr (a_0 - ((ushr a_0 1) &&& 1431655765)) 2) &&& 858993459)) 4)) &&& 252645135) + (ushr (((((a_0 - ((ushr a_0 1) &&& 1431655765)) &&& 858993459) + ((ushr (a_0 - ((ushr a_0 1) &&& 1431655765)) 2) &&& 858993459)) + (ushr (((a_0 - ((ushr a_0 1) &&& 1431655765)) &&& 858993459) + ((ushr (a_0 - ((ushr a_0 1) &&& 1431655765)) 2) &&& 858993459)) 4)) &&& 252645135) 8)) + (ushr ((((((a_0 - ((ushr a_0 1) &&& 1431655765)) &&& 858993459) + ((ushr (a_0 - ((ushr a_0 1) &&& 1431655765)) 2) &&& 858993459)) + (ushr (((a_0 - ((ushr a_0 1) &&& 1431655765)) &&& 858993459) + ((ushr (a_0 - ((ushr a_0 1) &&& 1431655765)) 2) &&& 858993459)) 4)) &&& 252645135) + (ushr (((((a_0 - ((ushr a_0 1) &&& 1431655765)) &&& 858993459) + ((ushr (a_0 - ((ushr a_0 1) &&& 1431655765)) 2) &&& 858993459)) + (ushr (((a_0 - ((ushr a_0 1) &&& 1431655765)) &&& 858993459) + ((ushr (a_0 - ((ushr a_0 1) &&& 1431655765)) 2) &&& 858993459)) 4)) &&& 252645135) 8)) 16)) &&& 63), w)

def f_J7_fill_53178_L5 (K : Kd) (k : Option Nat → Int32 → Int32 → Int32 → Wd → Option Wd) : Nat → Option Nat → Int32 → Int32 → Int32 → Wd → Option Wd
  | 0, _, _, _, _, _ => none
  | n + 1, v0_5, v1_5, v2_5, v3_5, w =>
    if v3_5 ≤ v2_5 then
      (k v0_5 v1_5 v2_5 v3_5 w)
    else
      ((cha K 20 v0_5).bind fun a4 =>
      (ixa v2_5 a4.2).bind fun j5 =>
      (some (tI w a4.1 j5 v1_5)).bind fun w6 =>
      f_J7_fill_53178_L5 K k n v0_5 v1_5 (v2_5 + 1) v3_5 w6)

def f_J7_fill_53178 (K : Kd) (a_0 : Option Nat) (a_1 : Int32) (w : Wd) : Option Wd :=
  (cha K 20 a_0).bind fun a1 =>
  f_J7_fill_53178_L5 K (fun v0_5 v1_5 v2_5 v3_5 w2 =>
    some w2) fu a_0 a_1 0 (nI a1.2) w

def f_X12_feed (K : Kd) (o : Nat) (a_1 : Int32) (a_2 : Int32) (a_3 : Int32) (a_4 : Int32) (a_5 : Int32) (w : Wd) : Option (Int32 × Wd) :=
  if ((wI w 1201 o) + 20) ≤ 900 then
    ((f_X12_append K o a_1 w).bind fun q2 =>
    (f_X12_append K o a_2 q2).bind fun q3 =>
    (f_X12_append K o a_3 q3).bind fun q4 =>
    (f_X12_append K o a_4 q4).bind fun q5 =>
    (f_X12_append K o a_5 q5).bind fun q6 =>
    some ((wI q6 1201 o), q6))
  else
    (some ((-1), w))

def f_X12_bufferedName_L15 (K : Kd) (o : Nat) (k : Int64 → Int32 → Wd → Option (Int64 × Wd)) : Nat → Int64 → Int32 → Wd → Option (Int64 × Wd)
  | 0, _, _, _ => none
  | n + 1, v1_15, v3_15, w =>
    if (wI w 1201 o) ≤ v3_15 then
      (k v1_15 v3_15 w)
    else
      ((cha K 21 (wR w 1200 o)).bind fun a4 =>
      (ixa v3_15 a4.2).bind fun j5 =>
      (f_X12_isLetter K (aI w a4.1 j5) w).bind fun q6 =>
      if (b2i q6.1) = 0 then
        (some (0, q6.2))
      else
        ((cha K 21 (wR q6.2 1200 o)).bind fun a8 =>
        (ixa v3_15 a8.2).bind fun j9 =>
        f_X12_bufferedName_L15 K o k n ((lsl v1_15 8) ||| ((aI q6.2 a8.1 j9).toInt64)) (v3_15 + 1) q6.2))

def f_X12_bufferedName (K : Kd) (o : Nat) (w : Wd) : Option (Int64 × Wd) :=
  if (wI w 1201 o) ≤ 8 then
    (f_X12_bufferedName_L15 K o (fun v1_15 v3_15 w2 =>
      some (v1_15, w2)) fu 0 0 w)
  else
    (some (0, w))

def f_X12_isWorkingDay (K : Kd) (o : Nat) (a_1 : Int32) (w : Wd) : Option ((Bool ⊕ Nat) × Wd) :=
  (f_X12_requireDay K o a_1 w).bind fun q1 =>
  xk q1 fun _ =>
  (chk K 9 (wR q1.2 1205 o)).bind fun a3 =>
  (f_X10_works K a3 a_1 q1.2).bind fun q4 =>
  some (.inl q4.1, q4.2)

def f_X12_workingDays (K : Kd) (o : Nat) (a_1 : Int32) (a_2 : Int32) (w : Wd) : Option ((Int32 ⊕ Nat) × Wd) :=
  (f_X12_requireSpan K o a_1 a_2 w).bind fun q1 =>
  xk q1 fun _ =>
  (chk K 9 (wR q1.2 1205 o)).bind fun a3 =>
  (f_X10_countWorking K a3 a_1 a_2 q1.2).bind fun q4 =>
  some (.inl q4.1, q4.2)

def f_X12_lengthening (K : Kd) (o : Nat) (a_1 : Int32) (w : Wd) : Option ((Int32 ⊕ Nat) × Wd) :=
  (f_X12_requireReason K o a_1 w).bind fun q1 =>
  xk q1 fun _ =>
  (chk K 9 (wR q1.2 1205 o)).bind fun a3 =>
  (chk K 8 (wR q1.2 1000 a3)).bind fun a4 =>
  (cha K 20 (wR q1.2 911 a4)).bind fun a5 =>
  (ixa a_1 a5.2).bind fun j6 =>
  some (.inl (aI q1.2 a5.1 j6), q1.2)

def f_X12_meanSlack_L6 (K : Kd) (o : Nat) (k : Int32 → Int32 → Int32 → Wd → Option (UInt64 × Wd)) : Nat → Int32 → Int32 → Int32 → Wd → Option (UInt64 × Wd)
  | 0, _, _, _, _ => none
  | n + 1, v1_6, v2_6, v3_6, w =>
    (chk K 9 (wR w 1205 o)).bind fun a2 =>
    (chk K 8 (wR w 1000 a2)).bind fun a3 =>
    (f_X9_size K a3 3 w).bind fun q4 =>
    if q4.1 ≤ v3_6 then
      (k v1_6 v2_6 v3_6 q4.2)
    else
      ((chk K 9 (wR q4.2 1205 o)).bind fun a6 =>
      (cha K 27 (wR q4.2 1005 a6)).bind fun a7 =>
      (ixa v3_6 a7.2).bind fun j8 =>
      (chk K 6 (aR q4.2 a7.1 j8)).bind fun a9 =>
      if (wI q4.2 700 a9) = 0 then
        ((f_X10_slackOf K a6 v3_6 q4.2).bind fun q11 =>
        f_X12_meanSlack_L6 K o k n (v1_6 + q11.1) (v2_6 + 1) (v3_6 + 1) q11.2)
      else
        (f_X12_meanSlack_L6 K o k n v1_6 v2_6 (v3_6 + 1) q4.2))

def f_X12_meanSlack (K : Kd) (o : Nat) (w : Wd) : Option (UInt64 × Wd) :=
  f_X12_meanSlack_L6 K o (fun v1_6 v2_6 v3_6 w1 =>
    if v2_6 = 0 then
      (some (FP.dconst0, w1))
    else
      ((grd (n64 (FP.ddiv (FP.i2d v1_6) (FP.i2d v2_6)) = true)).bind fun _ =>
      some ((FP.ddiv (FP.i2d v1_6) (FP.i2d v2_6)), w1))) fu 0 0 0 w

def f_X12_undo (K : Kd) (o : Nat) (w : Wd) : Option ((Int32 ⊕ Nat) × Wd) :=
  if (wI w 1210 o) ≤ 0 then
    (some (.inr 3, w))
  else
    ((cha K 28 (wR w 1209 o)).bind fun a2 =>
    if (wI w 1210 o) ≤ (nI a2.2) then
      ((some (sI w 1210 o ((wI w 1210 o) - 1))).bind fun w4 =>
      (cha K 28 (wR w4 1209 o)).bind fun a5 =>
      (ixa (wI w4 1210 o) a5.2).bind fun j6 =>
      (chk K 9 (wR w4 1205 o)).bind fun a7 =>
      (f_X10_copyFrom K a7 (aR w4 a5.1 j6) w4).bind fun q8 =>
      some (.inl (wI q8 1210 o), q8))
    else
      (some (.inr 3, w)))

def f_X12_remember_L18 (K : Kd) (o : Nat) (k : Option Nat → Int32 → Wd → Option Wd) : Nat → Option Nat → Int32 → Wd → Option Wd
  | 0, _, _, _ => none
  | n + 1, v1_18, v2_18, w =>
    (cha K 28 (wR w 1209 o)).bind fun a10 =>
    if (nI a10.2) ≤ v2_18 then
      (k v1_18 v2_18 w)
    else
      ((ixa v2_18 a10.2).bind fun j12 =>
      (ixa (v2_18 - 1) a10.2).bind fun j13 =>
      (chk K 9 (aR w a10.1 j12)).bind fun a14 =>
      (some (tR w a10.1 j13 (some a14))).bind fun w15 =>
      f_X12_remember_L18 K o k n v1_18 (v2_18 + 1) w15)

def f_X12_remember (K : Kd) (o : Nat) (w : Wd) : Option Wd :=
  if (wI w 1210 o) < 8 then
    ((cha K 28 (wR w 1209 o)).bind fun a2 =>
    (ixa (wI w 1210 o) a2.2).bind fun j3 =>
    (chk K 9 (aR w a2.1 j3)).bind fun a4 =>
    (f_X10_copyFrom K a4 (wR w 1205 o) w).bind fun q5 =>
    (some (sI q5 1210 o ((wI q5 1210 o) + 1))).bind fun w6 =>
    some w6)
  else
    ((cha K 28 (wR w 1209 o)).bind fun a7 =>
    (ixa 0 a7.2).bind fun j8 =>
    f_X12_remember_L18 K o (fun v1_18 v2_18 w9 =>
      (cha K 28 (wR w9 1209 o)).bind fun a16 =>
      (ixa ((nI a16.2) - 1) a16.2).bind fun j17 =>
      (chk K 9 v1_18).bind fun a18 =>
      (some (tR w9 a16.1 j17 (some a18))).bind fun w19 =>
      (some (sI w19 1210 o 7)).bind fun w20 =>
      (cha K 28 (wR w20 1209 o)).bind fun a21 =>
      (ixa (wI w20 1210 o) a21.2).bind fun j22 =>
      (chk K 9 (aR w20 a21.1 j22)).bind fun a23 =>
      (f_X10_copyFrom K a23 (wR w20 1205 o) w20).bind fun q24 =>
      (some (sI q24 1210 o ((wI q24 1210 o) + 1))).bind fun w25 =>
      some w25) fu (aR w a7.1 j8) 1 w)

def f_X12_lapsesIn (K : Kd) (o : Nat) (a_1 : Int32) (w : Wd) : Option ((Int32 ⊕ Nat) × Wd) :=
  (f_X12_requirePassable K o a_1 w).bind fun q1 =>
  xk q1 fun _ =>
  (chk K 9 (wR q1.2 1205 o)).bind fun a3 =>
  (f_X10_countPhase K a3 3 q1.2).bind fun q4 =>
  (chk K 9 (wR q4.2 1208 o)).bind fun a5 =>
  (f_X10_copyFrom K a5 (wR q4.2 1205 o) q4.2).bind fun q6 =>
  (chk K 9 (wR q6 1208 o)).bind fun a7 =>
  (f_X10_passDays K a7 a_1 q6).bind fun q8 =>
  (chk K 9 (wR q8.2 1208 o)).bind fun a9 =>
  (f_X10_countPhase K a9 3 q8.2).bind fun q10 =>
  some (.inl (q10.1 - q4.1), q10.2)

def f_X12_printName_L21 (K : Kd) (o : Nat) (k : Int32 → Int32 → Int64 → Int32 → Wd → Option Wd) : Nat → Int32 → Int32 → Int64 → Int32 → Wd → Option Wd
  | 0, _, _, _, _, _ => none
  | n + 1, v1_21, v2_21, v3_21, v5_21, w =>
    if v5_21 < 0 then
      (k v1_21 v2_21 v3_21 v5_21 w)
    else
      (if (((lsr v3_21 v5_21).toInt32).toInt8.toInt32) = 0 then
        (f_X12_printName_L21 K o k n v1_21 v2_21 v3_21 (v5_21 + (-8)) w)
      else
        ((f_X12_print K o (((lsr v3_21 v5_21).toInt32).toInt8.toInt32) w).bind fun q10 =>
        f_X12_printName_L21 K o k n v1_21 v2_21 v3_21 (v5_21 + (-8)) q10))

def f_X12_printName (K : Kd) (o : Nat) (a_1 : Int32) (a_2 : Int32) (w : Wd) : Option Wd :=
  (chk K 9 (wR w 1205 o)).bind fun a1 =>
  (chk K 8 (wR w 1000 a1)).bind fun a2 =>
  (cha K 26 (wR w 900 a2)).bind fun a3 =>
  (ixa a_1 a3.2).bind fun j4 =>
  (chk K 3 (aR w a3.1 j4)).bind fun a5 =>
  (f_X4_at K a5 a_2 w).bind fun q6 =>
  f_X12_printName_L21 K o (fun v1_21 v2_21 v3_21 v5_21 w7 =>
    some w7) fu a_1 a_2 q6.1 56 q6.2

def f_X12_saveState (K : Kd) (o : Nat) (w : Wd) : Option (Int32 × Wd) :=
  (chk K 9 (wR w 1206 o)).bind fun a1 =>
  (f_X10_copyFrom K a1 (wR w 1205 o) w).bind fun q2 =>
  (some (sZ q2 1207 o true)).bind fun w3 =>
  (chk K 9 (wR w3 1205 o)).bind fun a4 =>
  some ((wI w3 1001 a4), w3)

def f_X12_restoreState (K : Kd) (o : Nat) (w : Wd) : Option ((Int32 ⊕ Nat) × Wd) :=
  if (b2i (wZ w 1207 o)) = 0 then
    (some (.inr 3, w))
  else
    ((chk K 9 (wR w 1205 o)).bind fun a2 =>
    (f_X10_copyFrom K a2 (wR w 1206 o) w).bind fun q3 =>
    (some (sI q3 1210 o 0)).bind fun w4 =>
    (chk K 9 (wR w4 1205 o)).bind fun a5 =>
    some (.inl (wI w4 1001 a5), w4))

def f_X12_requireExisting (K : Kd) (o : Nat) (a_1 : Int32) (a_2 : Int32) (w : Wd) : Option ((Unit ⊕ Nat) × Wd) :=
  if a_2 < 0 then
    (some (.inr 1, w))
  else
    ((chk K 9 (wR w 1205 o)).bind fun a2 =>
    (chk K 8 (wR w 1000 a2)).bind fun a3 =>
    (f_X9_size K a3 a_1 w).bind fun q4 =>
    if a_2 < q4.1 then
      (some (.inl (), q4.2))
    else
      (some (.inr 1, q4.2)))

def f_X12_requireHearing (K : Kd) (o : Nat) (a_1 : Int32) (a_2 : Int32) (a_3 : Int32) (a_4 : Int32) (a_5 : Int32) (w : Wd) : Option ((Unit ⊕ Nat) × Wd) :=
  (f_X12_requireExisting K o 3 a_1 w).bind fun q1 =>
  xk q1 fun _ =>
  (f_X12_requireExisting K o 0 a_4 q1.2).bind fun q3 =>
  xk q3 fun _ =>
  (f_X12_requireExisting K o 1 a_5 q3.2).bind fun q5 =>
  xk q5 fun _ =>
  (f_X12_requireDay K o a_2 q5.2).bind fun q7 =>
  xk q7 fun _ =>
  (f_X12_requireSlot K o a_3 q7.2).bind fun q9 =>
  xk q9 fun _ =>
  some (.inl (), q9.2)

def f_X13_takesDraft_L2 (K : Kd) (o : Nat) (k : Int32 → Wd → Option Wd) : Nat → Int32 → Wd → Option Wd
  | 0, _, _ => none
  | n + 1, v1_2, w =>
    if 170 ≤ v1_2 then
      (k v1_2 w)
    else
      ((cha K 20 (wR w 1302 o)).bind fun a3 =>
      (ixa v1_2 a3.2).bind fun j4 =>
      (cha K 20 (wR w 1301 o)).bind fun a5 =>
      (ixa v1_2 a5.2).bind fun j6 =>
      (some (tI w a5.1 j6 (aI w a3.1 j4))).bind fun w7 =>
      f_X13_takesDraft_L2 K o k n (v1_2 + 1) w7)

def f_X13_takesDraft (K : Kd) (o : Nat) (w : Wd) : Option Wd :=
  f_X13_takesDraft_L2 K o (fun v1_2 w1 =>
    (f_X13_moves K (wR w1 1333 o) (wR w1 1311 o) w1).bind fun q8 =>
    (f_X13_moves K (wR q8 1334 o) (wR q8 1312 o) q8).bind fun q9 =>
    (f_X13_moves K (wR q9 1335 o) (wR q9 1313 o) q9).bind fun q10 =>
    (f_X13_moves K (wR q10 1336 o) (wR q10 1314 o) q10).bind fun q11 =>
    (f_X13_copies K (wR q11 1304 o) (wR q11 1303 o) q11).bind fun q12 =>
    (some (sI q12 1309 o 0)).bind fun w13 =>
    (some (sZ w13 1310 o false)).bind fun w14 =>
    some w14) fu 0 w

def f_X13_witness (K : Kd) (o : Nat) (a_1 : Int32) (a_2 : Int32) (w : Wd) : Option (Int32 × Wd) :=
  (f_X13_isWitness K o a_1 w).bind fun q1 =>
  if (b2i q1.1) = 0 then
    ((f_X13_is K o false q1.2).bind fun q3 =>
    if (b2i q3.1) = 0 then
      (some (0, q3.2))
    else
      (if a_2 < 0 ∨ 3 < a_2 then
        ((f_X13_needing K o a_1 q3.2).bind fun q6 =>
        some (q6.1, q6.2))
      else if a_2 = 0 then
        ((cha K 20 (wR q3.2 1301 o)).bind fun a8 =>
        (ixa (52 + a_1) a8.2).bind fun j9 =>
        some ((aI q3.2 a8.1 j9), q3.2))
      else if a_2 = 1 then
        ((cha K 20 (wR q3.2 1303 o)).bind fun a11 =>
        (ixa (22 + a_1) a11.2).bind fun j12 =>
        some ((aI q3.2 a11.1 j12), q3.2))
      else if a_2 = 2 then
        ((cha K 20 (wR q3.2 1301 o)).bind fun a14 =>
        (ixa (64 + a_1) a14.2).bind fun j15 =>
        some ((aI q3.2 a14.1 j15), q3.2))
      else if a_2 = 3 then
        ((cha K 20 (wR q3.2 1301 o)).bind fun a17 =>
        (ixa (76 + a_1) a17.2).bind fun j18 =>
        some ((aI q3.2 a17.1 j18), q3.2))
      else none))
  else
    ((f_X13_isIn K (a_2.toInt64) 0 4 q1.2).bind fun q19 =>
    if (b2i q19.1) = 0 then
      ((f_X13_is K o false q19.2).bind fun q21 =>
      if (b2i q21.1) = 0 then
        (some (0, q21.2))
      else
        (if a_2 < 0 ∨ 3 < a_2 then
          ((f_X13_needing K o a_1 q21.2).bind fun q24 =>
          some (q24.1, q24.2))
        else if a_2 = 0 then
          ((cha K 20 (wR q21.2 1301 o)).bind fun a26 =>
          (ixa (52 + a_1) a26.2).bind fun j27 =>
          some ((aI q21.2 a26.1 j27), q21.2))
        else if a_2 = 1 then
          ((cha K 20 (wR q21.2 1303 o)).bind fun a29 =>
          (ixa (22 + a_1) a29.2).bind fun j30 =>
          some ((aI q21.2 a29.1 j30), q21.2))
        else if a_2 = 2 then
          ((cha K 20 (wR q21.2 1301 o)).bind fun a32 =>
          (ixa (64 + a_1) a32.2).bind fun j33 =>
          some ((aI q21.2 a32.1 j33), q21.2))
        else if a_2 = 3 then
          ((cha K 20 (wR q21.2 1301 o)).bind fun a35 =>
          (ixa (76 + a_1) a35.2).bind fun j36 =>
          some ((aI q21.2 a35.1 j36), q21.2))
        else none))
    else
      ((f_X13_is K o true q19.2).bind fun q37 =>
      if (b2i q37.1) = 0 then
        (some (0, q37.2))
      else
        (if a_2 < 0 ∨ 3 < a_2 then
          ((f_X13_needing K o a_1 q37.2).bind fun q40 =>
          some (q40.1, q40.2))
        else if a_2 = 0 then
          ((cha K 20 (wR q37.2 1301 o)).bind fun a42 =>
          (ixa (52 + a_1) a42.2).bind fun j43 =>
          some ((aI q37.2 a42.1 j43), q37.2))
        else if a_2 = 1 then
          ((cha K 20 (wR q37.2 1303 o)).bind fun a45 =>
          (ixa (22 + a_1) a45.2).bind fun j46 =>
          some ((aI q37.2 a45.1 j46), q37.2))
        else if a_2 = 2 then
          ((cha K 20 (wR q37.2 1301 o)).bind fun a48 =>
          (ixa (64 + a_1) a48.2).bind fun j49 =>
          some ((aI q37.2 a48.1 j49), q37.2))
        else if a_2 = 3 then
          ((cha K 20 (wR q37.2 1301 o)).bind fun a51 =>
          (ixa (76 + a_1) a51.2).bind fun j52 =>
          some ((aI q37.2 a51.1 j52), q37.2))
        else none)))

def f_X1_prepare_L84 (K : Kd) (o : Nat) (k : Option Nat → Int32 → Int32 → Wd → Option Wd) : Nat → Option Nat → Int32 → Int32 → Wd → Option Wd
  | 0, _, _, _, _ => none
  | n + 1, v1_84, v2_84, v3_84, w =>
    if (wI w 104 o) ≤ v3_84 then
      (k v1_84 v2_84 v3_84 w)
    else
      ((cha K 20 (wR w 101 o)).bind fun a27 =>
      (ixa v3_84 a27.2).bind fun j28 =>
      (cha K 20 (wR w 102 o)).bind fun a29 =>
      (ixa v2_84 a29.2).bind fun j30 =>
      (f_X12_has K (aI w a29.1 j30) v3_84 w).bind fun q31 =>
      if (b2i q31.1) = 0 then
        ((ixa v3_84 a27.2).bind fun j33 =>
        (some (tI q31.2 a27.1 j33 ((aI w a27.1 j28) ||| 0))).bind fun w34 =>
        f_X1_prepare_L84 K o k n v1_84 v2_84 (v3_84 + 1) w34)
      else
        ((ixa v3_84 a27.2).bind fun j35 =>
        (some (tI q31.2 a27.1 j35 ((aI w a27.1 j28) ||| (1 <<< (v2_84 &&& 31))))).bind fun w36 =>
        f_X1_prepare_L84 K o k n v1_84 v2_84 (v3_84 + 1) w36))

def f_X1_prepare_L34 (K : Kd) (o : Nat) (k : Option Nat → Int32 → Wd → Option Wd) : Nat → Option Nat → Int32 → Wd → Option Wd
  | 0, _, _, _ => none
  | n + 1, v1_34, v2_34, w =>
    if (wI w 103 o) ≤ v2_34 then
      (k v1_34 v2_34 w)
    else
      ((chk K 9 v1_34).bind fun a11 =>
      (chk K 8 (wR w 1000 a11)).bind fun a12 =>
      (cha K 25 (wR w 909 a12)).bind fun a13 =>
      (ixa v2_34 a13.2).bind fun j14 =>
      (chk K 2 (aR w a13.1 j14)).bind fun a15 =>
      (cha K 20 (wR w 100 o)).bind fun a16 =>
      (ixa v2_34 a16.2).bind fun j17 =>
      (some (tI w a16.1 j17 (wI w 305 a15))).bind fun w18 =>
      (f_X12_allOf K (wI w18 104 o) w18).bind fun q19 =>
      (cha K 20 (wR q19.2 1004 a11)).bind fun a20 =>
      (ixa v2_34 a20.2).bind fun j21 =>
      (cha K 20 (wR w18 102 o)).bind fun a22 =>
      (ixa v2_34 a22.2).bind fun j23 =>
      (some (tI q19.2 a22.1 j23 (q19.1 &&& ((aI q19.2 a20.1 j21) ^^^ (-1))))).bind fun w24 =>
      f_X1_prepare_L84 K o (fun v1_84 v2_84 v3_84 w25 =>
        f_X1_prepare_L34 K o k n v1_84 (v2_84 + 1) w25) fu v1_34 v2_34 0 w24)

def f_X1_prepare (K : Kd) (o : Nat) (a_1 : Option Nat) (w : Wd) : Option Wd :=
  (chk K 9 a_1).bind fun a1 =>
  (chk K 8 (wR w 1000 a1)).bind fun a2 =>
  (f_X9_size K a2 3 w).bind fun q3 =>
  (some (sI q3.2 103 o q3.1)).bind fun w4 =>
  (chk K 8 (wR w4 1000 a1)).bind fun a5 =>
  (f_X9_size K a5 1 w4).bind fun q6 =>
  (some (sI q6.2 104 o q6.1)).bind fun w7 =>
  (f_J7_fill_53178 K (wR w7 101 o) 0 w7).bind fun q8 =>
  f_X1_prepare_L34 K o (fun v1_34 v2_34 w9 =>
    some w9) fu a_1 0 q8

def f_X1_hardest_L10 (K : Kd) (o : Nat) (k : Int32 → Int32 → Int32 → Int32 → Int32 → Int32 → Wd → Option (Int32 × Wd)) : Nat → Int32 → Int32 → Int32 → Int32 → Int32 → Int32 → Wd → Option (Int32 × Wd)
  | 0, _, _, _, _, _, _, _ => none
  | n + 1, v1_10, v2_10, v3_10, v4_10, v5_10, v6_10, w =>
    if (wI w 103 o) ≤ v6_10 then
      (k v1_10 v2_10 v3_10 v4_10 v5_10 v6_10 w)
    else
      ((f_X12_has K v2_10 v6_10 w).bind fun q3 =>
      if (b2i q3.1) = 0 then
        (f_X1_hardest_L10 K o k n v1_10 v2_10 v3_10 v4_10 v5_10 (v6_10 + 1) q3.2)
      else
        ((cha K 20 (wR q3.2 102 o)).bind fun a5 =>
        (ixa ((v1_10 * 12) + v6_10) a5.2).bind fun j6 =>
        (f_J6_bitCount_0f7a4 K ((aI q3.2 a5.1 j6) &&& v3_10) q3.2).bind fun q7 =>
        (cha K 20 (wR q7.2 100 o)).bind fun a8 =>
        (ixa v6_10 a8.2).bind fun j9 =>
        (f_J6_bitCount_0f7a4 K ((aI q7.2 a8.1 j9) &&& v2_10) q7.2).bind fun q10 =>
        if v5_10 ≤ (((q7.1 + 1) * 12) - q10.1) then
          (f_X1_hardest_L10 K o k n v1_10 v2_10 v3_10 v4_10 v5_10 (v6_10 + 1) q10.2)
        else
          (f_X1_hardest_L10 K o k n v1_10 v2_10 v3_10 v6_10 (((q7.1 + 1) * 12) - q10.1) (v6_10 + 1) q10.2)))

def f_X1_hardest (K : Kd) (o : Nat) (a_1 : Int32) (a_2 : Int32) (a_3 : Int32) (w : Wd) : Option (Int32 × Wd) :=
  f_X1_hardest_L10 K o (fun v1_10 v2_10 v3_10 v4_10 v5_10 v6_10 w1 =>
    some (v4_10, w1)) fu a_1 a_2 a_3 0 96 0 w

def f_X2_clear (K : Kd) (o : Nat) (w : Wd) : Option Wd :=
  (f_J7_fill_53178 K (wR w 200 o) 0 w).bind fun q1 =>
  (some (sI q1 201 o 0)).bind fun w2 =>
  some w2

def f_X6_setFound (K : Kd) (o : Nat) (a_1 : Option Nat) (a_2 : Int32) (w : Wd) : Option Wd :=
  (chk K 9 a_1).bind fun a1 =>
  (cha K 27 (wR w 1005 a1)).bind fun a2 =>
  (ixa a_2 a2.2).bind fun j3 =>
  (chk K 6 (aR w a2.1 j3)).bind fun a4 =>
  (f_X7_setHearing K a4 (wI w 608 o) (wI w 609 o) (wI w 610 o) (wI w 611 o) w).bind fun q5 =>
  some q5

def f_X6_lastDay (K : Kd) (a_0 : Option Nat) (a_1 : Int32) (w : Wd) : Option (Int32 × Wd) :=
  (chk K 9 a_0).bind fun a1 =>
  (f_X10_limitDay K a1 a_1 w).bind fun q2 =>
  some ((imin q2.1 599), q2.2)

def f_X6_findIn_L14 (K : Kd) (o : Nat) (k : Option Nat → Int32 → Int32 → Int32 → Wd → Option (Bool × Wd)) : Nat → Option Nat → Int32 → Int32 → Int32 → Wd → Option (Bool × Wd)
  | 0, _, _, _, _, _ => none
  | n + 1, v1_14, v2_14, v3_14, v4_14, w =>
    (chk K 8 v1_14).bind fun a5 =>
    (f_X9_size K a5 0 w).bind fun q6 =>
    if q6.1 ≤ v4_14 then
      (k v1_14 v2_14 v3_14 v4_14 q6.2)
    else
      (if v3_14 = (-1) then
        (k v1_14 v2_14 v3_14 v4_14 q6.2)
      else
        ((cha K 20 (wR q6.2 600 o)).bind fun a9 =>
        (ixa v4_14 a9.2).bind fun j10 =>
        (cha K 20 (wR q6.2 901 a5)).bind fun a11 =>
        (ixa v4_14 a11.2).bind fun j12 =>
        if (v2_14 &&& ((aI q6.2 a9.1 j10) ||| ((aI q6.2 a11.1 j12) ^^^ (-1)))) = 0 then
          ((some (sI q6.2 610 o v4_14)).bind fun w14 =>
          (some (sI w14 611 o v3_14)).bind fun w15 =>
          some (true, w15))
        else
          (f_X6_findIn_L14 K o k n v1_14 v2_14 v3_14 (v4_14 + 1) q6.2)))

def f_X6_findIn (K : Kd) (o : Nat) (a_1 : Option Nat) (a_2 : Int32) (w : Wd) : Option (Bool × Wd) :=
  (chk K 8 a_1).bind fun a1 =>
  (f_X9_size K a1 1 w).bind fun q2 =>
  (f_X6_leastLoaded K o q2.1 a_2 q2.2).bind fun q3 =>
  f_X6_findIn_L14 K o (fun v1_14 v2_14 v3_14 v4_14 w4 =>
    some (false, w4)) fu a_1 a_2 q3.1 0 q3.2

def f_X6_lookAtOfficers_L11 (K : Kd) (o : Nat) (k : Option Nat → Int32 → Int32 → Wd → Option Wd) : Nat → Option Nat → Int32 → Int32 → Wd → Option Wd
  | 0, _, _, _, _ => none
  | n + 1, v1_11, v2_11, v3_11, w =>
    (chk K 9 v1_11).bind fun a5 =>
    (chk K 8 (wR w 1000 a5)).bind fun a6 =>
    (f_X9_size K a6 1 w).bind fun q7 =>
    if q7.1 ≤ v3_11 then
      (k v1_11 v2_11 v3_11 q7.2)
    else
      ((f_X10_loadOf K a5 v3_11 q7.2).bind fun q9 =>
      (cha K 20 (wR q7.2 602 o)).bind fun a10 =>
      (ixa v3_11 a10.2).bind fun j11 =>
      (some (tI q9.2 a10.1 j11 q9.1)).bind fun w12 =>
      f_X6_lookAtOfficers_L11 K o k n v1_11 v2_11 (v3_11 + 1) w12)

def f_X6_lookAtOfficers (K : Kd) (o : Nat) (a_1 : Option Nat) (a_2 : Int32) (w : Wd) : Option Wd :=
  (chk K 9 a_1).bind fun a1 =>
  (f_X10_barredOfficers K a1 a_2 w).bind fun q2 =>
  (some (sI q2.2 604 o q2.1)).bind fun w3 =>
  f_X6_lookAtOfficers_L11 K o (fun v1_11 v2_11 v3_11 w4 =>
    some w4) fu a_1 a_2 0 w3

def f_X6_lookAtDay_L66 (K : Kd) (o : Nat) (k : Option Nat → Int32 → Int32 → Int32 → Option Nat → Int32 → Int32 → Wd → Option Wd) : Nat → Option Nat → Int32 → Int32 → Int32 → Option Nat → Int32 → Int32 → Wd → Option Wd
  | 0, _, _, _, _, _, _, _, _ => none
  | n + 1, v1_66, v2_66, v3_66, v4_66, v5_66, v6_66, v7_66, w =>
    (chk K 8 v5_66).bind fun a14 =>
    (f_X9_size K a14 3 w).bind fun q15 =>
    if q15.1 ≤ v7_66 then
      (k v1_66 v2_66 v3_66 v4_66 v5_66 v6_66 v7_66 q15.2)
    else
      ((chk K 9 v1_66).bind fun a17 =>
      (cha K 27 (wR q15.2 1005 a17)).bind fun a18 =>
      (ixa v7_66 a18.2).bind fun j19 =>
      if v7_66 = v2_66 then
        (f_X6_lookAtDay_L66 K o k n v1_66 v2_66 v3_66 v4_66 v5_66 v6_66 (v7_66 + 1) q15.2)
      else
        ((chk K 6 (aR q15.2 a18.1 j19)).bind fun a21 =>
        (f_X7_isOn K a21 v3_66 q15.2).bind fun q22 =>
        if (b2i q22.1) = 0 then
          (f_X6_lookAtDay_L66 K o k n v1_66 v2_66 v3_66 v4_66 v5_66 v6_66 (v7_66 + 1) q22.2)
        else
          ((f_X10_slotsOf K a17 v7_66 q22.2).bind fun q24 =>
          (f_X6_take K (wR q24.2 600 o) (wI q24.2 704 a21) q24.1 q24.2).bind fun q25 =>
          (f_X6_take K (wR q25 601 o) (wI q25 705 a21) q24.1 q25).bind fun q26 =>
          (cha K 25 (wR q26 909 a14)).bind fun a27 =>
          (ixa v7_66 a27.2).bind fun j28 =>
          (chk K 2 (aR q26 a27.1 j28)).bind fun a29 =>
          if (v6_66 &&& (wI q26 304 a29)) = 0 then
            ((some (sI q26 607 o ((wI q26 607 o) ||| 0))).bind fun w31 =>
            f_X6_lookAtDay_L66 K o k n v1_66 v2_66 v3_66 v4_66 v5_66 v6_66 (v7_66 + 1) w31)
          else
            ((some (sI q26 607 o ((wI q26 607 o) ||| q24.1))).bind fun w32 =>
            f_X6_lookAtDay_L66 K o k n v1_66 v2_66 v3_66 v4_66 v5_66 v6_66 (v7_66 + 1) w32))))

def f_X6_lookAtDay (K : Kd) (o : Nat) (a_1 : Option Nat) (a_2 : Int32) (a_3 : Int32) (a_4 : Int32) (w : Wd) : Option Wd :=
  (chk K 9 a_1).bind fun a1 =>
  (chk K 8 (wR w 1000 a1)).bind fun a2 =>
  (cha K 25 (wR w 909 a2)).bind fun a3 =>
  (ixa a_2 a3.2).bind fun j4 =>
  (chk K 2 (aR w a3.1 j4)).bind fun a5 =>
  (f_J7_fill_53178 K (wR w 600 o) 0 w).bind fun q6 =>
  (f_J7_fill_53178 K (wR q6 601 o) 0 q6).bind fun q7 =>
  (some (sI q7 607 o 0)).bind fun w8 =>
  (f_X9_awayOfficers K a2 a_3 w8).bind fun q9 =>
  (some (sI q9.2 605 o (a_4 ||| q9.1))).bind fun w10 =>
  (f_X10_slotsOutside K a1 (wI w 304 a5) a_3 w10).bind fun q11 =>
  (some (sI q11.2 606 o q11.1)).bind fun w12 =>
  f_X6_lookAtDay_L66 K o (fun v1_66 v2_66 v3_66 v4_66 v5_66 v6_66 v7_66 w13 =>
    some w13) fu a_1 a_2 a_3 a_4 (wR w 1000 a1) (wI w 304 a5) 0 w12

def f_X7_clear (K : Kd) (o : Nat) (w : Wd) : Option Wd :=
  (some (sI w 701 o 0)).bind fun w1 =>
  (some (sI w1 706 o 0)).bind fun w2 =>
  (f_X7_dropHearing K o w2).bind fun q3 =>
  some q3

def f_X8_advance_L0 (K : Kd) (o : Nat) (k : Wd → Option Wd) : Nat → Wd → Option Wd
  | 0, _ => none
  | n + 1, w =>
    if (wI w 801 o) ≤ (wI w 803 o) then
      (k w)
    else
      ((cha K 21 (wR w 800 o)).bind fun a3 =>
      (ixa (wI w 803 o) a3.2).bind fun j4 =>
      if (aI w a3.1 j4) = 32 then
        ((some (sI w 803 o ((wI w 803 o) + 1))).bind fun w6 =>
        f_X8_advance_L0 K o k n w6)
      else
        ((ixa (wI w 803 o) a3.2).bind fun j7 =>
        if (aI w a3.1 j7) = 10 then
          ((some (sI w 803 o ((wI w 803 o) + 1))).bind fun w9 =>
          f_X8_advance_L0 K o k n w9)
        else
          (k w)))

def f_X8_advance_L216 (K : Kd) (o : Nat) (k : Wd → Option Wd) : Nat → Wd → Option Wd
  | 0, _ => none
  | n + 1, w =>
    if (wI w 801 o) ≤ (wI w 803 o) then
      (k w)
    else
      ((cha K 21 (wR w 800 o)).bind fun a31 =>
      (ixa (wI w 803 o) a31.2).bind fun j32 =>
      (f_X8_isDigit K (aI w a31.1 j32) w).bind fun q33 =>
      if (b2i q33.1) = 0 then
        (k q33.2)
      else
        ((cha K 21 (wR q33.2 800 o)).bind fun a35 =>
        (ixa (wI q33.2 803 o) a35.2).bind fun j36 =>
        (some (sI q33.2 806 o (((wI q33.2 806 o) * 10) + ((aI q33.2 a35.1 j36) - 48)))).bind fun w37 =>
        (some (sI w37 803 o ((wI w37 803 o) + 1))).bind fun w38 =>
        f_X8_advance_L216 K o k n w38))

def f_X8_advance_L106 (K : Kd) (o : Nat) (k : Wd → Option Wd) : Nat → Wd → Option Wd
  | 0, _ => none
  | n + 1, w =>
    if (wI w 801 o) ≤ (wI w 803 o) then
      (k w)
    else
      ((cha K 21 (wR w 800 o)).bind fun a44 =>
      (ixa (wI w 803 o) a44.2).bind fun j45 =>
      (f_X12_isLetter K (aI w a44.1 j45) w).bind fun q46 =>
      if (b2i q46.1) = 0 then
        (k q46.2)
      else
        ((cha K 21 (wR q46.2 800 o)).bind fun a48 =>
        (ixa (wI q46.2 803 o) a48.2).bind fun j49 =>
        (some (sJ q46.2 805 o ((lsl (wJ q46.2 805 o) 8) ||| ((aI q46.2 a48.1 j49).toInt64)))).bind fun w50 =>
        (some (sI w50 803 o ((wI w50 803 o) + 1))).bind fun w51 =>
        f_X8_advance_L106 K o k n w51))

def f_X8_advance (K : Kd) (o : Nat) (w : Wd) : Option Wd :=
  f_X8_advance_L0 K o (fun w1 =>
    (some (sI w1 802 o (wI w1 803 o))).bind fun w10 =>
    (some (sJ w10 805 o 0)).bind fun w11 =>
    (some (sI w11 806 o 0)).bind fun w12 =>
    if (wI w12 803 o) < (wI w12 801 o) then
      ((cha K 21 (wR w12 800 o)).bind fun a14 =>
      (ixa (wI w12 803 o) a14.2).bind fun j15 =>
      (f_X12_isLetter K (aI w12 a14.1 j15) w12).bind fun q16 =>
      if (b2i q16.1) = 0 then
        ((cha K 21 (wR q16.2 800 o)).bind fun a18 =>
        (ixa (wI q16.2 803 o) a18.2).bind fun j19 =>
        (f_X8_isDigit K (aI q16.2 a18.1 j19) q16.2).bind fun q20 =>
        if (b2i q20.1) = 0 then
          ((cha K 21 (wR q20.2 800 o)).bind fun a22 =>
          (ixa (wI q20.2 803 o) a22.2).bind fun j23 =>
          if (aI q20.2 a22.1 j23) = 59 then
            ((some (sR q20.2 804 o (some 18))).bind fun w27 =>
            (some (sI w27 803 o ((wI w27 803 o) + 1))).bind fun w28 =>
            some w28)
          else
            ((some (sR q20.2 804 o (some 20))).bind fun w25 =>
            (some (sI w25 803 o ((wI w25 803 o) + 1))).bind fun w26 =>
            some w26))
        else
          (f_X8_advance_L216 K o (fun w29 =>
            if ((wI w29 803 o) - (wI w29 802 o)) ≤ 3 then
              ((some (sR w29 804 o (some 17))).bind fun w40 =>
              some w40)
            else
              ((some (sR w29 804 o (some 20))).bind fun w41 =>
              some w41)) fu  q20.2))
      else
        (f_X8_advance_L106 K o (fun w42 =>
          if ((wI w42 803 o) - (wI w42 802 o)) ≤ 8 then
            ((f_X11_ofWord K (wJ w42 805 o) w42).bind fun q53 =>
            (some (sR q53.2 804 o q53.1)).bind fun w54 =>
            some w54)
          else
            ((some (sR w42 804 o (some 20))).bind fun w55 =>
            some w55)) fu  q16.2))
    else
      ((some (sR w12 804 o (some 19))).bind fun w56 =>
      some w56)) fu  w

def f_X9_clear_L2 (K : Kd) (o : Nat) (k : Int32 → Wd → Option Wd) : Nat → Int32 → Wd → Option Wd
  | 0, _, _ => none
  | n + 1, v1_2, w =>
    if 4 ≤ v1_2 then
      (k v1_2 w)
    else
      ((cha K 26 (wR w 900 o)).bind fun a3 =>
      (ixa v1_2 a3.2).bind fun j4 =>
      (chk K 3 (aR w a3.1 j4)).bind fun a5 =>
      (some (sI w 401 a5 0)).bind fun w6 =>
      f_X9_clear_L2 K o k n (v1_2 + 1) w6)

def f_X9_clear_L25 (K : Kd) (o : Nat) (k : Int32 → Wd → Option Wd) : Nat → Int32 → Wd → Option Wd
  | 0, _, _ => none
  | n + 1, v1_25, w =>
    if 12 ≤ v1_25 then
      (k v1_25 w)
    else
      ((cha K 25 (wR w 909 o)).bind fun a9 =>
      (ixa v1_25 a9.2).bind fun j10 =>
      (chk K 2 (aR w a9.1 j10)).bind fun a11 =>
      (f_X3_clear K a11 w).bind fun q12 =>
      f_X9_clear_L25 K o k n (v1_25 + 1) q12)

def f_X9_clear (K : Kd) (o : Nat) (w : Wd) : Option Wd :=
  f_X9_clear_L2 K o (fun v1_2 w1 =>
    f_X9_clear_L25 K o (fun v1_25 w7 =>
      (f_J7_fill_53178 K (wR w7 902 o) 0 w7).bind fun q13 =>
      (chk K 1 (wR q13 910 o)).bind fun a14 =>
      (f_X2_clear K a14 q13).bind fun q15 =>
      (cha K 20 (wR q15 911 o)).bind fun a16 =>
      (ixa 0 a16.2).bind fun j17 =>
      (some (tI q15 a16.1 j17 10)).bind fun w18 =>
      (cha K 20 (wR w18 911 o)).bind fun a19 =>
      (ixa 1 a19.2).bind fun j20 =>
      (some (tI w18 a19.1 j20 5)).bind fun w21 =>
      (cha K 20 (wR w21 911 o)).bind fun a22 =>
      (ixa 2 a22.2).bind fun j23 =>
      (some (tI w21 a22.1 j23 0)).bind fun w24 =>
      (cha K 20 (wR w24 911 o)).bind fun a25 =>
      (ixa 3 a25.2).bind fun j26 =>
      (some (tI w24 a25.1 j26 0)).bind fun w27 =>
      (some (sI w27 912 o 0)).bind fun w28 =>
      (some (sI w28 913 o 15)).bind fun w29 =>
      (some (sZ w29 914 o false)).bind fun w30 =>
      some w30) fu 0 w1) fu 0 w

def f_X9_countConflicts_L4 (K : Kd) (o : Nat) (k : Int32 → Int32 → Wd → Option (Int32 × Wd)) : Nat → Int32 → Int32 → Wd → Option (Int32 × Wd)
  | 0, _, _, _ => none
  | n + 1, v1_4, v2_4, w =>
    (f_X9_size K o 3 w).bind fun q2 =>
    if q2.1 ≤ v2_4 then
      (k v1_4 v2_4 q2.2)
    else
      ((cha K 25 (wR q2.2 909 o)).bind fun a4 =>
      (ixa v2_4 a4.2).bind fun j5 =>
      (chk K 2 (aR q2.2 a4.1 j5)).bind fun a6 =>
      (f_J6_bitCount_0f7a4 K (wI q2.2 305 a6) q2.2).bind fun q7 =>
      f_X9_countConflicts_L4 K o k n (v1_4 + q7.1) (v2_4 + 1) q7.2)

def f_X9_countConflicts (K : Kd) (o : Nat) (w : Wd) : Option (Int32 × Wd) :=
  f_X9_countConflicts_L4 K o (fun v1_4 v2_4 w1 =>
    some ((v1_4 / 2), w1)) fu 0 0 w

def f_X10_init (K : Kd) (n : Nat) (o : Nat) (a_1 : Option Nat) (w : Wd) : Option (Kd × Nat × Wd) :=
  (some (kup K n (1, 0))).bind fun K1 =>
  (some (clr w n)).bind fun w2 =>
  (f_X2_init K1 (n + 1) n w2).bind fun q3 =>
  (chk q3.1 9 (some o)).bind fun a4 =>
  (some (sR q3.2.2 1002 a4 (some n))).bind fun w5 =>
  (some (kup q3.1 q3.2.1 (20, 12))).bind fun K6 =>
  (some (clr w5 q3.2.1)).bind fun w7 =>
  (chk K6 9 (some o)).bind fun a8 =>
  (some (sR w7 1003 a8 (some q3.2.1))).bind fun w9 =>
  (some (kup K6 (q3.2.1 + 1) (20, 12))).bind fun K10 =>
  (some (clr w9 (q3.2.1 + 1))).bind fun w11 =>
  (chk K10 9 (some o)).bind fun a12 =>
  (some (sR w11 1004 a12 (some (q3.2.1 + 1)))).bind fun w13 =>
  (some (kup K10 ((q3.2.1 + 1) + 1) (27, 12))).bind fun K14 =>
  (some (clr w13 ((q3.2.1 + 1) + 1))).bind fun w15 =>
  (chk K14 9 (some o)).bind fun a16 =>
  (some (sR w15 1005 a16 (some ((q3.2.1 + 1) + 1)))).bind fun w17 =>
  (some (sR w17 1000 a16 a_1)).bind fun w18 =>
  (some (kup K14 (((q3.2.1 + 1) + 1) + 1) (6, 0))).bind fun K20 =>
  (some (clr w18 (((q3.2.1 + 1) + 1) + 1))).bind fun w21 =>
  (f_X7_init K20 ((((q3.2.1 + 1) + 1) + 1) + 1) (((q3.2.1 + 1) + 1) + 1) w21).bind fun q22 =>
  (cha q22.1 27 (wR w18 1005 a16)).bind fun a23 =>
  (ixa 0 a23.2).bind fun j24 =>
  (chk q22.1 6 (some (((q3.2.1 + 1) + 1) + 1))).bind fun a25 =>
  (some (tR q22.2.2 a23.1 j24 (some a25))).bind fun w26 =>
  (chk q22.1 9 (some o)).bind fun a27 =>
  (cha q22.1 27 (wR w26 1005 a27)).bind fun a28 =>
  (ixa 0 a28.2).bind fun j29 =>
  (chk q22.1 6 (aR w26 a28.1 j29)).bind fun a30 =>
  (f_X7_clear q22.1 a30 w26).bind fun q31 =>
  (some (kup q22.1 q22.2.1 (6, 0))).bind fun K33 =>
  (some (clr q31 q22.2.1)).bind fun w34 =>
  (f_X7_init K33 (q22.2.1 + 1) q22.2.1 w34).bind fun q35 =>
  (cha q35.1 27 (wR q31 1005 a27)).bind fun a36 =>
  (ixa 1 a36.2).bind fun j37 =>
  (chk q35.1 6 (some q22.2.1)).bind fun a38 =>
  (some (tR q35.2.2 a36.1 j37 (some a38))).bind fun w39 =>
  (chk q35.1 9 (some o)).bind fun a40 =>
  (cha q35.1 27 (wR w39 1005 a40)).bind fun a41 =>
  (ixa 1 a41.2).bind fun j42 =>
  (chk q35.1 6 (aR w39 a41.1 j42)).bind fun a43 =>
  (f_X7_clear q35.1 a43 w39).bind fun q44 =>
  (some (kup q35.1 q35.2.1 (6, 0))).bind fun K46 =>
  (some (clr q44 q35.2.1)).bind fun w47 =>
  (f_X7_init K46 (q35.2.1 + 1) q35.2.1 w47).bind fun q48 =>
  (cha q48.1 27 (wR q44 1005 a40)).bind fun a49 =>
  (ixa 2 a49.2).bind fun j50 =>
  (chk q48.1 6 (some q35.2.1)).bind fun a51 =>
  (some (tR q48.2.2 a49.1 j50 (some a51))).bind fun w52 =>
  (chk q48.1 9 (some o)).bind fun a53 =>
  (cha q48.1 27 (wR w52 1005 a53)).bind fun a54 =>
  (ixa 2 a54.2).bind fun j55 =>
  (chk q48.1 6 (aR w52 a54.1 j55)).bind fun a56 =>
  (f_X7_clear q48.1 a56 w52).bind fun q57 =>
  (some (kup q48.1 q48.2.1 (6, 0))).bind fun K59 =>
  (some (clr q57 q48.2.1)).bind fun w60 =>
  (f_X7_init K59 (q48.2.1 + 1) q48.2.1 w60).bind fun q61 =>
  (cha q61.1 27 (wR q57 1005 a53)).bind fun a62 =>
  (ixa 3 a62.2).bind fun j63 =>
  (chk q61.1 6 (some q48.2.1)).bind fun a64 =>
  (some (tR q61.2.2 a62.1 j63 (some a64))).bind fun w65 =>
  (chk q61.1 9 (some o)).bind fun a66 =>
  (cha q61.1 27 (wR w65 1005 a66)).bind fun a67 =>
  (ixa 3 a67.2).bind fun j68 =>
  (chk q61.1 6 (aR w65 a67.1 j68)).bind fun a69 =>
  (f_X7_clear q61.1 a69 w65).bind fun q70 =>
  (some (kup q61.1 q61.2.1 (6, 0))).bind fun K72 =>
  (some (clr q70 q61.2.1)).bind fun w73 =>
  (f_X7_init K72 (q61.2.1 + 1) q61.2.1 w73).bind fun q74 =>
  (cha q74.1 27 (wR q70 1005 a66)).bind fun a75 =>
  (ixa 4 a75.2).bind fun j76 =>
  (chk q74.1 6 (some q61.2.1)).bind fun a77 =>
  (some (tR q74.2.2 a75.1 j76 (some a77))).bind fun w78 =>
  (chk q74.1 9 (some o)).bind fun a79 =>
  (cha q74.1 27 (wR w78 1005 a79)).bind fun a80 =>
  (ixa 4 a80.2).bind fun j81 =>
  (chk q74.1 6 (aR w78 a80.1 j81)).bind fun a82 =>
  (f_X7_clear q74.1 a82 w78).bind fun q83 =>
  (some (kup q74.1 q74.2.1 (6, 0))).bind fun K85 =>
  (some (clr q83 q74.2.1)).bind fun w86 =>
  (f_X7_init K85 (q74.2.1 + 1) q74.2.1 w86).bind fun q87 =>
  (cha q87.1 27 (wR q83 1005 a79)).bind fun a88 =>
  (ixa 5 a88.2).bind fun j89 =>
  (chk q87.1 6 (some q74.2.1)).bind fun a90 =>
  (some (tR q87.2.2 a88.1 j89 (some a90))).bind fun w91 =>
  (chk q87.1 9 (some o)).bind fun a92 =>
  (cha q87.1 27 (wR w91 1005 a92)).bind fun a93 =>
  (ixa 5 a93.2).bind fun j94 =>
  (chk q87.1 6 (aR w91 a93.1 j94)).bind fun a95 =>
  (f_X7_clear q87.1 a95 w91).bind fun q96 =>
  (some (kup q87.1 q87.2.1 (6, 0))).bind fun K98 =>
  (some (clr q96 q87.2.1)).bind fun w99 =>
  (f_X7_init K98 (q87.2.1 + 1) q87.2.1 w99).bind fun q100 =>
  (cha q100.1 27 (wR q96 1005 a92)).bind fun a101 =>
  (ixa 6 a101.2).bind fun j102 =>
  (chk q100.1 6 (some q87.2.1)).bind fun a103 =>
  (some (tR q100.2.2 a101.1 j102 (some a103))).bind fun w104 =>
  (chk q100.1 9 (some o)).bind fun a105 =>
  (cha q100.1 27 (wR w104 1005 a105)).bind fun a106 =>
  (ixa 6 a106.2).bind fun j107 =>
  (chk q100.1 6 (aR w104 a106.1 j107)).bind fun a108 =>
  (f_X7_clear q100.1 a108 w104).bind fun q109 =>
  (some (kup q100.1 q100.2.1 (6, 0))).bind fun K111 =>
  (some (clr q109 q100.2.1)).bind fun w112 =>
  (f_X7_init K111 (q100.2.1 + 1) q100.2.1 w112).bind fun q113 =>
  (cha q113.1 27 (wR q109 1005 a105)).bind fun a114 =>
  (ixa 7 a114.2).bind fun j115 =>
  (chk q113.1 6 (some q100.2.1)).bind fun a116 =>
  (some (tR q113.2.2 a114.1 j115 (some a116))).bind fun w117 =>
  (chk q113.1 9 (some o)).bind fun a118 =>
  (cha q113.1 27 (wR w117 1005 a118)).bind fun a119 =>
  (ixa 7 a119.2).bind fun j120 =>
  (chk q113.1 6 (aR w117 a119.1 j120)).bind fun a121 =>
  (f_X7_clear q113.1 a121 w117).bind fun q122 =>
  (some (kup q113.1 q113.2.1 (6, 0))).bind fun K124 =>
  (some (clr q122 q113.2.1)).bind fun w125 =>
  (f_X7_init K124 (q113.2.1 + 1) q113.2.1 w125).bind fun q126 =>
  (cha q126.1 27 (wR q122 1005 a118)).bind fun a127 =>
  (ixa 8 a127.2).bind fun j128 =>
  (chk q126.1 6 (some q113.2.1)).bind fun a129 =>
  (some (tR q126.2.2 a127.1 j128 (some a129))).bind fun w130 =>
  (chk q126.1 9 (some o)).bind fun a131 =>
  (cha q126.1 27 (wR w130 1005 a131)).bind fun a132 =>
  (ixa 8 a132.2).bind fun j133 =>
  (chk q126.1 6 (aR w130 a132.1 j133)).bind fun a134 =>
  (f_X7_clear q126.1 a134 w130).bind fun q135 =>
  (some (kup q126.1 q126.2.1 (6, 0))).bind fun K137 =>
  (some (clr q135 q126.2.1)).bind fun w138 =>
  (f_X7_init K137 (q126.2.1 + 1) q126.2.1 w138).bind fun q139 =>
  (cha q139.1 27 (wR q135 1005 a131)).bind fun a140 =>
  (ixa 9 a140.2).bind fun j141 =>
  (chk q139.1 6 (some q126.2.1)).bind fun a142 =>
  (some (tR q139.2.2 a140.1 j141 (some a142))).bind fun w143 =>
  (chk q139.1 9 (some o)).bind fun a144 =>
  (cha q139.1 27 (wR w143 1005 a144)).bind fun a145 =>
  (ixa 9 a145.2).bind fun j146 =>
  (chk q139.1 6 (aR w143 a145.1 j146)).bind fun a147 =>
  (f_X7_clear q139.1 a147 w143).bind fun q148 =>
  (some (kup q139.1 q139.2.1 (6, 0))).bind fun K150 =>
  (some (clr q148 q139.2.1)).bind fun w151 =>
  (f_X7_init K150 (q139.2.1 + 1) q139.2.1 w151).bind fun q152 =>
  (cha q152.1 27 (wR q148 1005 a144)).bind fun a153 =>
  (ixa 10 a153.2).bind fun j154 =>
  (chk q152.1 6 (some q139.2.1)).bind fun a155 =>
  (some (tR q152.2.2 a153.1 j154 (some a155))).bind fun w156 =>
  (chk q152.1 9 (some o)).bind fun a157 =>
  (cha q152.1 27 (wR w156 1005 a157)).bind fun a158 =>
  (ixa 10 a158.2).bind fun j159 =>
  (chk q152.1 6 (aR w156 a158.1 j159)).bind fun a160 =>
  (f_X7_clear q152.1 a160 w156).bind fun q161 =>
  (some (kup q152.1 q152.2.1 (6, 0))).bind fun K163 =>
  (some (clr q161 q152.2.1)).bind fun w164 =>
  (f_X7_init K163 (q152.2.1 + 1) q152.2.1 w164).bind fun q165 =>
  (cha q165.1 27 (wR q161 1005 a157)).bind fun a166 =>
  (ixa 11 a166.2).bind fun j167 =>
  (chk q165.1 6 (some q152.2.1)).bind fun a168 =>
  (some (tR q165.2.2 a166.1 j167 (some a168))).bind fun w169 =>
  (chk q165.1 9 (some o)).bind fun a170 =>
  (cha q165.1 27 (wR w169 1005 a170)).bind fun a171 =>
  (ixa 11 a171.2).bind fun j172 =>
  (chk q165.1 6 (aR w169 a171.1 j172)).bind fun a173 =>
  (f_X7_clear q165.1 a173 w169).bind fun q174 =>
  some (q165.1, q165.2.1, q174)

def f_X10_begin_L41 (K : Kd) (o : Nat) (k : Option Nat → Int32 → Wd → Option Wd) : Nat → Option Nat → Int32 → Wd → Option Wd
  | 0, _, _, _ => none
  | n + 1, v1_41, v2_41, w =>
    if 12 ≤ v2_41 then
      (k v1_41 v2_41 w)
    else
      ((chk K 8 v1_41).bind fun a12 =>
      (cha K 25 (wR w 909 a12)).bind fun a13 =>
      (ixa v2_41 a13.2).bind fun j14 =>
      (chk K 2 (aR w a13.1 j14)).bind fun a15 =>
      (cha K 20 (wR w 1004 o)).bind fun a16 =>
      (ixa v2_41 a16.2).bind fun j17 =>
      (some (tI w a16.1 j17 (wI w 306 a15))).bind fun w18 =>
      (cha K 27 (wR w18 1005 o)).bind fun a19 =>
      (ixa v2_41 a19.2).bind fun j20 =>
      (chk K 6 (aR w18 a19.1 j20)).bind fun a21 =>
      (f_X7_clear K a21 w18).bind fun q22 =>
      f_X10_begin_L41 K o k n v1_41 (v2_41 + 1) q22)

def f_X10_begin (K : Kd) (o : Nat) (a_1 : Option Nat) (w : Wd) : Option Wd :=
  (some (sR w 1000 o a_1)).bind fun w1 =>
  (some (sI w1 1001 o 0)).bind fun w2 =>
  (chk K 8 a_1).bind fun a3 =>
  (chk K 1 (wR w2 1002 o)).bind fun a4 =>
  (f_X2_copyFrom K a4 (wR w2 910 a3) w2).bind fun q5 =>
  (cha K 20 (wR q5 1003 o)).bind fun a6 =>
  (cha K 20 (wR q5 906 a3)).bind fun a7 =>
  (grd (¬ (0 : Int32) < 0 ∧ ¬ (0 : Int32) < 0 ∧ ¬ (nI a6.2) < 0 ∧ (0 : Int32).toNatClampNeg + (nI a6.2).toNatClampNeg ≤ a7.2 ∧ (0 : Int32).toNatClampNeg + (nI a6.2).toNatClampNeg ≤ a6.2)).bind fun _ =>
  (some (tA q5 a6.1 (va_cpy (aI q5 a7.1) (aI q5 a6.1) (0 : Int32).toNatClampNeg (0 : Int32).toNatClampNeg (nI a6.2).toNatClampNeg))).bind fun w9 =>
  f_X10_begin_L41 K o (fun v1_41 v2_41 w10 =>
    some w10) fu a_1 0 w9

def f_X10_countBars_L4 (K : Kd) (o : Nat) (k : Int32 → Int32 → Wd → Option (Int32 × Wd)) : Nat → Int32 → Int32 → Wd → Option (Int32 × Wd)
  | 0, _, _, _ => none
  | n + 1, v1_4, v2_4, w =>
    (chk K 8 (wR w 1000 o)).bind fun a2 =>
    (f_X9_size K a2 3 w).bind fun q3 =>
    if q3.1 ≤ v2_4 then
      (k v1_4 v2_4 q3.2)
    else
      ((cha K 20 (wR q3.2 1004 o)).bind fun a5 =>
      (ixa v2_4 a5.2).bind fun j6 =>
      (f_J6_bitCount_0f7a4 K (aI q3.2 a5.1 j6) q3.2).bind fun q7 =>
      f_X10_countBars_L4 K o k n (v1_4 + q7.1) (v2_4 + 1) q7.2)

def f_X10_countBars (K : Kd) (o : Nat) (w : Wd) : Option (Int32 × Wd) :=
  f_X10_countBars_L4 K o (fun v1_4 v2_4 w1 =>
    some (v1_4, w1)) fu 0 0 w

def f_X10_caseTaking_L3 (K : Kd) (o : Nat) (k : Int32 → Int32 → Int32 → Int32 → Wd → Option (Int32 × Wd)) : Nat → Int32 → Int32 → Int32 → Int32 → Wd → Option (Int32 × Wd)
  | 0, _, _, _, _, _ => none
  | n + 1, v1_3, v2_3, v3_3, v4_3, w =>
    (chk K 8 (wR w 1000 o)).bind fun a2 =>
    (f_X9_size K a2 3 w).bind fun q3 =>
    if q3.1 ≤ v4_3 then
      (k v1_3 v2_3 v3_3 v4_3 q3.2)
    else
      ((cha K 27 (wR q3.2 1005 o)).bind fun a5 =>
      (ixa v4_3 a5.2).bind fun j6 =>
      (chk K 6 (aR q3.2 a5.1 j6)).bind fun a7 =>
      (f_X7_isOn K a7 v2_3 q3.2).bind fun q8 =>
      if (b2i q8.1) = 0 then
        (f_X10_caseTaking_L3 K o k n v1_3 v2_3 v3_3 (v4_3 + 1) q8.2)
      else
        ((cha K 27 (wR q8.2 1005 o)).bind fun a10 =>
        (ixa v4_3 a10.2).bind fun j11 =>
        (chk K 6 (aR q8.2 a10.1 j11)).bind fun a12 =>
        if (wI q8.2 704 a12) = v1_3 then
          ((f_X10_slotsOf K o v4_3 q8.2).bind fun q14 =>
          (f_X12_has K q14.1 v3_3 q14.2).bind fun q15 =>
          if (b2i q15.1) = 0 then
            (f_X10_caseTaking_L3 K o k n v1_3 v2_3 v3_3 (v4_3 + 1) q15.2)
          else
            (some (v4_3, q15.2)))
        else
          (f_X10_caseTaking_L3 K o k n v1_3 v2_3 v3_3 (v4_3 + 1) q8.2)))

def f_X10_caseTaking (K : Kd) (o : Nat) (a_1 : Int32) (a_2 : Int32) (a_3 : Int32) (w : Wd) : Option (Int32 × Wd) :=
  f_X10_caseTaking_L3 K o (fun v1_3 v2_3 v3_3 v4_3 w1 =>
    some ((-1), w1)) fu a_1 a_2 a_3 0 w

def f_X10_sortWaiting_L4 (K : Kd) (o : Nat) (k : Option Nat → Int32 → Int32 → Wd → Option (Int32 × Wd)) : Nat → Option Nat → Int32 → Int32 → Wd → Option (Int32 × Wd)
  | 0, _, _, _, _ => none
  | n + 1, v1_4, v2_4, v3_4, w =>
    (chk K 8 (wR w 1000 o)).bind fun a2 =>
    (f_X9_size K a2 3 w).bind fun q3 =>
    if q3.1 ≤ v3_4 then
      (k v1_4 v2_4 v3_4 q3.2)
    else
      ((cha K 20 v1_4).bind fun a5 =>
      if (nI a5.2) ≤ v2_4 then
        (k v1_4 v2_4 v3_4 q3.2)
      else
        ((cha K 27 (wR q3.2 1005 o)).bind fun a7 =>
        (ixa v3_4 a7.2).bind fun j8 =>
        (chk K 6 (aR q3.2 a7.1 j8)).bind fun a9 =>
        if (wI q3.2 700 a9) = 0 then
          ((f_X10_urgencyKey K o v3_4 q3.2).bind fun q11 =>
          (f_X10_insert K v1_4 v2_4 q11.1 q11.2).bind fun q12 =>
          f_X10_sortWaiting_L4 K o k n v1_4 (v2_4 + 1) (v3_4 + 1) q12)
        else
          (f_X10_sortWaiting_L4 K o k n v1_4 v2_4 (v3_4 + 1) q3.2)))

def f_X10_sortWaiting_L55 (K : Kd) (o : Nat) (k : Option Nat → Int32 → Int32 → Wd → Option (Int32 × Wd)) : Nat → Option Nat → Int32 → Int32 → Wd → Option (Int32 × Wd)
  | 0, _, _, _, _ => none
  | n + 1, v1_55, v2_55, v3_55, w =>
    if v2_55 ≤ v3_55 then
      (k v1_55 v2_55 v3_55 w)
    else
      ((cha K 20 v1_55).bind fun a15 =>
      (ixa v3_55 a15.2).bind fun j16 =>
      (ixa v3_55 a15.2).bind fun j17 =>
      (some (tI w a15.1 j17 ((aI w a15.1 j16) - (aI w a15.1 j16) / 12 * 12))).bind fun w18 =>
      f_X10_sortWaiting_L55 K o k n v1_55 v2_55 (v3_55 + 1) w18)

def f_X10_sortWaiting (K : Kd) (o : Nat) (a_1 : Option Nat) (w : Wd) : Option (Int32 × Wd) :=
  f_X10_sortWaiting_L4 K o (fun v1_4 v2_4 v3_4 w1 =>
    f_X10_sortWaiting_L55 K o (fun v1_55 v2_55 v3_55 w13 =>
      some (v2_55, w13)) fu v1_4 v2_4 0 w1) fu a_1 0 0 w

def f_L_isWorkingDay (K : Kd) (a_0 : Option Nat) (a_1 : Int32) (a_2 : Option Nat) (w : Wd) : Option (Int32 × Wd) :=
  (chk K 10 a_0).bind fun a1 =>
  (f_X12_isWorkingDay K a1 a_1 w).bind fun q2 =>
  xh q2 (fun v3 =>
    if (b2i v3) = 0 then
      ((cha K 23 a_2).bind fun a7 =>
      (ixa 0 a7.2).bind fun j8 =>
      (some (tJ q2.2 a7.1 j8 0)).bind fun w9 =>
      some (0, w9))
    else
      ((cha K 23 a_2).bind fun a10 =>
      (ixa 0 a10.2).bind fun j11 =>
      (some (tJ q2.2 a10.1 j11 1)).bind fun w12 =>
      some (0, w12))) (fun c4 =>
    if c4 = 2 then
      (some (1, q2.2))
    else none)

def f_L_workingDays (K : Kd) (a_0 : Option Nat) (a_1 : Int32) (a_2 : Int32) (a_3 : Option Nat) (w : Wd) : Option (Int32 × Wd) :=
  (chk K 10 a_0).bind fun a1 =>
  (f_X12_workingDays K a1 a_1 a_2 w).bind fun q2 =>
  xh q2 (fun v3 =>
    (cha K 23 a_3).bind fun a6 =>
    (ixa 0 a6.2).bind fun j7 =>
    (some (tJ q2.2 a6.1 j7 (v3.toInt64))).bind fun w8 =>
    some (0, w8)) (fun c4 =>
    if c4 = 2 then
      (some (1, q2.2))
    else none)

def f_L_lengthening (K : Kd) (a_0 : Option Nat) (a_1 : Int32) (a_2 : Option Nat) (w : Wd) : Option (Int32 × Wd) :=
  (chk K 10 a_0).bind fun a1 =>
  (f_X12_lengthening K a1 a_1 w).bind fun q2 =>
  xh q2 (fun v3 =>
    (cha K 23 a_2).bind fun a6 =>
    (ixa 0 a6.2).bind fun j7 =>
    (some (tJ q2.2 a6.1 j7 (v3.toInt64))).bind fun w8 =>
    some (0, w8)) (fun c4 =>
    if c4 = 2 then
      (some (1, q2.2))
    else none)

def f_L_undo (K : Kd) (a_0 : Option Nat) (a_1 : Option Nat) (w : Wd) : Option (Int32 × Wd) :=
  (chk K 10 a_0).bind fun a1 =>
  (f_X12_undo K a1 w).bind fun q2 =>
  xh q2 (fun v3 =>
    (cha K 23 a_1).bind fun a6 =>
    (ixa 0 a6.2).bind fun j7 =>
    (some (tJ q2.2 a6.1 j7 (v3.toInt64))).bind fun w8 =>
    some (0, w8)) (fun c4 =>
    if c4 = 3 then
      (some (1, q2.2))
    else none)

def f_L_lapsesIn (K : Kd) (a_0 : Option Nat) (a_1 : Int32) (a_2 : Option Nat) (w : Wd) : Option (Int32 × Wd) :=
  (chk K 10 a_0).bind fun a1 =>
  (f_X12_lapsesIn K a1 a_1 w).bind fun q2 =>
  xh q2 (fun v3 =>
    (cha K 23 a_2).bind fun a6 =>
    (ixa 0 a6.2).bind fun j7 =>
    (some (tJ q2.2 a6.1 j7 (v3.toInt64))).bind fun w8 =>
    some (0, w8)) (fun c4 =>
    if c4 = 2 then
      (some (1, q2.2))
    else none)

def f_L_restoreState (K : Kd) (a_0 : Option Nat) (a_1 : Option Nat) (w : Wd) : Option (Int32 × Wd) :=
  (chk K 10 a_0).bind fun a1 =>
  (f_X12_restoreState K a1 w).bind fun q2 =>
  xh q2 (fun v3 =>
    (cha K 23 a_1).bind fun a6 =>
    (ixa 0 a6.2).bind fun j7 =>
    (some (tJ q2.2 a6.1 j7 (v3.toInt64))).bind fun w8 =>
    some (0, w8)) (fun c4 =>
    if c4 = 3 then
      (some (1, q2.2))
    else none)

def f_J0_checkIndex_df160 (K : Kd) (a_0 : Int32) (a_1 : Int32) (w : Wd) : Option Wd :=
  (f_J3_checkIndex_8e157 K a_0 a_1 w).bind fun q2 =>
  some q2.2
