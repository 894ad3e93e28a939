def f_X10_insert_L2 (K : Kd) (k : Option Nat → Int32 → Int32 → Int32 → Wd → Option Wd) : Nat → Option Nat → Int32 → Int32 → Int32 → Wd → Option Wd
  | 0, _, _, _, _, _ => none
  | n + 1, v0_2, v1_2, v2_2, v3_2, w =>
    if v3_2 ≤ 0 then
      (k v0_2 v1_2 v2_2 v3_2 w)
    else
      ((cha K 20 v0_2).bind fun a3 =>
      (ixa (v3_2 - 1) a3.2).bind fun j4 =>
      if (aI w a3.1 j4) ≤ v2_2 then
        (k v0_2 v1_2 v2_2 v3_2 w)
      else
        ((ixa (v3_2 - 1) a3.2).bind fun j6 =>
        (ixa v3_2 a3.2).bind fun j7 =>
        (some (tI w a3.1 j7 (aI w a3.1 j6))).bind fun w8 =>
        f_X10_insert_L2 K k n v0_2 v1_2 v2_2 (v3_2 + (-1)) w8))

def f_X10_insert (K : Kd) (a_0 : Option Nat) (a_1 : Int32) (a_2 : Int32) (w : Wd) : Option Wd :=
  f_X10_insert_L2 K (fun v0_2 v1_2 v2_2 v3_2 w1 =>
    (cha K 20 v0_2).bind fun a9 =>
    (ixa v3_2 a9.2).bind fun j10 =>
    (some (tI w1 a9.1 j10 v2_2)).bind fun w11 =>
    some w11) fu a_0 a_1 a_2 a_1 w

def f_X10_passDays_L14 (K : Kd) (o : Nat) (k : Int32 → Int32 → Int32 → Wd → Option (Int32 × Wd)) : Nat → Int32 → Int32 → Int32 → Wd → Option (Int32 × Wd)
  | 0, _, _, _, _ => none
  | n + 1, v1_14, v2_14, v3_14, w =>
    (chk K 8 (wR w 1000 o)).bind fun a3 =>
    (f_X9_size K a3 3 w).bind fun q4 =>
    if q4.1 ≤ v3_14 then
      (k v1_14 v2_14 v3_14 q4.2)
    else
      ((cha K 27 (wR q4.2 1005 o)).bind fun a6 =>
      (ixa v3_14 a6.2).bind fun j7 =>
      (chk K 6 (aR q4.2 a6.1 j7)).bind fun a8 =>
      if (wI q4.2 700 a8) = 1 then
        ((ixa v3_14 a6.2).bind fun j10 =>
        (chk K 6 (aR q4.2 a6.1 j10)).bind fun a11 =>
        if (wI q4.2 1001 o) ≤ (wI q4.2 702 a11) then
          (f_X10_passDays_L14 K o k n v1_14 v2_14 (v3_14 + 1) q4.2)
        else
          ((ixa v3_14 a6.2).bind fun j13 =>
          (chk K 6 (aR q4.2 a6.1 j13)).bind fun a14 =>
          (some (sI q4.2 700 a14 2)).bind fun w15 =>
          f_X10_passDays_L14 K o k n v1_14 (v2_14 + 1) (v3_14 + 1) w15))
      else
        (f_X10_passDays_L14 K o k n v1_14 v2_14 (v3_14 + 1) q4.2))

def f_X10_passDays_L76 (K : Kd) (o : Nat) (k : Int32 → Int32 → Int32 → Wd → Option (Int32 × Wd)) : Nat → Int32 → Int32 → Int32 → Wd → Option (Int32 × Wd)
  | 0, _, _, _, _ => none
  | n + 1, v1_76, v2_76, v3_76, w =>
    (chk K 8 (wR w 1000 o)).bind fun a17 =>
    (f_X9_size K a17 3 w).bind fun q18 =>
    if q18.1 ≤ v3_76 then
      (k v1_76 v2_76 v3_76 q18.2)
    else
      ((cha K 27 (wR q18.2 1005 o)).bind fun a20 =>
      (ixa v3_76 a20.2).bind fun j21 =>
      (chk K 6 (aR q18.2 a20.1 j21)).bind fun a22 =>
      if (wI q18.2 700 a22) = 0 then
        ((f_X10_limitDay K o v3_76 q18.2).bind fun q24 =>
        if (wI q24.2 1001 o) ≤ q24.1 then
          (f_X10_passDays_L76 K o k n v1_76 v2_76 (v3_76 + 1) q24.2)
        else
          ((cha K 27 (wR q24.2 1005 o)).bind fun a26 =>
          (ixa v3_76 a26.2).bind fun j27 =>
          (chk K 6 (aR q24.2 a26.1 j27)).bind fun a28 =>
          (some (sI q24.2 700 a28 3)).bind fun w29 =>
          f_X10_passDays_L76 K o k n v1_76 v2_76 (v3_76 + 1) w29))
      else
        (f_X10_passDays_L76 K o k n v1_76 v2_76 (v3_76 + 1) q18.2))

def f_X10_passDays (K : Kd) (o : Nat) (a_1 : Int32) (w : Wd) : Option (Int32 × Wd) :=
  (some (sI w 1001 o ((wI w 1001 o) + a_1))).bind fun w1 =>
  f_X10_passDays_L14 K o (fun v1_14 v2_14 v3_14 w2 =>
    f_X10_passDays_L76 K o (fun v1_76 v2_76 v3_76 w16 =>
      some (v2_76, w16)) fu v1_14 v2_14 0 w2) fu a_1 0 0 w1

def f_X11_ofWord_L2 (K : Kd) (k : Int64 → Int32 → Wd → Option (Option Nat × Wd)) : Nat → Int64 → Int32 → Wd → Option (Option Nat × Wd)
  | 0, _, _, _ => none
  | n + 1, v0_2, v2_2, w =>
    if 21 ≤ v2_2 then
      (k v0_2 v2_2 w)
    else
      ((ixa v2_2 21).bind fun j3 =>
      if (lg_cmp (tokP.getD j3 0) v0_2) = 0 then
        ((ixa v2_2 21).bind fun j5 =>
        some ((some j5), w))
      else
        (f_X11_ofWord_L2 K k n v0_2 (v2_2 + 1) w))

def f_X11_ofWord (K : Kd) (a_0 : Int64) (w : Wd) : Option (Option Nat × Wd) :=
  f_X11_ofWord_L2 K (fun v0_2 v2_2 w1 =>
    some ((some 16), w1)) fu a_0 0 w

def f_J6_bitCount_0f7a4 (K : Kd) (a_0 : Int32) (w : Wd) : Option (Int32 × Wd) :=
  some (((((((((a_0 - ((ushr a_0 1) &&& 1431655765)) &&& 858993459) + ((ushr (a_0 - ((ushr a_0 1) &&& 1431655765)) 2) &&& 858993459)) + (ushr (((a_0 - ((ushr a_0 1) &&& 1431655765)) &&& 858993459) + ((ushr (a_0 - ((ushr a_0 1) &&& 1431655765)) 2) &&& 858993459)) 4)) &&& 252645135) + (ushr (((((a_0 - ((ushr a_0 1) &&& 1431655765)) &&& 858993459) + ((ushr (a_0 - ((ushr a_0 1) &&& 1431655765)) 2) &&& 858993459)) + (ushr (((a_0 - ((ushr a_0 1) &&& 1431655765)) &&& 858993459) + ((ushr (a_0 - ((ushr a_0 1) &&& 1431655765)) 2) &&& 858993459)) 4)) &&& 252645135) 8)) + (ushr ((((((a_0 - ((ushr a_0 1) &&& 1431655765)) &&& 858993459) + ((ushr (a_0 - ((ushr a_0 1) &&& 1431655765)) 2) &&& 858993459)) + (ushr (((a_0 - ((ushr a_0 1) &&& 1431655765)) &&& 858993459) + ((ushr (a_0 - ((ushr a_0 1) &&& 1431655765)) 2) &&& 858993459)) 4)) &&& 252645135) + (ushr (((((a_0 - ((ushr a_0 1) &&& 1431655765)) &&& 858993459) + ((ushr (a_0 - ((ushr a_0 1) &&& 1431655765)) 2) &&& 858993459)) + (ushr (((a_0 - ((ushr a_0 1) &&& 1431655765)) &&& 858993459) + ((ushr (a_0 - ((ushr a_0 1) &&& 1431655765)) 2) &&& 858993459)) 4)) &&& 252645135) 8)) 16)) &&& 63), w)

def f_J9_max_7cf53 (K : Kd) (a_0 : Int32) (a_1 : Int32) (w : Wd) : Option (Int32 × Wd) :=
  if a_0 < a_1 then
    (some (a_1, w))
  else
    (some (a_0, w))

def f_J9_min_7cf53 (K : Kd) (a_0 : Int32) (a_1 : Int32) (w : Wd) : Option (Int32 × Wd) :=
  if a_1 < a_0 then
    (some (a_1, w))
  else
    (some (a_0, w))

def f_J7_fill_53178_L5 (K : Kd) (k : Option Nat → Int32 → Int32 → Int32 → Wd → Option Wd) : Nat → Option Nat → Int32 → Int32 → Int32 → Wd → Option Wd
  | 0, _, _, _, _, _ => none
  | n + 1, v0_5, v1_5, v2_5, v3_5, w =>
    if v3_5 ≤ v2_5 then
      (k v0_5 v1_5 v2_5 v3_5 w)
    else
      ((cha K 20 v0_5).bind fun a4 =>
      (ixa v2_5 a4.2).bind fun j5 =>
      (some (tI w a4.1 j5 v1_5)).bind fun w6 =>
      f_J7_fill_53178_L5 K k n v0_5 v1_5 (v2_5 + 1) v3_5 w6)

def f_J7_fill_53178 (K : Kd) (a_0 : Option Nat) (a_1 : Int32) (w : Wd) : Option Wd :=
  (cha K 20 a_0).bind fun a1 =>
  f_J7_fill_53178_L5 K (fun v0_5 v1_5 v2_5 v3_5 w2 =>
    some w2) fu a_0 a_1 0 (nI a1.2) w

def f_X12_feed (K : Kd) (o : Nat) (a_1 : Int32) (a_2 : Int32) (a_3 : Int32) (a_4 : Int32) (a_5 : Int32) (w : Wd) : Option (Int32 × Wd) :=
  if ((wI w 1201 o) + 20) ≤ 900 then
    ((f_X12_append K o a_1 w).bind fun q2 =>
    (f_X12_append K o a_2 q2).bind fun q3 =>
    (f_X12_append K o a_3 q3).bind fun q4 =>
    (f_X12_append K o a_4 q4).bind fun q5 =>
    (f_X12_append K o a_5 q5).bind fun q6 =>
    some ((wI q6 1201 o), q6))
  else
    (some ((-1), w))

def f_X12_bufferedName_L15 (K : Kd) (o : Nat) (k : Int64 → Int32 → Wd → Option (Int64 × Wd)) : Nat → Int64 → Int32 → Wd → Option (Int64 × Wd)
  | 0, _, _, _ => none
  | n + 1, v1_15, v3_15, w =>
    if (wI w 1201 o) ≤ v3_15 then
      (k v1_15 v3_15 w)
    else
      ((cha K 21 (wR w 1200 o)).bind fun a4 =>
      (ixa v3_15 a4.2).bind fun j5 =>
      (f_X12_isLetter K (aI w a4.1 j5) w).bind fun q6 =>
      if (b2i q6.1) = 0 then
        (some (0, q6.2))
      else
        ((cha K 21 (wR q6.2 1200 o)).bind fun a8 =>
        (ixa v3_15 a8.2).bind fun j9 =>
        f_X12_bufferedName_L15 K o k n ((lsl v1_15 8) ||| ((aI q6.2 a8.1 j9).toInt64)) (v3_15 + 1) q6.2))

def f_X12_bufferedName (K : Kd) (o : Nat) (w : Wd) : Option (Int64 × Wd) :=
  if (wI w 1201 o) ≤ 8 then
    (f_X12_bufferedName_L15 K o (fun v1_15 v3_15 w2 =>
      some (v1_15, w2)) fu 0 0 w)
  else
    (some (0, w))

def f_X12_isWorkingDay (K : Kd) (o : Nat) (a_1 : Int32) (w : Wd) : Option ((Bool ⊕ Nat) × Wd) :=
  (f_X12_requireDay K o a_1 w).bind fun q1 =>
  xk q1 fun _ =>
  (chk K 9 (wR q1.2 1205 o)).bind fun a3 =>
  (f_X10_works K a3 a_1 q1.2).bind fun q4 =>
  some (.inl q4.1, q4.2)

def f_X12_workingDays (K : Kd) (o : Nat) (a_1 : Int32) (a_2 : Int32) (w : Wd) : Option ((Int32 ⊕ Nat) × Wd) :=
  (f_X12_requireSpan K o a_1 a_2 w).bind fun q1 =>
  xk q1 fun _ =>
  (chk K 9 (wR q1.2 1205 o)).bind fun a3 =>
  (f_X10_countWorking K a3 a_1 a_2 q1.2).bind fun q4 =>
  some (.inl q4.1, q4.2)

def f_X12_lengthening (K : Kd) (o : Nat) (a_1 : Int32) (w : Wd) : Option ((Int32 ⊕ Nat) × Wd) :=
  (f_X12_requireReason K o a_1 w).bind fun q1 =>
  xk q1 fun _ =>
  (chk K 9 (wR q1.2 1205 o)).bind fun a3 =>
  (chk K 8 (wR q1.2 1000 a3)).bind fun a4 =>
  (cha K 20 (wR q1.2 911 a4)).bind fun a5 =>
  (ixa a_1 a5.2).bind fun j6 =>
  some (.inl (aI q1.2 a5.1 j6), q1.2)

def f_X12_undo (K : Kd) (o : Nat) (w : Wd) : Option ((Int32 ⊕ Nat) × Wd) :=
  if (wI w 1210 o) ≤ 0 then
    (some (.inr 3, w))
  else
    ((cha K 28 (wR w 1209 o)).bind fun a2 =>
    if (wI w 1210 o) ≤ (nI a2.2) then
      ((some (sI w 1210 o ((wI w 1210 o) - 1))).bind fun w4 =>
      (cha K 28 (wR w4 1209 o)).bind fun a5 =>
      (ixa (wI w4 1210 o) a5.2).bind fun j6 =>
      (chk K 9 (wR w4 1205 o)).bind fun a7 =>
      (f_X10_copyFrom K a7 (aR w4 a5.1 j6) w4).bind fun q8 =>
      some (.inl (wI q8 1210 o), q8))
    else
      (some (.inr 3, w)))

def f_X12_remember_L18 (K : Kd) (o : Nat) (k : Option Nat → Int32 → Wd → Option Wd) : Nat → Option Nat → Int32 → Wd → Option Wd
  | 0, _, _, _ => none
  | n + 1, v1_18, v2_18, w =>
    (cha K 28 (wR w 1209 o)).bind fun a10 =>
    if (nI a10.2) ≤ v2_18 then
      (k v1_18 v2_18 w)
    else
      ((ixa v2_18 a10.2).bind fun j12 =>
      (ixa (v2_18 - 1) a10.2).bind fun j13 =>
      (chk K 9 (aR w a10.1 j12)).bind fun a14 =>
      (some (tR w a10.1 j13 (some a14))).bind fun w15 =>
      f_X12_remember_L18 K o k n v1_18 (v2_18 + 1) w15)

def f_X12_remember (K : Kd) (o : Nat) (w : Wd) : Option Wd :=
  if (wI w 1210 o) < 8 then
    ((cha K 28 (wR w 1209 o)).bind fun a2 =>
    (ixa (wI w 1210 o) a2.2).bind fun j3 =>
    (chk K 9 (aR w a2.1 j3)).bind fun a4 =>
    (f_X10_copyFrom K a4 (wR w 1205 o) w).bind fun q5 =>
    (some (sI q5 1210 o ((wI q5 1210 o) + 1))).bind fun w6 =>
    some w6)
  else
    ((cha K 28 (wR w 1209 o)).bind fun a7 =>
    (ixa 0 a7.2).bind fun j8 =>
    f_X12_remember_L18 K o (fun v1_18 v2_18 w9 =>
      (cha K 28 (wR w9 1209 o)).bind fun a16 =>
      (ixa ((nI a16.2) - 1) a16.2).bind fun j17 =>
      (chk K 9 v1_18).bind fun a18 =>
      (some (tR w9 a16.1 j17 (some a18))).bind fun w19 =>
      (some (sI w19 1210 o 7)).bind fun w20 =>
      (cha K 28 (wR w20 1209 o)).bind fun a21 =>
      (ixa (wI w20 1210 o) a21.2).bind fun j22 =>
      (chk K 9 (aR w20 a21.1 j22)).bind fun a23 =>
      (f_X10_copyFrom K a23 (wR w20 1205 o) w20).bind fun q24 =>
      (some (sI q24 1210 o ((wI q24 1210 o) + 1))).bind fun w25 =>
      some w25) fu (aR w a7.1 j8) 1 w)

def f_X12_lapsesIn (K : Kd) (o : Nat) (a_1 : Int32) (w : Wd) : Option ((Int32 ⊕ Nat) × Wd) :=
  (f_X12_requirePassable K o a_1 w).bind fun q1 =>
  xk q1 fun _ =>
  (chk K 9 (wR q1.2 1205 o)).bind fun a3 =>
  (f_X10_countPhase K a3 3 q1.2).bind fun q4 =>
  (chk K 9 (wR q4.2 1208 o)).bind fun a5 =>
  (f_X10_copyFrom K a5 (wR q4.2 1205 o) q4.2).bind fun q6 =>
  (chk K 9 (wR q6 1208 o)).bind fun a7 =>
  (f_X10_passDays K a7 a_1 q6).bind fun q8 =>
  (chk K 9 (wR q8.2 1208 o)).bind fun a9 =>
  (f_X10_countPhase K a9 3 q8.2).bind fun q10 =>
  some (.inl (q10.1 - q4.1), q10.2)

def f_X12_printName_L21 (K : Kd) (o : Nat) (k : Int32 → Int32 → Int64 → Int32 → Wd → Option Wd) : Nat → Int32 → Int32 → Int64 → Int32 → Wd → Option Wd
  | 0, _, _, _, _, _ => none
  | n + 1, v1_21, v2_21, v3_21, v5_21, w =>
    if v5_21 < 0 then
      (k v1_21 v2_21 v3_21 v5_21 w)
    else
      (if (((lsr v3_21 v5_21).toInt32).toInt8.toInt32) = 0 then
        (f_X12_printName_L21 K o k n v1_21 v2_21 v3_21 (v5_21 + (-8)) w)
      else
        ((f_X12_print K o (((lsr v3_21 v5_21).toInt32).toInt8.toInt32) w).bind fun q10 =>
        f_X12_printName_L21 K o k n v1_21 v2_21 v3_21 (v5_21 + (-8)) q10))

def f_X12_printName (K : Kd) (o : Nat) (a_1 : Int32) (a_2 : Int32) (w : Wd) : Option Wd :=
  (chk K 9 (wR w 1205 o)).bind fun a1 =>
  (chk K 8 (wR w 1000 a1)).bind fun a2 =>
  (cha K 26 (wR w 900 a2)).bind fun a3 =>
  (ixa a_1 a3.2).bind fun j4 =>
  (chk K 3 (aR w a3.1 j4)).bind fun a5 =>
  (f_X4_at K a5 a_2 w).bind fun q6 =>
  f_X12_printName_L21 K o (fun v1_21 v2_21 v3_21 v5_21 w7 =>
    some w7) fu a_1 a_2 q6.1 56 q6.2

def f_X12_saveState (K : Kd) (o : Nat) (w : Wd) : Option (Int32 × Wd) :=
  (chk K 9 (wR w 1206 o)).bind fun a1 =>
  (f_X10_copyFrom K a1 (wR w 1205 o) w).bind fun q2 =>
  (some (sZ q2 1207 o true)).bind fun w3 =>
  (chk K 9 (wR w3 1205 o)).bind fun a4 =>
  some ((wI w3 1001 a4), w3)

def f_X12_restoreState (K : Kd) (o : Nat) (w : Wd) : Option ((Int32 ⊕ Nat) × Wd) :=
  if (b2i (wZ w 1207 o)) = 0 then
    (some (.inr 3, w))
  else
    ((chk K 9 (wR w 1205 o)).bind fun a2 =>
    (f_X10_copyFrom K a2 (wR w 1206 o) w).bind fun q3 =>
    (some (sI q3 1210 o 0)).bind fun w4 =>
    (chk K 9 (wR w4 1205 o)).bind fun a5 =>
    some (.inl (wI w4 1001 a5), w4))

def f_X12_requireExisting (K : Kd) (o : Nat) (a_1 : Int32) (a_2 : Int32) (w : Wd) : Option ((Unit ⊕ Nat) × Wd) :=
  if a_2 < 0 then
    (some (.inr 1, w))
  else
    ((chk K 9 (wR w 1205 o)).bind fun a2 =>
    (chk K 8 (wR w 1000 a2)).bind fun a3 =>
    (f_X9_size K a3 a_1 w).bind fun q4 =>
    if a_2 < q4.1 then
      (some (.inl (), q4.2))
    else
      (some (.inr 1, q4.2)))

def f_X12_requireHearing (K : Kd) (o : Nat) (a_1 : Int32) (a_2 : Int32) (a_3 : Int32) (a_4 : Int32) (a_5 : Int32) (w : Wd) : Option ((Unit ⊕ Nat) × Wd) :=
  (f_X12_requireExisting K o 3 a_1 w).bind fun q1 =>
  xk q1 fun _ =>
  (f_X12_requireExisting K o 0 a_4 q1.2).bind fun q3 =>
  xk q3 fun _ =>
  (f_X12_requireExisting K o 1 a_5 q3.2).bind fun q5 =>
  xk q5 fun _ =>
  (f_X12_requireDay K o a_2 q5.2).bind fun q7 =>
  xk q7 fun _ =>
  (f_X12_requireSlot K o a_3 q7.2).bind fun q9 =>
  xk q9 fun _ =>
  some (.inl (), q9.2)

def f_X13_takesDraft_L2 (K : Kd) (o : Nat) (k : Int32 → Wd → Option Wd) : Nat → Int32 → Wd → Option Wd
  | 0, _, _ => none
  | n + 1, v1_2, w =>
    if 170 ≤ v1_2 then
      (k v1_2 w)
    else
      ((cha K 20 (wR w 1302 o)).bind fun a3 =>
      (ixa v1_2 a3.2).bind fun j4 =>
      (cha K 20 (wR w 1301 o)).bind fun a5 =>
      (ixa v1_2 a5.2).bind fun j6 =>
      (some (tI w a5.1 j6 (aI w a3.1 j4))).bind fun w7 =>
      f_X13_takesDraft_L2 K o k n (v1_2 + 1) w7)

def f_X13_takesDraft (K : Kd) (o : Nat) (w : Wd) : Option Wd :=
  f_X13_takesDraft_L2 K o (fun v1_2 w1 =>
    (f_X13_moves K (wR w1 1333 o) (wR w1 1311 o) w1).bind fun q8 =>
    (f_X13_moves K (wR q8 1334 o) (wR q8 1312 o) q8).bind fun q9 =>
    (f_X13_moves K (wR q9 1335 o) (wR q9 1313 o) q9).bind fun q10 =>
    (f_X13_moves K (wR q10 1336 o) (wR q10 1314 o) q10).bind fun q11 =>
    (f_X13_copies K (wR q11 1304 o) (wR q11 1303 o) q11).bind fun q12 =>
    (some (sI q12 1309 o 0)).bind fun w13 =>
    (some (sZ w13 1310 o false)).bind fun w14 =>
    some w14) fu 0 w
section
variable {p : Program} {l : Launch} {e : Env} {s : State} {m : MethodId} {args : Array Value} {below : List Frame} {meth : Method} {c : Code} {E : Ev} {K : Kd} {z : Nat}

theorem dX10_insert_0 : decode cX10_insert 0 = .ok (.iload_n 1, 1) := by decide +kernel
theorem dX10_insert_1 : decode cX10_insert 1 = .ok (.istore_n 3, 1) := by decide +kernel
theorem dX10_insert_2 : decode cX10_insert 2 = .ok (.iload_n 3, 1) := by decide +kernel
theorem dX10_insert_3 : decode cX10_insert 3 = .ok (.ifCond .le 26, 3) := by decide +kernel
theorem dX10_insert_6 : decode cX10_insert 6 = .ok (.aload_n 0, 1) := by decide +kernel
theorem dX10_insert_7 : decode cX10_insert 7 = .ok (.iload_n 3, 1) := by decide +kernel
theorem dX10_insert_8 : decode cX10_insert 8 = .ok (.iconst 1, 1) := by decide +kernel
theorem dX10_insert_9 : decode cX10_insert 9 = .ok (.isub, 1) := by decide +kernel
theorem dX10_insert_10 : decode cX10_insert 10 = .ok (.iaload, 1) := by decide +kernel
theorem dX10_insert_11 : decode cX10_insert 11 = .ok (.iload_n 2, 1) := by decide +kernel
theorem dX10_insert_12 : decode cX10_insert 12 = .ok (.if_icmp .le 17, 3) := by decide +kernel
theorem dX10_insert_15 : decode cX10_insert 15 = .ok (.aload_n 0, 1) := by decide +kernel
theorem dX10_insert_16 : decode cX10_insert 16 = .ok (.iload_n 3, 1) := by decide +kernel
theorem dX10_insert_17 : decode cX10_insert 17 = .ok (.aload_n 0, 1) := by decide +kernel
theorem dX10_insert_18 : decode cX10_insert 18 = .ok (.iload_n 3, 1) := by decide +kernel
theorem dX10_insert_19 : decode cX10_insert 19 = .ok (.iconst 1, 1) := by decide +kernel
theorem dX10_insert_20 : decode cX10_insert 20 = .ok (.isub, 1) := by decide +kernel
theorem dX10_insert_21 : decode cX10_insert 21 = .ok (.iaload, 1) := by decide +kernel
theorem dX10_insert_22 : decode cX10_insert 22 = .ok (.iastore, 1) := by decide +kernel
theorem dX10_insert_23 : decode cX10_insert 23 = .ok (.iinc 3 (-1), 3) := by decide +kernel
theorem dX10_insert_26 : decode cX10_insert 26 = .ok (.goto (-24), 3) := by decide +kernel
theorem dX10_insert_29 : decode cX10_insert 29 = .ok (.aload_n 0, 1) := by decide +kernel
theorem dX10_insert_30 : decode cX10_insert 30 = .ok (.iload_n 3, 1) := by decide +kernel
theorem dX10_insert_31 : decode cX10_insert 31 = .ok (.iload_n 2, 1) := by decide +kernel
theorem dX10_insert_32 : decode cX10_insert 32 = .ok (.iastore, 1) := by decide +kernel
theorem dX10_insert_33 : decode cX10_insert 33 = .ok (.return_, 1) := by decide +kernel
theorem hs_X10_insert : yX10_insert.cls ≠ "java/lang/invoke/MethodHandle" ∧ yX10_insert.cls ≠ "java/lang/invoke/VarHandle" ∧ (parseMethodDescriptor yX10_insert.desc).map (fun d => d.parameters.length) = some 3 := by decide +kernel
set_option maxHeartbeats 4000000 in
set_option maxRecDepth 100000 in
theorem l_X10_insert_L2 (C : CX p l e s m args meth c cX10_insert 4 RX10 (Option.none : Option Jvm.ClassFile.FieldType) E) {w' : Wd} (k : Option Nat → Int32 → Int32 → Int32 → Wd → Option Wd) (hk : ∀ (v0_2 : Option Nat) (v1_2 : Int32) (v2_2 : Int32) (v3_2 : Int32) (w : Wd) (H : Heap) (locs : List Loc) (ls : Array Slot), HQ E K z w s H locs → lv_has ls 4 [(0, rv E v0_2), (1, .int v1_2), (2, .int v2_2), (3, .int v3_2)] → k v0_2 v1_2 v2_2 v3_2 w = some w' → W p l e ({ frames := 0, cells := 0, slots := 0, locals := 0 } : Room) s m args below meth c H locs 0 0 (MQ below (QV E K z w') args s 0 0 (hA E)) (F0 m 29 ls [])) : ∀ (n : Nat) (v0_2 : Option Nat) (v1_2 : Int32) (v2_2 : Int32) (v3_2 : Int32) (w : Wd) (H : Heap) (locs : List Loc) (ls : Array Slot), HQ E K z w s H locs → lv_has ls 4 [(0, rv E v0_2), (1, .int v1_2), (2, .int v2_2), (3, .int v3_2)] → f_X10_insert_L2 K k n v0_2 v1_2 v2_2 v3_2 w = some w' → W p l e ({ frames := 0, cells := 0, slots := 0, locals := 0 } : Room) s m args below meth c H locs 0 0 (MQ below (QV E K z w') args s 0 0 (hA E)) (F0 m 2 ls []) := by
  obtain ⟨hx, hb, hml, hown, hts, hKs, hT, hb0, hlocks, hret⟩ := id C
  intro n
  induction n with
  | zero =>
    intro v0_2 v1_2 v2_2 v3_2 w H locs ls hH hl hf
    cases hf
  | succ n ih =>
    intro v0_2 v1_2 v2_2 v3_2 w H locs ls hH hl hf
    rw [f_X10_insert_L2] at hf
    refine lv_iload_n hx hb dX10_insert_2 rfl (lv_at hl 3 rfl) ?_
    refine lv_if_le (tgt := 29) hx hb dX10_insert_3 (by decide) (fun c2 => ?_) (fun c2 => ?_)
    · replace hf := (if_pos c2).symm.trans hf
      exact hk v0_2 v1_2 v2_2 v3_2 _ _ _ _ hH (lv_sub hl [0, 1, 2, 3] rfl) hf
    · replace hf := (if_neg c2).symm.trans hf
      refine hl_aload_n hx hb dX10_insert_6 rfl (lv_at hl 0 rfl) ?_
      refine lv_iload_n hx hb dX10_insert_7 rfl (lv_at hl 3 rfl) ?_
      refine lv_iconst (v := 1) hx hb dX10_insert_8 (by decide) ?_
      refine lv_isub hx hb dX10_insert_9 ?_
      obtain ⟨a3, ha3, hf⟩ := bnd hf
      replace ha3 := cha_some ha3
      obtain ⟨j4, hj4, hf⟩ := bnd hf
      refine hw_iald hx hb hKs hH ha3.1 ha3.2 hj4 dX10_insert_10 ?_
      refine lv_iload_n hx hb dX10_insert_11 rfl (lv_at hl 2 rfl) ?_
      refine lv_icmp_le (tgt := 29) hx hb dX10_insert_12 (by decide) (fun c5 => ?_) (fun c5 => ?_)
      · replace hf := (if_pos c5).symm.trans hf
        exact hk v0_2 v1_2 v2_2 v3_2 _ _ _ _ hH (lv_sub hl [0, 1, 2, 3] rfl) hf
      · replace hf := (if_neg c5).symm.trans hf
        refine hl_aload_n hx hb dX10_insert_15 rfl (lv_at hl 0 rfl) ?_
        refine lv_iload_n hx hb dX10_insert_16 rfl (lv_at hl 3 rfl) ?_
        refine hl_aload_n hx hb dX10_insert_17 rfl (lv_at hl 0 rfl) ?_
        refine lv_iload_n hx hb dX10_insert_18 rfl (lv_at hl 3 rfl) ?_
        refine lv_iconst (v := 1) hx hb dX10_insert_19 (by decide) ?_
        refine lv_isub hx hb dX10_insert_20 ?_
        obtain ⟨j6, hj6, hf⟩ := bnd hf
        refine hw_iald hx hb hKs hH ha3.1 ha3.2 hj6 dX10_insert_21 ?_
        obtain ⟨j7, hj7, hf⟩ := bnd hf
        obtain ⟨w8, hw8, hf⟩ := bnd hf
        replace hw8 := Option.some.inj hw8
        refine hw_iast (x := (aI w a3.1 j6)) hx hb hKs hH ha3.1 ha3.2 hj7 dX10_insert_22 (fun H locs hH => ?_)
        rw [hw8] at hH
        refine lv_iinc (v := (v3_2 + (-1))) (lv' := [(3, .int ((v3_2 + (-1)))), (0, rv E v0_2), (1, .int v1_2), (2, .int v2_2)]) hx hb dX10_insert_23 hl (k := 3) rfl rfl (by decide) rfl (fun ls hl => ?_)
        refine lv_goto (tgt := 2) hx hb dX10_insert_26 (by decide) ?_
        exact ih v0_2 v1_2 v2_2 (v3_2 + (-1)) _ _ _ _ hH (lv_sub hl [1, 2, 3, 0] rfl) hf
set_option maxHeartbeats 4000000 in
set_option maxRecDepth 100000 in
theorem k_X10_insert (l : Launch) (E : Ev) (K : Kd) (z : Nat) (a_0 : Option Nat) (a_1 : Int32) (a_2 : Int32) (w : Wd) {w' : Wd} (hf : f_X10_insert K a_0 a_1 a_2 w = some w') : Met l yX10_insert (Cond.code yX10_insert cX10_insert 4 (Option.none : Option Jvm.ClassFile.FieldType) :: bt) ({ frames := 0, cells := 0, slots := 0, locals := 0 } : Room) (va_Pc [rv E a_0, .int a_1, .int a_2] (HB E K w z)) (QV E K z w') 0 0 (hA E) := by
  refine Met.ofW (cc := cX10_insert) (maxL := 4) (ret := (Option.none : Option Jvm.ClassFile.FieldType)) (by decide) rfl ?_
  intro p e s m args below meth c s₁ B hml hv
  obtain ⟨rfl, hz, hP, hKs, hT, hb0⟩ := hv
  have C : CX p l e s m _ meth c cX10_insert 4 RX10 (Option.none : Option Jvm.ClassFile.FieldType) E := ⟨B.exec, B.bytes, hml, findClass_of_methodNamed B.named, fun w h => atoms_spec (ws := Cond.code yX10_insert cX10_insert 4 (Option.none : Option Jvm.ClassFile.FieldType) :: bt) B.pre w (List.mem_cons_of_mem _ h), hKs, hT, by rw [hz]; exact hb0, B.notSynchronized, B.returns⟩
  have hH : HQ E K z w s s.heap [] := ⟨hP, va_S.rf, hz⟩
  obtain ⟨hx, hb, hml, hown, hts, hKs, hT, hb0, hlocks, hret⟩ := id C
  have hl := lv_entry [rv E a_0, .int a_1, .int a_2] (n := 4) (by simp [lg_len_nil, lg_len_i, lg_len_j, lg_len_q])
  rw [lg_entry_eq]
  generalize (lg_sl [rv E a_0, .int a_1, .int a_2] ++ List.replicate (4 - (lg_sl [rv E a_0, .int a_1, .int a_2]).length) Slot.unset).toArray = ls at hl ⊢
  replace hl : lv_has ls 4 [(0, rv E a_0), (1, .int a_1), (2, .int a_2)] := by simpa only [lv_args, cat_q, cat_i, cat_j, reduceIte, Nat.reduceEqDiff, Nat.reduceAdd, Nat.zero_add] using hl
  generalize s.heap = H at hH ⊢
  unfold f_X10_insert at hf
  refine lv_iload_n hx hb dX10_insert_0 rfl (lv_at hl 1 rfl) ?_
  refine lv_istore_n (lv' := [(3, .int a_1), (0, rv E a_0), (1, .int a_1), (2, .int a_2)]) hx hb dX10_insert_1 rfl hl (by decide) rfl (fun ls hl => ?_)
  refine l_X10_insert_L2  C _ (fun v0_2 v1_2 v2_2 v3_2 w1 H locs ls hH hl hf => ?_) fu a_0 a_1 a_2 a_1 w _ _ _ hH (lv_sub hl [1, 2, 3, 0] rfl) hf
  refine hl_aload_n hx hb dX10_insert_29 rfl (lv_at hl 0 rfl) ?_
  refine lv_iload_n hx hb dX10_insert_30 rfl (lv_at hl 3 rfl) ?_
  refine lv_iload_n hx hb dX10_insert_31 rfl (lv_at hl 2 rfl) ?_
  obtain ⟨a9, ha9, hf⟩ := bnd hf
  replace ha9 := cha_some ha9
  obtain ⟨j10, hj10, hf⟩ := bnd hf
  obtain ⟨w11, hw11, hf⟩ := bnd hf
  replace hw11 := Option.some.inj hw11
  refine hw_iast (x := v2_2) hx hb hKs hH ha9.1 ha9.2 hj10 dX10_insert_32 (fun H locs hH => ?_)
  rw [hw11] at hH
  exact hw_vret hx hb hret hf hH hlocks dX10_insert_33

theorem dX10_passDays_0 : decode cX10_passDays 0 = .ok (.iconst 0, 1) := by decide +kernel
theorem dX10_passDays_1 : decode cX10_passDays 1 = .ok (.istore_n 2, 1) := by decide +kernel
theorem dX10_passDays_2 : decode cX10_passDays 2 = .ok (.aload_n 0, 1) := by decide +kernel
theorem dX10_passDays_3 : decode cX10_passDays 3 = .ok (.dup, 1) := by decide +kernel
theorem dX10_passDays_4 : decode cX10_passDays 4 = .ok (.getfield 39, 3) := by decide +kernel
theorem dX10_passDays_7 : decode cX10_passDays 7 = .ok (.iload_n 1, 1) := by decide +kernel
theorem dX10_passDays_8 : decode cX10_passDays 8 = .ok (.iadd, 1) := by decide +kernel
theorem dX10_passDays_9 : decode cX10_passDays 9 = .ok (.putfield 39, 3) := by decide +kernel
theorem dX10_passDays_12 : decode cX10_passDays 12 = .ok (.iconst 0, 1) := by decide +kernel
theorem dX10_passDays_13 : decode cX10_passDays 13 = .ok (.istore_n 3, 1) := by decide +kernel
theorem dX10_passDays_14 : decode cX10_passDays 14 = .ok (.iload_n 3, 1) := by decide +kernel
theorem dX10_passDays_15 : decode cX10_passDays 15 = .ok (.aload_n 0, 1) := by decide +kernel
theorem dX10_passDays_16 : decode cX10_passDays 16 = .ok (.getfield 31, 3) := by decide +kernel
theorem dX10_passDays_19 : decode cX10_passDays 19 = .ok (.iconst 3, 1) := by decide +kernel
theorem dX10_passDays_20 : decode cX10_passDays 20 = .ok (.invokevirtual 92, 3) := by decide +kernel
theorem dX10_passDays_23 : decode cX10_passDays 23 = .ok (.if_icmp .ge 51, 3) := by decide +kernel
theorem dX10_passDays_26 : decode cX10_passDays 26 = .ok (.aload_n 0, 1) := by decide +kernel
theorem dX10_passDays_27 : decode cX10_passDays 27 = .ok (.getfield 27, 3) := by decide +kernel
theorem dX10_passDays_30 : decode cX10_passDays 30 = .ok (.iload_n 3, 1) := by decide +kernel
theorem dX10_passDays_31 : decode cX10_passDays 31 = .ok (.aaload, 1) := by decide +kernel
theorem dX10_passDays_32 : decode cX10_passDays 32 = .ok (.getfield 95, 3) := by decide +kernel
theorem dX10_passDays_35 : decode cX10_passDays 35 = .ok (.iconst 1, 1) := by decide +kernel
theorem dX10_passDays_36 : decode cX10_passDays 36 = .ok (.if_icmp .ne 32, 3) := by decide +kernel
theorem dX10_passDays_39 : decode cX10_passDays 39 = .ok (.aload_n 0, 1) := by decide +kernel
theorem dX10_passDays_40 : decode cX10_passDays 40 = .ok (.getfield 27, 3) := by decide +kernel
theorem dX10_passDays_43 : decode cX10_passDays 43 = .ok (.iload_n 3, 1) := by decide +kernel
theorem dX10_passDays_44 : decode cX10_passDays 44 = .ok (.aaload, 1) := by decide +kernel
theorem dX10_passDays_45 : decode cX10_passDays 45 = .ok (.getfield 119, 3) := by decide +kernel
theorem dX10_passDays_48 : decode cX10_passDays 48 = .ok (.aload_n 0, 1) := by decide +kernel
theorem dX10_passDays_49 : decode cX10_passDays 49 = .ok (.getfield 39, 3) := by decide +kernel
theorem dX10_passDays_52 : decode cX10_passDays 52 = .ok (.if_icmp .ge 16, 3) := by decide +kernel
theorem dX10_passDays_55 : decode cX10_passDays 55 = .ok (.aload_n 0, 1) := by decide +kernel
theorem dX10_passDays_56 : decode cX10_passDays 56 = .ok (.getfield 27, 3) := by decide +kernel
theorem dX10_passDays_59 : decode cX10_passDays 59 = .ok (.iload_n 3, 1) := by decide +kernel
theorem dX10_passDays_60 : decode cX10_passDays 60 = .ok (.aaload, 1) := by decide +kernel
theorem dX10_passDays_61 : decode cX10_passDays 61 = .ok (.iconst 2, 1) := by decide +kernel
theorem dX10_passDays_62 : decode cX10_passDays 62 = .ok (.putfield 95, 3) := by decide +kernel
theorem dX10_passDays_65 : decode cX10_passDays 65 = .ok (.iinc 2 1, 3) := by decide +kernel
theorem dX10_passDays_68 : decode cX10_passDays 68 = .ok (.iinc 3 1, 3) := by decide +kernel
theorem dX10_passDays_71 : decode cX10_passDays 71 = .ok (.goto (-57), 3) := by decide +kernel
theorem dX10_passDays_74 : decode cX10_passDays 74 = .ok (.iconst 0, 1) := by decide +kernel
theorem dX10_passDays_75 : decode cX10_passDays 75 = .ok (.istore_n 3, 1) := by decide +kernel
theorem dX10_passDays_76 : decode cX10_passDays 76 = .ok (.iload_n 3, 1) := by decide +kernel
theorem dX10_passDays_77 : decode cX10_passDays 77 = .ok (.aload_n 0, 1) := by decide +kernel
theorem dX10_passDays_78 : decode cX10_passDays 78 = .ok (.getfield 31, 3) := by decide +kernel
theorem dX10_passDays_81 : decode cX10_passDays 81 = .ok (.iconst 3, 1) := by decide +kernel
theorem dX10_passDays_82 : decode cX10_passDays 82 = .ok (.invokevirtual 92, 3) := by decide +kernel
theorem dX10_passDays_85 : decode cX10_passDays 85 = .ok (.if_icmp .ge 43, 3) := by decide +kernel
theorem dX10_passDays_88 : decode cX10_passDays 88 = .ok (.aload_n 0, 1) := by decide +kernel
theorem dX10_passDays_89 : decode cX10_passDays 89 = .ok (.getfield 27, 3) := by decide +kernel
theorem dX10_passDays_92 : decode cX10_passDays 92 = .ok (.iload_n 3, 1) := by decide +kernel
theorem dX10_passDays_93 : decode cX10_passDays 93 = .ok (.aaload, 1) := by decide +kernel
theorem dX10_passDays_94 : decode cX10_passDays 94 = .ok (.getfield 95, 3) := by decide +kernel
theorem dX10_passDays_97 : decode cX10_passDays 97 = .ok (.ifCond .ne 25, 3) := by decide +kernel
theorem dX10_passDays_100 : decode cX10_passDays 100 = .ok (.aload_n 0, 1) := by decide +kernel
theorem dX10_passDays_101 : decode cX10_passDays 101 = .ok (.iload_n 3, 1) := by decide +kernel
theorem dX10_passDays_102 : decode cX10_passDays 102 = .ok (.invokevirtual 84, 3) := by decide +kernel
theorem dX10_passDays_105 : decode cX10_passDays 105 = .ok (.aload_n 0, 1) := by decide +kernel
theorem dX10_passDays_106 : decode cX10_passDays 106 = .ok (.getfield 39, 3) := by decide +kernel
theorem dX10_passDays_109 : decode cX10_passDays 109 = .ok (.if_icmp .ge 13, 3) := by decide +kernel
theorem dX10_passDays_112 : decode cX10_passDays 112 = .ok (.aload_n 0, 1) := by decide +kernel
theorem dX10_passDays_113 : decode cX10_passDays 113 = .ok (.getfield 27, 3) := by decide +kernel
theorem dX10_passDays_116 : decode cX10_passDays 116 = .ok (.iload_n 3, 1) := by decide +kernel
theorem dX10_passDays_117 : decode cX10_passDays 117 = .ok (.aaload, 1) := by decide +kernel
theorem dX10_passDays_118 : decode cX10_passDays 118 = .ok (.iconst 3, 1) := by decide +kernel
theorem dX10_passDays_119 : decode cX10_passDays 119 = .ok (.putfield 95, 3) := by decide +kernel
theorem dX10_passDays_122 : decode cX10_passDays 122 = .ok (.iinc 3 1, 3) := by decide +kernel
theorem dX10_passDays_125 : decode cX10_passDays 125 = .ok (.goto (-49), 3) := by decide +kernel
theorem dX10_passDays_128 : decode cX10_passDays 128 = .ok (.iload_n 2, 1) := by decide +kernel
theorem dX10_passDays_129 : decode cX10_passDays 129 = .ok (.ireturn, 1) := by decide +kernel
theorem hd_X10_passDays : yX10_passDays.cls = RX10 ∧ yX10_passDays.cls ≠ "java/lang/invoke/MethodHandle" ∧ yX10_passDays.cls ≠ "java/lang/invoke/VarHandle" ∧ (parseMethodDescriptor yX10_passDays.desc).map (fun d => d.parameters.length) = some 1 := by decide +kernel
theorem hs_X10_passDays : yX10_passDays.cls ≠ "java/lang/invoke/MethodHandle" ∧ yX10_passDays.cls ≠ "java/lang/invoke/VarHandle" ∧ (parseMethodDescriptor yX10_passDays.desc).map (fun d => d.parameters.length) = some 1 := by decide +kernel
set_option maxHeartbeats 4000000 in
set_option maxRecDepth 100000 in
theorem l_X10_passDays_L14 (C : CX p l e s m args meth c cX10_passDays 4 RX10 (Option.some Jvm.ClassFile.FieldType.int) E) {o : Nat} (ho : K o = some (9, 0)) {r : Int32} {w' : Wd} (k : Int32 → Int32 → Int32 → Wd → Option (Int32 × Wd)) (hk : ∀ (v1_14 : Int32) (v2_14 : Int32) (v3_14 : Int32) (w : Wd) (H : Heap) (locs : List Loc) (ls : Array Slot), HQ E K z w s H locs → lv_has ls 4 [(1, .int v1_14), (2, .int v2_14), (3, .int v3_14), (0, rv E (some o))] → k v1_14 v2_14 v3_14 w = some (r, w') → W p l e ({ frames := 3, cells := 0, slots := 0, locals := 66 } : Room) s m args below meth c H locs 0 0 (MQ below (QI E K z w' r) args s 0 0 (hA E)) (F0 m 74 ls [])) : ∀ (n : Nat) (v1_14 : Int32) (v2_14 : Int32) (v3_14 : Int32) (w : Wd) (H : Heap) (locs : List Loc) (ls : Array Slot), HQ E K z w s H locs → lv_has ls 4 [(1, .int v1_14), (2, .int v2_14), (3, .int v3_14), (0, rv E (some o))] → f_X10_passDays_L14 K o k n v1_14 v2_14 v3_14 w = some (r, w') → W p l e ({ frames := 3, cells := 0, slots := 0, locals := 66 } : Room) s m args below meth c H locs 0 0 (MQ below (QI E K z w' r) args s 0 0 (hA E)) (F0 m 14 ls []) := by
  obtain ⟨hx, hb, hml, hown, hts, hKs, hT, hb0, hlocks, hret⟩ := id C
  intro n
  induction n with
  | zero =>
    intro v1_14 v2_14 v3_14 w H locs ls hH hl hf
    cases hf
  | succ n ih =>
    intro v1_14 v2_14 v3_14 w H locs ls hH hl hf
    rw [f_X10_passDays_L14] at hf
    refine lv_iload_n hx hb dX10_passDays_14 rfl (lv_at hl 2 rfl) ?_
    refine hl_aload_n hx hb dX10_passDays_15 rfl (lv_at hl 3 rfl) ?_
    refine g10_0 hx hb hts hown hKs hH rfl ho m2_119 dX10_passDays_16 ?_
    refine lv_iconst (v := 3) hx hb dX10_passDays_19 (by decide) ?_
    obtain ⟨a3, ha3, hf⟩ := bnd hf
    replace ha3 := chk_some ha3
    obtain ⟨q4, hq4, hf⟩ := bnd hf
    refine hcV_i hx hb hml hown hts hKs hT hb0 hH (As := [.int 3]) (rest := [.int v3_14]) (k_X9_size l E K H.size a3 3 w ha3.2 hq4) (gV m4_6 m3_151 m3_152 m1_2 m3_153) hd_X9_size ⟨Nat.le_of_ble_eq_true rfl, Nat.le_of_ble_eq_true rfl, rfl, rfl⟩ ha3.1 ha3.2 rfl rfl rfl hl.1 rfl (rcI rc0) rfl dX10_passDays_20 ⟨Nat.zero_le _, Nat.zero_le _⟩ (fun H locs hH => ?_)
    refine lv_icmp_ge (tgt := 74) hx hb dX10_passDays_23 (by decide) (fun c5 => ?_) (fun c5 => ?_)
    · replace hf := (if_pos c5).symm.trans hf
      exact hk v1_14 v2_14 v3_14 _ _ _ _ hH (lv_sub hl [0, 1, 2, 3] rfl) hf
    · replace hf := (if_neg c5).symm.trans hf
      refine hl_aload_n hx hb dX10_passDays_26 rfl (lv_at hl 3 rfl) ?_
      refine g10_5 hx hb hts hown hKs hH rfl ho m2_133 dX10_passDays_27 ?_
      refine lv_iload_n hx hb dX10_passDays_30 rfl (lv_at hl 2 rfl) ?_
      obtain ⟨a6, ha6, hf⟩ := bnd hf
      replace ha6 := cha_some ha6
      obtain ⟨j7, hj7, hf⟩ := bnd hf
      refine hw_aald27 hx hb hKs hH ha6.1 ha6.2 hj7 dX10_passDays_31 ?_
      obtain ⟨a8, ha8, hf⟩ := bnd hf
      replace ha8 := chk_some ha8
      refine gn7_0 hx hb hts hown hKs hH ha8.1 ha8.2 m2_70 dX10_passDays_32 ?_
      refine lv_iconst (v := 1) hx hb dX10_passDays_35 (by decide) ?_
      refine lv_icmp_ne (tgt := 68) hx hb dX10_passDays_36 (by decide) (fun c9 => ?_) (fun c9 => ?_)
      · replace hf := (if_neg c9).symm.trans hf
        refine lv_iinc (v := (v3_14 + 1)) (lv' := [(3, .int ((v3_14 + 1))), (1, .int v1_14), (2, .int v2_14), (0, rv E (some o))]) hx hb dX10_passDays_68 hl (k := 2) rfl rfl (by decide) rfl (fun ls hl => ?_)
        refine lv_goto (tgt := 14) hx hb dX10_passDays_71 (by decide) ?_
        exact ih v1_14 v2_14 (v3_14 + 1) _ _ _ _ hH (lv_sub hl [1, 2, 0, 3] rfl) hf
      · replace hf := (if_pos c9).symm.trans hf
        refine hl_aload_n hx hb dX10_passDays_39 rfl (lv_at hl 3 rfl) ?_
        refine g10_5 hx hb hts hown hKs hH rfl ho m2_133 dX10_passDays_40 ?_
        refine lv_iload_n hx hb dX10_passDays_43 rfl (lv_at hl 2 rfl) ?_
        obtain ⟨j10, hj10, hf⟩ := bnd hf
        refine hw_aald27 hx hb hKs hH ha6.1 ha6.2 hj10 dX10_passDays_44 ?_
        obtain ⟨a11, ha11, hf⟩ := bnd hf
        replace ha11 := chk_some ha11
        refine gn7_2 hx hb hts hown hKs hH ha11.1 ha11.2 m2_76 dX10_passDays_45 ?_
        refine hl_aload_n hx hb dX10_passDays_48 rfl (lv_at hl 3 rfl) ?_
        refine g10_1 hx hb hts hown hKs hH rfl ho m2_123 dX10_passDays_49 ?_
        refine lv_icmp_ge (tgt := 68) hx hb dX10_passDays_52 (by decide) (fun c12 => ?_) (fun c12 => ?_)
        · replace hf := (if_pos c12).symm.trans hf
          refine lv_iinc (v := (v3_14 + 1)) (lv' := [(3, .int ((v3_14 + 1))), (1, .int v1_14), (2, .int v2_14), (0, rv E (some o))]) hx hb dX10_passDays_68 hl (k := 2) rfl rfl (by decide) rfl (fun ls hl => ?_)
          refine lv_goto (tgt := 14) hx hb dX10_passDays_71 (by decide) ?_
          exact ih v1_14 v2_14 (v3_14 + 1) _ _ _ _ hH (lv_sub hl [1, 2, 0, 3] rfl) hf
        · replace hf := (if_neg c12).symm.trans hf
          refine hl_aload_n hx hb dX10_passDays_55 rfl (lv_at hl 3 rfl) ?_
          refine g10_5 hx hb hts hown hKs hH rfl ho m2_133 dX10_passDays_56 ?_
          refine lv_iload_n hx hb dX10_passDays_59 rfl (lv_at hl 2 rfl) ?_
          obtain ⟨j13, hj13, hf⟩ := bnd hf
          refine hw_aald27 hx hb hKs hH ha6.1 ha6.2 hj13 dX10_passDays_60 ?_
          refine lv_iconst (v := 2) hx hb dX10_passDays_61 (by decide) ?_
          obtain ⟨a14, ha14, hf⟩ := bnd hf
          replace ha14 := chk_some ha14
          obtain ⟨w15, hw15, hf⟩ := bnd hf
          replace hw15 := Option.some.inj hw15
          refine pn7_0 (v := 2) hx hb hts hown hKs hH ha14.1 ha14.2 m2_70 dX10_passDays_62 (fun H locs hH => ?_)
          rw [hw15] at hH
          refine lv_iinc (v := (v2_14 + 1)) (lv' := [(2, .int ((v2_14 + 1))), (1, .int v1_14), (3, .int v3_14), (0, rv E (some o))]) hx hb dX10_passDays_65 hl (k := 1) rfl rfl (by decide) rfl (fun ls hl => ?_)
          refine lv_iinc (v := (v3_14 + 1)) (lv' := [(3, .int ((v3_14 + 1))), (2, .int ((v2_14 + 1))), (1, .int v1_14), (0, rv E (some o))]) hx hb dX10_passDays_68 hl (k := 2) rfl rfl (by decide) rfl (fun ls hl => ?_)
          refine lv_goto (tgt := 14) hx hb dX10_passDays_71 (by decide) ?_
          exact ih v1_14 (v2_14 + 1) (v3_14 + 1) _ _ _ _ hH (lv_sub hl [2, 1, 0, 3] rfl) hf
set_option maxHeartbeats 4000000 in
set_option maxRecDepth 100000 in
theorem l_X10_passDays_L76 (C : CX p l e s m args meth c cX10_passDays 4 RX10 (Option.some Jvm.ClassFile.FieldType.int) E) {o : Nat} (ho : K o = some (9, 0)) {r : Int32} {w' : Wd} (k : Int32 → Int32 → Int32 → Wd → Option (Int32 × Wd)) (hk : ∀ (v1_76 : Int32) (v2_76 : Int32) (v3_76 : Int32) (w : Wd) (H : Heap) (locs : List Loc) (ls : Array Slot), HQ E K z w s H locs → lv_has ls 4 [(1, .int v1_76), (2, .int v2_76), (3, .int v3_76), (0, rv E (some o))] → k v1_76 v2_76 v3_76 w = some (r, w') → W p l e ({ frames := 3, cells := 0, slots := 0, locals := 66 } : Room) s m args below meth c H locs 0 0 (MQ below (QI E K z w' r) args s 0 0 (hA E)) (F0 m 128 ls [])) : ∀ (n : Nat) (v1_76 : Int32) (v2_76 : Int32) (v3_76 : Int32) (w : Wd) (H : Heap) (locs : List Loc) (ls : Array Slot), HQ E K z w s H locs → lv_has ls 4 [(1, .int v1_76), (2, .int v2_76), (3, .int v3_76), (0, rv E (some o))] → f_X10_passDays_L76 K o k n v1_76 v2_76 v3_76 w = some (r, w') → W p l e ({ frames := 3, cells := 0, slots := 0, locals := 66 } : Room) s m args below meth c H locs 0 0 (MQ below (QI E K z w' r) args s 0 0 (hA E)) (F0 m 76 ls []) := by
  obtain ⟨hx, hb, hml, hown, hts, hKs, hT, hb0, hlocks, hret⟩ := id C
  intro n
  induction n with
  | zero =>
    intro v1_76 v2_76 v3_76 w H locs ls hH hl hf
    cases hf
  | succ n ih =>
    intro v1_76 v2_76 v3_76 w H locs ls hH hl hf
    rw [f_X10_passDays_L76] at hf
    refine lv_iload_n hx hb dX10_passDays_76 rfl (lv_at hl 2 rfl) ?_
    refine hl_aload_n hx hb dX10_passDays_77 rfl (lv_at hl 3 rfl) ?_
    refine g10_0 hx hb hts hown hKs hH rfl ho m2_119 dX10_passDays_78 ?_
    refine lv_iconst (v := 3) hx hb dX10_passDays_81 (by decide) ?_
    obtain ⟨a17, ha17, hf⟩ := bnd hf
    replace ha17 := chk_some ha17
    obtain ⟨q18, hq18, hf⟩ := bnd hf
    refine hcV_i hx hb hml hown hts hKs hT hb0 hH (As := [.int 3]) (rest := [.int v3_76]) (k_X9_size l E K H.size a17 3 w ha17.2 hq18) (gV m4_6 m3_151 m3_152 m1_2 m3_153) hd_X9_size ⟨Nat.le_of_ble_eq_true rfl, Nat.le_of_ble_eq_true rfl, rfl, rfl⟩ ha17.1 ha17.2 rfl rfl rfl hl.1 rfl (rcI rc0) rfl dX10_passDays_82 ⟨Nat.zero_le _, Nat.zero_le _⟩ (fun H locs hH => ?_)
    refine lv_icmp_ge (tgt := 128) hx hb dX10_passDays_85 (by decide) (fun c19 => ?_) (fun c19 => ?_)
    · replace hf := (if_pos c19).symm.trans hf
      exact hk v1_76 v2_76 v3_76 _ _ _ _ hH (lv_sub hl [0, 1, 2, 3] rfl) hf
    · replace hf := (if_neg c19).symm.trans hf
      refine hl_aload_n hx hb dX10_passDays_88 rfl (lv_at hl 3 rfl) ?_
      refine g10_5 hx hb hts hown hKs hH rfl ho m2_133 dX10_passDays_89 ?_
      refine lv_iload_n hx hb dX10_passDays_92 rfl (lv_at hl 2 rfl) ?_
      obtain ⟨a20, ha20, hf⟩ := bnd hf
      replace ha20 := cha_some ha20
      obtain ⟨j21, hj21, hf⟩ := bnd hf
      refine hw_aald27 hx hb hKs hH ha20.1 ha20.2 hj21 dX10_passDays_93 ?_
      obtain ⟨a22, ha22, hf⟩ := bnd hf
      replace ha22 := chk_some ha22
      refine gn7_0 hx hb hts hown hKs hH ha22.1 ha22.2 m2_70 dX10_passDays_94 ?_
      refine lv_if_ne (tgt := 122) hx hb dX10_passDays_97 (by decide) (fun c23 => ?_) (fun c23 => ?_)
      · replace hf := (if_neg c23).symm.trans hf
        refine lv_iinc (v := (v3_76 + 1)) (lv' := [(3, .int ((v3_76 + 1))), (1, .int v1_76), (2, .int v2_76), (0, rv E (some o))]) hx hb dX10_passDays_122 hl (k := 2) rfl rfl (by decide) rfl (fun ls hl => ?_)
        refine lv_goto (tgt := 76) hx hb dX10_passDays_125 (by decide) ?_
        exact ih v1_76 v2_76 (v3_76 + 1) _ _ _ _ hH (lv_sub hl [1, 2, 0, 3] rfl) hf
      · replace hf := (if_pos c23).symm.trans hf
        refine hl_aload_n hx hb dX10_passDays_100 rfl (lv_at hl 3 rfl) ?_
        refine lv_iload_n hx hb dX10_passDays_101 rfl (lv_at hl 2 rfl) ?_
        obtain ⟨q24, hq24, hf⟩ := bnd hf
        refine hcV_i hx hb hml hown hts hKs hT hb0 hH (As := [.int v3_76]) (rest := []) (k_X10_limitDay l E K H.size o v3_76 q18.2 ho hq24) (gV m4_66 m4_67 m4_68 m1_12 m4_69) hd_X10_limitDay ⟨Nat.le_of_ble_eq_true rfl, Nat.le_of_ble_eq_true rfl, rfl, rfl⟩ rfl ho rfl rfl rfl hl.1 rfl rc0 rfl dX10_passDays_102 ⟨Nat.zero_le _, Nat.zero_le _⟩ (fun H locs hH => ?_)
        refine hl_aload_n hx hb dX10_passDays_105 rfl (lv_at hl 3 rfl) ?_
        refine g10_1 hx hb hts hown hKs hH rfl ho m2_123 dX10_passDays_106 ?_
        refine lv_icmp_ge (tgt := 122) hx hb dX10_passDays_109 (by decide) (fun c25 => ?_) (fun c25 => ?_)
        · replace hf := (if_pos c25).symm.trans hf
          refine lv_iinc (v := (v3_76 + 1)) (lv' := [(3, .int ((v3_76 + 1))), (1, .int v1_76), (2, .int v2_76), (0, rv E (some o))]) hx hb dX10_passDays_122 hl (k := 2) rfl rfl (by decide) rfl (fun ls hl => ?_)
          refine lv_goto (tgt := 76) hx hb dX10_passDays_125 (by decide) ?_
          exact ih v1_76 v2_76 (v3_76 + 1) _ _ _ _ hH (lv_sub hl [1, 2, 0, 3] rfl) hf
        · replace hf := (if_neg c25).symm.trans hf
          refine hl_aload_n hx hb dX10_passDays_112 rfl (lv_at hl 3 rfl) ?_
          refine g10_5 hx hb hts hown hKs hH rfl ho m2_133 dX10_passDays_113 ?_
          refine lv_iload_n hx hb dX10_passDays_116 rfl (lv_at hl 2 rfl) ?_
          obtain ⟨a26, ha26, hf⟩ := bnd hf
          replace ha26 := cha_some ha26
          obtain ⟨j27, hj27, hf⟩ := bnd hf
          refine hw_aald27 hx hb hKs hH ha26.1 ha26.2 hj27 dX10_passDays_117 ?_
          refine lv_iconst (v := 3) hx hb dX10_passDays_118 (by decide) ?_
          obtain ⟨a28, ha28, hf⟩ := bnd hf
          replace ha28 := chk_some ha28
          obtain ⟨w29, hw29, hf⟩ := bnd hf
          replace hw29 := Option.some.inj hw29
          refine pn7_0 (v := 3) hx hb hts hown hKs hH ha28.1 ha28.2 m2_70 dX10_passDays_119 (fun H locs hH => ?_)
          rw [hw29] at hH
          refine lv_iinc (v := (v3_76 + 1)) (lv' := [(3, .int ((v3_76 + 1))), (1, .int v1_76), (2, .int v2_76), (0, rv E (some o))]) hx hb dX10_passDays_122 hl (k := 2) rfl rfl (by decide) rfl (fun ls hl => ?_)
          refine lv_goto (tgt := 76) hx hb dX10_passDays_125 (by decide) ?_
          exact ih v1_76 v2_76 (v3_76 + 1) _ _ _ _ hH (lv_sub hl [1, 2, 0, 3] rfl) hf
set_option maxHeartbeats 4000000 in
set_option maxRecDepth 100000 in
theorem k_X10_passDays (l : Launch) (E : Ev) (K : Kd) (z : Nat) (o : Nat) (a_1 : Int32) (w : Wd) (ho : K o = some (9, 0)) {r : Int32} {w' : Wd} (hf : f_X10_passDays K o a_1 w = some (r, w')) : Met l yX10_passDays (Cond.code yX10_passDays cX10_passDays 4 (Option.some Jvm.ClassFile.FieldType.int) :: bt) ({ frames := 3, cells := 0, slots := 0, locals := 66 } : Room) (va_Pc [rv E (some o), .int a_1] (HB E K w z)) (QI E K z w' r) 0 0 (hA E) := by
  refine Met.ofW (cc := cX10_passDays) (maxL := 4) (ret := (Option.some Jvm.ClassFile.FieldType.int)) (by decide) rfl ?_
  intro p e s m args below meth c s₁ B hml hv
  obtain ⟨rfl, hz, hP, hKs, hT, hb0⟩ := hv
  have C : CX p l e s m _ meth c cX10_passDays 4 RX10 (Option.some Jvm.ClassFile.FieldType.int) E := ⟨B.exec, B.bytes, hml, findClass_of_methodNamed B.named, fun w h => atoms_spec (ws := Cond.code yX10_passDays cX10_passDays 4 (Option.some Jvm.ClassFile.FieldType.int) :: bt) B.pre w (List.mem_cons_of_mem _ h), hKs, hT, by rw [hz]; exact hb0, B.notSynchronized, B.returns⟩
  have hH : HQ E K z w s s.heap [] := ⟨hP, va_S.rf, hz⟩
  obtain ⟨hx, hb, hml, hown, hts, hKs, hT, hb0, hlocks, hret⟩ := id C
  have hl := lv_entry [rv E (some o), .int a_1] (n := 4) (by simp [lg_len_nil, lg_len_i, lg_len_j, lg_len_q])
  rw [lg_entry_eq]
  generalize (lg_sl [rv E (some o), .int a_1] ++ List.replicate (4 - (lg_sl [rv E (some o), .int a_1]).length) Slot.unset).toArray = ls at hl ⊢
  replace hl : lv_has ls 4 [(0, rv E (some o)), (1, .int a_1)] := by simpa only [lv_args, cat_q, cat_i, cat_j, reduceIte, Nat.reduceEqDiff, Nat.reduceAdd, Nat.zero_add] using hl
  generalize s.heap = H at hH ⊢
  unfold f_X10_passDays at hf
  refine lv_iconst (v := 0) hx hb dX10_passDays_0 (by decide) ?_
  refine lv_istore_n (lv' := [(2, .int 0), (0, rv E (some o)), (1, .int a_1)]) hx hb dX10_passDays_1 rfl hl (by decide) rfl (fun ls hl => ?_)
  refine hl_aload_n hx hb dX10_passDays_2 rfl (lv_at hl 1 rfl) ?_
  refine lv_dup hx hb dX10_passDays_3 rv_cat ?_
  refine g10_1 hx hb hts hown hKs hH rfl ho m2_123 dX10_passDays_4 ?_
  refine lv_iload_n hx hb dX10_passDays_7 rfl (lv_at hl 2 rfl) ?_
  refine lv_iadd hx hb dX10_passDays_8 ?_
  obtain ⟨w1, hw1, hf⟩ := bnd hf
  replace hw1 := Option.some.inj hw1
  refine p10_1 (v := ((wI w 1001 o) + a_1)) hx hb hts hown hKs hH rfl ho m2_123 dX10_passDays_9 (fun H locs hH => ?_)
  rw [hw1] at hH
  refine lv_iconst (v := 0) hx hb dX10_passDays_12 (by decide) ?_
  refine lv_istore_n (lv' := [(3, .int 0), (2, .int 0), (0, rv E (some o)), (1, .int a_1)]) hx hb dX10_passDays_13 rfl hl (by decide) rfl (fun ls hl => ?_)
  refine l_X10_passDays_L14  C ho _ (fun v1_14 v2_14 v3_14 w2 H locs ls hH hl hf => ?_) fu a_1 0 0 w1 _ _ _ hH (lv_sub hl [3, 1, 0, 2] rfl) hf
  refine lv_iconst (v := 0) hx hb dX10_passDays_74 (by decide) ?_
  refine lv_istore_n (lv' := [(3, .int 0), (1, .int v1_14), (2, .int v2_14), (0, rv E (some o))]) hx hb dX10_passDays_75 rfl hl (by decide) rfl (fun ls hl => ?_)
  refine l_X10_passDays_L76  C ho _ (fun v1_76 v2_76 v3_76 w16 H locs ls hH hl hf => ?_) fu v1_14 v2_14 0 w2 _ _ _ hH (lv_sub hl [1, 2, 0, 3] rfl) hf
  refine lv_iload_n hx hb dX10_passDays_128 rfl (lv_at hl 1 rfl) ?_
  exact hw_iret hx hb hret hf hH hlocks dX10_passDays_129

theorem dX11_ofWord_0 : decode cX11_ofWord 0 = .ok (.iconst 0, 1) := by decide +kernel
theorem dX11_ofWord_1 : decode cX11_ofWord 1 = .ok (.istore_n 2, 1) := by decide +kernel
theorem dX11_ofWord_2 : decode cX11_ofWord 2 = .ok (.iload_n 2, 1) := by decide +kernel
theorem dX11_ofWord_3 : decode cX11_ofWord 3 = .ok (.getstatic 100, 3) := by decide +kernel
theorem dX11_ofWord_6 : decode cX11_ofWord 6 = .ok (.arraylength, 1) := by decide +kernel
theorem dX11_ofWord_7 : decode cX11_ofWord 7 = .ok (.if_icmp .ge 28, 3) := by decide +kernel
theorem dX11_ofWord_10 : decode cX11_ofWord 10 = .ok (.getstatic 100, 3) := by decide +kernel
theorem dX11_ofWord_13 : decode cX11_ofWord 13 = .ok (.iload_n 2, 1) := by decide +kernel
theorem dX11_ofWord_14 : decode cX11_ofWord 14 = .ok (.aaload, 1) := by decide +kernel
theorem dX11_ofWord_15 : decode cX11_ofWord 15 = .ok (.getfield 96, 3) := by decide +kernel
theorem dX11_ofWord_18 : decode cX11_ofWord 18 = .ok (.lload_n 0, 1) := by decide +kernel
theorem dX11_ofWord_19 : decode cX11_ofWord 19 = .ok (.lcmp, 1) := by decide +kernel
theorem dX11_ofWord_20 : decode cX11_ofWord 20 = .ok (.ifCond .ne 9, 3) := by decide +kernel
theorem dX11_ofWord_23 : decode cX11_ofWord 23 = .ok (.getstatic 100, 3) := by decide +kernel
theorem dX11_ofWord_26 : decode cX11_ofWord 26 = .ok (.iload_n 2, 1) := by decide +kernel
theorem dX11_ofWord_27 : decode cX11_ofWord 27 = .ok (.aaload, 1) := by decide +kernel
theorem dX11_ofWord_28 : decode cX11_ofWord 28 = .ok (.areturn, 1) := by decide +kernel
theorem dX11_ofWord_29 : decode cX11_ofWord 29 = .ok (.iinc 2 1, 3) := by decide +kernel
theorem dX11_ofWord_32 : decode cX11_ofWord 32 = .ok (.goto (-30), 3) := by decide +kernel
theorem dX11_ofWord_35 : decode cX11_ofWord 35 = .ok (.getstatic 52, 3) := by decide +kernel
theorem dX11_ofWord_38 : decode cX11_ofWord 38 = .ok (.areturn, 1) := by decide +kernel
theorem hs_X11_ofWord : yX11_ofWord.cls ≠ "java/lang/invoke/MethodHandle" ∧ yX11_ofWord.cls ≠ "java/lang/invoke/VarHandle" ∧ (parseMethodDescriptor yX11_ofWord.desc).map (fun d => d.parameters.length) = some 1 := by decide +kernel
set_option maxHeartbeats 4000000 in
set_option maxRecDepth 100000 in
theorem l_X11_ofWord_L2 (C : CX p l e s m args meth c cX11_ofWord 3 RX11 (Option.some (Jvm.ClassFile.FieldType.object RX11)) E) {r : Option Nat} {w' : Wd} (k : Int64 → Int32 → Wd → Option (Option Nat × Wd)) (hk : ∀ (v0_2 : Int64) (v2_2 : Int32) (w : Wd) (H : Heap) (locs : List Loc) (ls : Array Slot), HQ E K z w s H locs → lv_has ls 3 [(0, .long v0_2), (2, .int v2_2)] → k v0_2 v2_2 w = some (r, w') → W p l e ({ frames := 0, cells := 0, slots := 0, locals := 0 } : Room) s m args below meth c H locs 0 0 (MQ below (QT E K z w' r) args s 0 0 (hA E)) (F0 m 35 ls [])) : ∀ (n : Nat) (v0_2 : Int64) (v2_2 : Int32) (w : Wd) (H : Heap) (locs : List Loc) (ls : Array Slot), HQ E K z w s H locs → lv_has ls 3 [(0, .long v0_2), (2, .int v2_2)] → f_X11_ofWord_L2 K k n v0_2 v2_2 w = some (r, w') → W p l e ({ frames := 0, cells := 0, slots := 0, locals := 0 } : Room) s m args below meth c H locs 0 0 (MQ below (QT E K z w' r) args s 0 0 (hA E)) (F0 m 2 ls []) := by
  obtain ⟨hx, hb, hml, hown, hts, hKs, hT, hb0, hlocks, hret⟩ := id C
  intro n
  induction n with
  | zero =>
    intro v0_2 v2_2 w H locs ls hH hl hf
    cases hf
  | succ n ih =>
    intro v0_2 v2_2 w H locs ls hH hl hf
    rw [f_X11_ofWord_L2] at hf
    refine lv_iload_n hx hb dX11_ofWord_2 rfl (lv_at hl 1 rfl) ?_
    refine hw_all hx hb hts hown hT hH m3_68 dX11_ofWord_3 ?_
    refine hw_alllen hx hb hT hH dX11_ofWord_6 ?_
    refine lv_icmp_ge (tgt := 35) hx hb dX11_ofWord_7 (by decide) (fun c2 => ?_) (fun c2 => ?_)
    · replace hf := (if_pos c2).symm.trans hf
      exact hk v0_2 v2_2 _ _ _ _ hH (lv_sub hl [0, 1] rfl) hf
    · replace hf := (if_neg c2).symm.trans hf
      refine hw_all hx hb hts hown hT hH m3_68 dX11_ofWord_10 ?_
      refine lv_iload_n hx hb dX11_ofWord_13 rfl (lv_at hl 1 rfl) ?_
      obtain ⟨j3, hj3, hf⟩ := bnd hf
      refine hw_allat hx hb hT hH hj3 dX11_ofWord_14 ?_
      refine hw_packed hx hb (ixa_lt hj3) hts hown hT hH m9_209 dX11_ofWord_15 ?_
      refine lv_lload_n hx hb dX11_ofWord_18 rfl (lv_at hl 0 rfl) ?_
      refine W.lcmp hx hb dX11_ofWord_19 ?_
      refine lv_if_ne (tgt := 29) hx hb dX11_ofWord_20 (by decide) (fun c4 => ?_) (fun c4 => ?_)
      · replace hf := (if_neg c4).symm.trans hf
        refine lv_iinc (v := (v2_2 + 1)) (lv' := [(2, .int ((v2_2 + 1))), (0, .long v0_2)]) hx hb dX11_ofWord_29 hl (k := 1) rfl rfl (by decide) rfl (fun ls hl => ?_)
        refine lv_goto (tgt := 2) hx hb dX11_ofWord_32 (by decide) ?_
        exact ih v0_2 (v2_2 + 1) _ _ _ _ hH (lv_sub hl [1, 0] rfl) hf
      · replace hf := (if_pos c4).symm.trans hf
        refine hw_all hx hb hts hown hT hH m3_68 dX11_ofWord_23 ?_
        refine lv_iload_n hx hb dX11_ofWord_26 rfl (lv_at hl 1 rfl) ?_
        obtain ⟨j5, hj5, hf⟩ := bnd hf
        refine hw_allat hx hb hT hH hj5 dX11_ofWord_27 ?_
        exact hw_tret hx hb hret (by simp) hf hH hlocks dX11_ofWord_28
set_option maxHeartbeats 4000000 in
set_option maxRecDepth 100000 in
theorem k_X11_ofWord (l : Launch) (E : Ev) (K : Kd) (z : Nat) (a_0 : Int64) (w : Wd) {r : Option Nat} {w' : Wd} (hf : f_X11_ofWord K a_0 w = some (r, w')) : Met l yX11_ofWord (Cond.code yX11_ofWord cX11_ofWord 3 (Option.some (Jvm.ClassFile.FieldType.object RX11)) :: bt) ({ frames := 0, cells := 0, slots := 0, locals := 0 } : Room) (va_Pc [.long a_0] (HB E K w z)) (QT E K z w' r) 0 0 (hA E) := by
  refine Met.ofW (cc := cX11_ofWord) (maxL := 3) (ret := (Option.some (Jvm.ClassFile.FieldType.object RX11))) (by decide) rfl ?_
  intro p e s m args below meth c s₁ B hml hv
  obtain ⟨rfl, hz, hP, hKs, hT, hb0⟩ := hv
  have C : CX p l e s m _ meth c cX11_ofWord 3 RX11 (Option.some (Jvm.ClassFile.FieldType.object RX11)) E := ⟨B.exec, B.bytes, hml, findClass_of_methodNamed B.named, fun w h => atoms_spec (ws := Cond.code yX11_ofWord cX11_ofWord 3 (Option.some (Jvm.ClassFile.FieldType.object RX11)) :: bt) B.pre w (List.mem_cons_of_mem _ h), hKs, hT, by rw [hz]; exact hb0, B.notSynchronized, B.returns⟩
  have hH : HQ E K z w s s.heap [] := ⟨hP, va_S.rf, hz⟩
  obtain ⟨hx, hb, hml, hown, hts, hKs, hT, hb0, hlocks, hret⟩ := id C
  have hl := lv_entry [.long a_0] (n := 3) (by simp [lg_len_nil, lg_len_i, lg_len_j, lg_len_q])
  rw [lg_entry_eq]
  generalize (lg_sl [.long a_0] ++ List.replicate (3 - (lg_sl [.long a_0]).length) Slot.unset).toArray = ls at hl ⊢
  replace hl : lv_has ls 3 [(0, .long a_0)] := by simpa only [lv_args, cat_q, cat_i, cat_j, reduceIte, Nat.reduceEqDiff, Nat.reduceAdd, Nat.zero_add] using hl
  generalize s.heap = H at hH ⊢
  unfold f_X11_ofWord at hf
  refine lv_iconst (v := 0) hx hb dX11_ofWord_0 (by decide) ?_
  refine lv_istore_n (lv' := [(2, .int 0), (0, .long a_0)]) hx hb dX11_ofWord_1 rfl hl (by decide) rfl (fun ls hl => ?_)
  refine l_X11_ofWord_L2  C _ (fun v0_2 v2_2 w1 H locs ls hH hl hf => ?_) fu a_0 0 w _ _ _ hH (lv_sub hl [1, 0] rfl) hf
  refine hw_tok hx hb 16 (by decide) hts hown hT hH m3_70 dX11_ofWord_35 ?_
  exact hw_tret hx hb hret (by simp) hf hH hlocks dX11_ofWord_38

theorem dJ6_bitCount_0f7a4_0 : decode cJ6_bitCount_0f7a4 0 = .ok (.iload_n 0, 1) := by decide +kernel
theorem dJ6_bitCount_0f7a4_1 : decode cJ6_bitCount_0f7a4 1 = .ok (.iload_n 0, 1) := by decide +kernel
theorem dJ6_bitCount_0f7a4_2 : decode cJ6_bitCount_0f7a4 2 = .ok (.iconst 1, 1) := by decide +kernel
theorem dJ6_bitCount_0f7a4_3 : decode cJ6_bitCount_0f7a4 3 = .ok (.iushr, 1) := by decide +kernel
theorem dJ6_bitCount_0f7a4_4 : decode cJ6_bitCount_0f7a4 4 = .ok (.ldc_w 265, 3) := by decide +kernel
theorem dJ6_bitCount_0f7a4_7 : decode cJ6_bitCount_0f7a4 7 = .ok (.iand, 1) := by decide +kernel
theorem dJ6_bitCount_0f7a4_8 : decode cJ6_bitCount_0f7a4 8 = .ok (.isub, 1) := by decide +kernel
theorem dJ6_bitCount_0f7a4_9 : decode cJ6_bitCount_0f7a4 9 = .ok (.istore_n 0, 1) := by decide +kernel
theorem dJ6_bitCount_0f7a4_10 : decode cJ6_bitCount_0f7a4 10 = .ok (.iload_n 0, 1) := by decide +kernel
theorem dJ6_bitCount_0f7a4_11 : decode cJ6_bitCount_0f7a4 11 = .ok (.ldc_w 266, 3) := by decide +kernel
theorem dJ6_bitCount_0f7a4_14 : decode cJ6_bitCount_0f7a4 14 = .ok (.iand, 1) := by decide +kernel
theorem dJ6_bitCount_0f7a4_15 : decode cJ6_bitCount_0f7a4 15 = .ok (.iload_n 0, 1) := by decide +kernel
theorem dJ6_bitCount_0f7a4_16 : decode cJ6_bitCount_0f7a4 16 = .ok (.iconst 2, 1) := by decide +kernel
theorem dJ6_bitCount_0f7a4_17 : decode cJ6_bitCount_0f7a4 17 = .ok (.iushr, 1) := by decide +kernel
theorem dJ6_bitCount_0f7a4_18 : decode cJ6_bitCount_0f7a4 18 = .ok (.ldc_w 266, 3) := by decide +kernel
theorem dJ6_bitCount_0f7a4_21 : decode cJ6_bitCount_0f7a4 21 = .ok (.iand, 1) := by decide +kernel
theorem dJ6_bitCount_0f7a4_22 : decode cJ6_bitCount_0f7a4 22 = .ok (.iadd, 1) := by decide +kernel
theorem dJ6_bitCount_0f7a4_23 : decode cJ6_bitCount_0f7a4 23 = .ok (.istore_n 0, 1) := by decide +kernel
theorem dJ6_bitCount_0f7a4_24 : decode cJ6_bitCount_0f7a4 24 = .ok (.iload_n 0, 1) := by decide +kernel
theorem dJ6_bitCount_0f7a4_25 : decode cJ6_bitCount_0f7a4 25 = .ok (.iload_n 0, 1) := by decide +kernel
theorem dJ6_bitCount_0f7a4_26 : decode cJ6_bitCount_0f7a4 26 = .ok (.iconst 4, 1) := by decide +kernel
theorem dJ6_bitCount_0f7a4_27 : decode cJ6_bitCount_0f7a4 27 = .ok (.iushr, 1) := by decide +kernel
theorem dJ6_bitCount_0f7a4_28 : decode cJ6_bitCount_0f7a4 28 = .ok (.iadd, 1) := by decide +kernel
theorem dJ6_bitCount_0f7a4_29 : decode cJ6_bitCount_0f7a4 29 = .ok (.ldc_w 267, 3) := by decide +kernel
theorem dJ6_bitCount_0f7a4_32 : decode cJ6_bitCount_0f7a4 32 = .ok (.iand, 1) := by decide +kernel
theorem dJ6_bitCount_0f7a4_33 : decode cJ6_bitCount_0f7a4 33 = .ok (.istore_n 0, 1) := by decide +kernel
theorem dJ6_bitCount_0f7a4_34 : decode cJ6_bitCount_0f7a4 34 = .ok (.iload_n 0, 1) := by decide +kernel
theorem dJ6_bitCount_0f7a4_35 : decode cJ6_bitCount_0f7a4 35 = .ok (.iload_n 0, 1) := by decide +kernel
theorem dJ6_bitCount_0f7a4_36 : decode cJ6_bitCount_0f7a4 36 = .ok (.bipush 8, 2) := by decide +kernel
theorem dJ6_bitCount_0f7a4_38 : decode cJ6_bitCount_0f7a4 38 = .ok (.iushr, 1) := by decide +kernel
theorem dJ6_bitCount_0f7a4_39 : decode cJ6_bitCount_0f7a4 39 = .ok (.iadd, 1) := by decide +kernel
theorem dJ6_bitCount_0f7a4_40 : decode cJ6_bitCount_0f7a4 40 = .ok (.istore_n 0, 1) := by decide +kernel
theorem dJ6_bitCount_0f7a4_41 : decode cJ6_bitCount_0f7a4 41 = .ok (.iload_n 0, 1) := by decide +kernel
theorem dJ6_bitCount_0f7a4_42 : decode cJ6_bitCount_0f7a4 42 = .ok (.iload_n 0, 1) := by decide +kernel
theorem dJ6_bitCount_0f7a4_43 : decode cJ6_bitCount_0f7a4 43 = .ok (.bipush 16, 2) := by decide +kernel
theorem dJ6_bitCount_0f7a4_45 : decode cJ6_bitCount_0f7a4 45 = .ok (.iushr, 1) := by decide +kernel
theorem dJ6_bitCount_0f7a4_46 : decode cJ6_bitCount_0f7a4 46 = .ok (.iadd, 1) := by decide +kernel
theorem dJ6_bitCount_0f7a4_47 : decode cJ6_bitCount_0f7a4 47 = .ok (.istore_n 0, 1) := by decide +kernel
theorem dJ6_bitCount_0f7a4_48 : decode cJ6_bitCount_0f7a4 48 = .ok (.iload_n 0, 1) := by decide +kernel
theorem dJ6_bitCount_0f7a4_49 : decode cJ6_bitCount_0f7a4 49 = .ok (.bipush 63, 2) := by decide +kernel
theorem dJ6_bitCount_0f7a4_51 : decode cJ6_bitCount_0f7a4 51 = .ok (.iand, 1) := by decide +kernel
theorem dJ6_bitCount_0f7a4_52 : decode cJ6_bitCount_0f7a4 52 = .ok (.ireturn, 1) := by decide +kernel
theorem hs_J6_bitCount_0f7a4 : yJ6_bitCount_0f7a4.cls ≠ "java/lang/invoke/MethodHandle" ∧ yJ6_bitCount_0f7a4.cls ≠ "java/lang/invoke/VarHandle" ∧ (parseMethodDescriptor yJ6_bitCount_0f7a4.desc).map (fun d => d.parameters.length) = some 1 := by decide +kernel
set_option maxHeartbeats 4000000 in
set_option maxRecDepth 100000 in
theorem k_J6_bitCount_0f7a4 (l : Launch) (E : Ev) (K : Kd) (z : Nat) (a_0 : Int32) (w : Wd) {r : Int32} {w' : Wd} (hf : f_J6_bitCount_0f7a4 K a_0 w = some (r, w')) : Met l yJ6_bitCount_0f7a4 (Cond.code yJ6_bitCount_0f7a4 cJ6_bitCount_0f7a4 1 (Option.some Jvm.ClassFile.FieldType.int) :: bt) ({ frames := 0, cells := 0, slots := 0, locals := 0 } : Room) (va_Pc [.int a_0] (HB E K w z)) (QI E K z w' r) 0 0 (hA E) := by
  refine Met.ofW (cc := cJ6_bitCount_0f7a4) (maxL := 1) (ret := (Option.some Jvm.ClassFile.FieldType.int)) (by decide) rfl ?_
  intro p e s m args below meth c s₁ B hml hv
  obtain ⟨rfl, hz, hP, hKs, hT, hb0⟩ := hv
  have C : CX p l e s m _ meth c cJ6_bitCount_0f7a4 1 RJ6 (Option.some Jvm.ClassFile.FieldType.int) E := ⟨B.exec, B.bytes, hml, findClass_of_methodNamed B.named, fun w h => atoms_spec (ws := Cond.code yJ6_bitCount_0f7a4 cJ6_bitCount_0f7a4 1 (Option.some Jvm.ClassFile.FieldType.int) :: bt) B.pre w (List.mem_cons_of_mem _ h), hKs, hT, by rw [hz]; exact hb0, B.notSynchronized, B.returns⟩
  have hH : HQ E K z w s s.heap [] := ⟨hP, va_S.rf, hz⟩
  obtain ⟨hx, hb, hml, hown, hts, hKs, hT, hb0, hlocks, hret⟩ := id C
  have hl := lv_entry [.int a_0] (n := 1) (by simp [lg_len_nil, lg_len_i, lg_len_j, lg_len_q])
  rw [lg_entry_eq]
  generalize (lg_sl [.int a_0] ++ List.replicate (1 - (lg_sl [.int a_0]).length) Slot.unset).toArray = ls at hl ⊢
  replace hl : lv_has ls 1 [(0, .int a_0)] := by simpa only [lv_args, cat_q, cat_i, cat_j, reduceIte, Nat.reduceEqDiff, Nat.reduceAdd, Nat.zero_add] using hl
  generalize s.heap = H at hH ⊢
  unfold f_J6_bitCount_0f7a4 at hf
  refine lv_iload_n hx hb dJ6_bitCount_0f7a4_0 rfl (lv_at hl 0 rfl) ?_
  refine lv_iload_n hx hb dJ6_bitCount_0f7a4_1 rfl (lv_at hl 0 rfl) ?_
  refine lv_iconst (v := 1) hx hb dJ6_bitCount_0f7a4_2 (by decide) ?_
  refine lv_iushr (v := (ushr a_0 1)) hx hb dJ6_bitCount_0f7a4_3 rfl ?_
  refine lv_ldcw (v := 1431655765) hx hb hown (hts _ m4_10) dJ6_bitCount_0f7a4_4 ?_
  refine lv_iand hx hb dJ6_bitCount_0f7a4_7 ?_
  refine lv_isub hx hb dJ6_bitCount_0f7a4_8 ?_
  refine lv_istore_n (lv' := [(0, .int ((a_0 - ((ushr a_0 1) &&& 1431655765))))]) hx hb dJ6_bitCount_0f7a4_9 rfl hl (by decide) rfl (fun ls hl => ?_)
  refine lv_iload_n hx hb dJ6_bitCount_0f7a4_10 rfl (lv_at hl 0 rfl) ?_
  refine lv_ldcw (v := 858993459) hx hb hown (hts _ m4_11) dJ6_bitCount_0f7a4_11 ?_
  refine lv_iand hx hb dJ6_bitCount_0f7a4_14 ?_
  refine lv_iload_n hx hb dJ6_bitCount_0f7a4_15 rfl (lv_at hl 0 rfl) ?_
  refine lv_iconst (v := 2) hx hb dJ6_bitCount_0f7a4_16 (by decide) ?_
  refine lv_iushr (v := (ushr (a_0 - ((ushr a_0 1) &&& 1431655765)) 2)) hx hb dJ6_bitCount_0f7a4_17 rfl ?_
  refine lv_ldcw (v := 858993459) hx hb hown (hts _ m4_11) dJ6_bitCount_0f7a4_18 ?_
  refine lv_iand hx hb dJ6_bitCount_0f7a4_21 ?_
  refine lv_iadd hx hb dJ6_bitCount_0f7a4_22 ?_
  refine lv_istore_n (lv' := [(0, .int ((((a_0 - ((ushr a_0 1) &&& 1431655765)) &&& 858993459) + ((ushr (a_0 - ((ushr a_0 1) &&& 1431655765)) 2) &&& 858993459))))]) hx hb dJ6_bitCount_0f7a4_23 rfl hl (by decide) rfl (fun ls hl => ?_)
  refine lv_iload_n hx hb dJ6_bitCount_0f7a4_24 rfl (lv_at hl 0 rfl) ?_
  refine lv_iload_n hx hb dJ6_bitCount_0f7a4_25 rfl (lv_at hl 0 rfl) ?_
  refine lv_iconst (v := 4) hx hb dJ6_bitCount_0f7a4_26 (by decide) ?_
  refine lv_iushr (v := (ushr (((a_0 - ((ushr a_0 1) &&& 1431655765)) &&& 858993459) + ((ushr (a_0 - ((ushr a_0 1) &&& 1431655765)) 2) &&& 858993459)) 4)) hx hb dJ6_bitCount_0f7a4_27 rfl ?_
  refine lv_iadd hx hb dJ6_bitCount_0f7a4_28 ?_
  refine lv_ldcw (v := 252645135) hx hb hown (hts _ m4_12) dJ6_bitCount_0f7a4_29 ?_
  refine lv_iand hx hb dJ6_bitCount_0f7a4_32 ?_
  refine lv_istore_n (lv' := [(0, .int ((((((a_0 - ((ushr a_0 1) &&& 1431655765)) &&& 858993459) + ((ushr (a_0 - ((ushr a_0 1) &&& 1431655765)) 2) &&& 858993459)) + (ushr (((a_0 - ((ushr a_0 1) &&& 1431655765)) &&& 858993459) + ((ushr (a_0 - ((ushr a_0 1) &&& 1431655765)) 2) &&& 858993459)) 4)) &&& 252645135)))]) hx hb dJ6_bitCount_0f7a4_33 rfl hl (by decide) rfl (fun ls hl => ?_)
  refine lv_iload_n hx hb dJ6_bitCount_0f7a4_34 rfl (lv_at hl 0 rfl) ?_
  refine lv_iload_n hx hb dJ6_bitCount_0f7a4_35 rfl (lv_at hl 0 rfl) ?_
  refine lv_bipush (v := 8) hx hb dJ6_bitCount_0f7a4_36 (by decide) ?_
  refine lv_iushr (v := (ushr (((((a_0 - ((ushr a_0 1) &&& 1431655765)) &&& 858993459) + ((ushr (a_0 - ((ushr a_0 1) &&& 1431655765)) 2) &&& 858993459)) + (ushr (((a_0 - ((ushr a_0 1) &&& 1431655765)) &&& 858993459) + ((ushr (a_0 - ((ushr a_0 1) &&& 1431655765)) 2) &&& 858993459)) 4)) &&& 252645135) 8)) hx hb dJ6_bitCount_0f7a4_38 rfl ?_
  refine lv_iadd hx hb dJ6_bitCount_0f7a4_39 ?_
  refine lv_istore_n (lv' := [(0, .int (((((((a_0 - ((ushr a_0 1) &&& 1431655765)) &&& 858993459) + ((ushr (a_0 - ((ushr a_0 1) &&& 1431655765)) 2) &&& 858993459)) + (ushr (((a_0 - ((ushr a_0 1) &&& 1431655765)) &&& 858993459) + ((ushr (a_0 - ((ushr a_0 1) &&& 1431655765)) 2) &&& 858993459)) 4)) &&& 252645135) + (ushr (((((a_0 - ((ushr a_0 1) &&& 1431655765)) &&& 858993459) + ((ushr (a_0 - ((ushr a_0 1) &&& 1431655765)) 2) &&& 858993459)) + (ushr (((a_0 - ((ushr a_0 1) &&& 1431655765)) &&& 858993459) + ((ushr (a_0 - ((ushr a_0 1) &&& 1431655765)) 2) &&& 858993459)) 4)) &&& 252645135) 8))))]) hx hb dJ6_bitCount_0f7a4_40 rfl hl (by decide) rfl (fun ls hl => ?_)
  refine lv_iload_n hx hb dJ6_bitCount_0f7a4_41 rfl (lv_at hl 0 rfl) ?_
  refine lv_iload_n hx hb dJ6_bitCount_0f7a4_42 rfl (lv_at hl 0 rfl) ?_
  refine lv_bipush (v := 16) hx hb dJ6_bitCount_0f7a4_43 (by decide) ?_
  refine lv_iushr (v := (ushr ((((((a_0 - ((ushr a_0 1) &&& 1431655765)) &&& 858993459) + ((ushr (a_0 - ((ushr a_0 1) &&& 1431655765)) 2) &&& 858993459)) + (ushr (((a_0 - ((ushr a_0 1) &&& 1431655765)) &&& 858993459) + ((ushr (a_0 - ((ushr a_0 1) &&& 1431655765)) 2) &&& 858993459)) 4)) &&& 252645135) + (ushr (((((a_0 - ((ushr a_0 1) &&& 1431655765)) &&& 858993459) + ((ushr (a_0 - ((ushr a_0 1) &&& 1431655765)) 2) &&& 858993459)) + (ushr (((a_0 - ((ushr a_0 1) &&& 1431655765)) &&& 858993459) + ((ushr (a_0 - ((ushr a_0 1) &&& 1431655765)) 2) &&& 858993459)) 4)) &&& 252645135) 8)) 16)) hx hb dJ6_bitCount_0f7a4_45 rfl ?_
  refine lv_iadd hx hb dJ6_bitCount_0f7a4_46 ?_
  refine lv_istore_n (lv' := [(0, .int ((((((((a_0 - ((ushr a_0 1) &&& 1431655765)) &&& 858993459) + ((ushr (a_0 - ((ushr a_0 1) &&& 1431655765)) 2) &&& 858993459)) + (ushr (((a_0 - ((ushr a_0 1) &&& 1431655765)) &&& 858993459) + ((ushr (a_0 - ((ushr a_0 1) &&& 1431655765)) 2) &&& 858993459)) 4)) &&& 252645135) + (ushr (((((a_0 - ((ushr a_0 1) &&& 1431655765)) &&& 858993459) + ((ushr (a_0 - ((ushr a_0 1) &&& 1431655765)) 2) &&& 858993459)) + (ushr (((a_0 - ((ushr a_0 1) &&& 1431655765)) &&& 858993459) + ((ushr (a_0 - ((ushr a_0 1) &&& 1431655765)) 2) &&& 858993459)) 4)) &&& 252645135) 8)) + (ushr ((((((a_0 - ((ushr a_0 1) &&& 1431655765)) &&& 858993459) + ((ushr (a_0 - ((ushr a_0 1) &&& 1431655765)) 2) &&& 858993459)) + (ushr (((a_0 - ((ushr a_0 1) &&& 1431655765)) &&& 858993459) + ((ushr (a_0 - ((ushr a_0 1) &&& 1431655765)) 2) &&& 858993459)) 4)) &&& 252645135) + (ushr (((((a_0 - ((ushr a_0 1) &&& 1431655765)) &&& 858993459) + ((ushr (a_0 - ((ushr a_0 1) &&& 1431655765)) 2) &&& 858993459)) + (ushr (((a_0 - ((ushr a_0 1) &&& 1431655765)) &&& 858993459) + ((ushr (a_0 - ((ushr a_0 1) &&& 1431655765)) 2) &&& 858993459)) 4)) &&& 252645135) 8)) 16))))]) hx hb dJ6_bitCount_0f7a4_47 rfl hl (by decide) rfl (fun ls hl => ?_)
  refine lv_iload_n hx hb dJ6_bitCount_0f7a4_48 rfl (lv_at hl 0 rfl) ?_
  refine lv_bipush (v := 63) hx hb dJ6_bitCount_0f7a4_49 (by decide) ?_
  refine lv_iand hx hb dJ6_bitCount_0f7a4_51 ?_
  exact hw_iret hx hb hret hf hH hlocks dJ6_bitCount_0f7a4_52

theorem dJ9_max_7cf53_0 : decode cJ9_max_7cf53 0 = .ok (.iload_n 0, 1) := by decide +kernel
theorem dJ9_max_7cf53_1 : decode cJ9_max_7cf53 1 = .ok (.iload_n 1, 1) := by decide +kernel
theorem dJ9_max_7cf53_2 : decode cJ9_max_7cf53 2 = .ok (.if_icmp .lt 7, 3) := by decide +kernel
theorem dJ9_max_7cf53_5 : decode cJ9_max_7cf53 5 = .ok (.iload_n 0, 1) := by decide +kernel
theorem dJ9_max_7cf53_6 : decode cJ9_max_7cf53 6 = .ok (.goto 4, 3) := by decide +kernel
theorem dJ9_max_7cf53_9 : decode cJ9_max_7cf53 9 = .ok (.iload_n 1, 1) := by decide +kernel
theorem dJ9_max_7cf53_10 : decode cJ9_max_7cf53 10 = .ok (.ireturn, 1) := by decide +kernel
theorem hs_J9_max_7cf53 : yJ9_max_7cf53.cls ≠ "java/lang/invoke/MethodHandle" ∧ yJ9_max_7cf53.cls ≠ "java/lang/invoke/VarHandle" ∧ (parseMethodDescriptor yJ9_max_7cf53.desc).map (fun d => d.parameters.length) = some 2 := by decide +kernel
set_option maxHeartbeats 4000000 in
set_option maxRecDepth 100000 in
theorem k_J9_max_7cf53 (l : Launch) (E : Ev) (K : Kd) (z : Nat) (a_0 : Int32) (a_1 : Int32) (w : Wd) {r : Int32} {w' : Wd} (hf : f_J9_max_7cf53 K a_0 a_1 w = some (r, w')) : Met l yJ9_max_7cf53 (Cond.code yJ9_max_7cf53 cJ9_max_7cf53 2 (Option.some Jvm.ClassFile.FieldType.int) :: bt) ({ frames := 0, cells := 0, slots := 0, locals := 0 } : Room) (va_Pc [.int a_0, .int a_1] (HB E K w z)) (QI E K z w' r) 0 0 (hA E) := by
  refine Met.ofW (cc := cJ9_max_7cf53) (maxL := 2) (ret := (Option.some Jvm.ClassFile.FieldType.int)) (by decide) rfl ?_
  intro p e s m args below meth c s₁ B hml hv
  obtain ⟨rfl, hz, hP, hKs, hT, hb0⟩ := hv
  have C : CX p l e s m _ meth c cJ9_max_7cf53 2 RJ9 (Option.some Jvm.ClassFile.FieldType.int) E := ⟨B.exec, B.bytes, hml, findClass_of_methodNamed B.named, fun w h => atoms_spec (ws := Cond.code yJ9_max_7cf53 cJ9_max_7cf53 2 (Option.some Jvm.ClassFile.FieldType.int) :: bt) B.pre w (List.mem_cons_of_mem _ h), hKs, hT, by rw [hz]; exact hb0, B.notSynchronized, B.returns⟩
  have hH : HQ E K z w s s.heap [] := ⟨hP, va_S.rf, hz⟩
  obtain ⟨hx, hb, hml, hown, hts, hKs, hT, hb0, hlocks, hret⟩ := id C
  have hl := lv_entry [.int a_0, .int a_1] (n := 2) (by simp [lg_len_nil, lg_len_i, lg_len_j, lg_len_q])
  rw [lg_entry_eq]
  generalize (lg_sl [.int a_0, .int a_1] ++ List.replicate (2 - (lg_sl [.int a_0, .int a_1]).length) Slot.unset).toArray = ls at hl ⊢
  replace hl : lv_has ls 2 [(0, .int a_0), (1, .int a_1)] := by simpa only [lv_args, cat_q, cat_i, cat_j, reduceIte, Nat.reduceEqDiff, Nat.reduceAdd, Nat.zero_add] using hl
  generalize s.heap = H at hH ⊢
  unfold f_J9_max_7cf53 at hf
  refine lv_iload_n hx hb dJ9_max_7cf53_0 rfl (lv_at hl 0 rfl) ?_
  refine lv_iload_n hx hb dJ9_max_7cf53_1 rfl (lv_at hl 1 rfl) ?_
  refine lv_icmp_lt (tgt := 9) hx hb dJ9_max_7cf53_2 (by decide) (fun c1 => ?_) (fun c1 => ?_)
  · replace hf := (if_pos c1).symm.trans hf
    refine lv_iload_n hx hb dJ9_max_7cf53_9 rfl (lv_at hl 1 rfl) ?_
    exact hw_iret hx hb hret hf hH hlocks dJ9_max_7cf53_10
  · replace hf := (if_neg c1).symm.trans hf
    refine lv_iload_n hx hb dJ9_max_7cf53_5 rfl (lv_at hl 0 rfl) ?_
    refine lv_goto (tgt := 10) hx hb dJ9_max_7cf53_6 (by decide) ?_
    exact hw_iret hx hb hret hf hH hlocks dJ9_max_7cf53_10

theorem dJ9_min_7cf53_0 : decode cJ9_min_7cf53 0 = .ok (.iload_n 0, 1) := by decide +kernel
theorem dJ9_min_7cf53_1 : decode cJ9_min_7cf53 1 = .ok (.iload_n 1, 1) := by decide +kernel
theorem dJ9_min_7cf53_2 : decode cJ9_min_7cf53 2 = .ok (.if_icmp .gt 7, 3) := by decide +kernel
theorem dJ9_min_7cf53_5 : decode cJ9_min_7cf53 5 = .ok (.iload_n 0, 1) := by decide +kernel
theorem dJ9_min_7cf53_6 : decode cJ9_min_7cf53 6 = .ok (.goto 4, 3) := by decide +kernel
theorem dJ9_min_7cf53_9 : decode cJ9_min_7cf53 9 = .ok (.iload_n 1, 1) := by decide +kernel
theorem dJ9_min_7cf53_10 : decode cJ9_min_7cf53 10 = .ok (.ireturn, 1) := by decide +kernel
theorem hs_J9_min_7cf53 : yJ9_min_7cf53.cls ≠ "java/lang/invoke/MethodHandle" ∧ yJ9_min_7cf53.cls ≠ "java/lang/invoke/VarHandle" ∧ (parseMethodDescriptor yJ9_min_7cf53.desc).map (fun d => d.parameters.length) = some 2 := by decide +kernel
set_option maxHeartbeats 4000000 in
set_option maxRecDepth 100000 in
theorem k_J9_min_7cf53 (l : Launch) (E : Ev) (K : Kd) (z : Nat) (a_0 : Int32) (a_1 : Int32) (w : Wd) {r : Int32} {w' : Wd} (hf : f_J9_min_7cf53 K a_0 a_1 w = some (r, w')) : Met l yJ9_min_7cf53 (Cond.code yJ9_min_7cf53 cJ9_min_7cf53 2 (Option.some Jvm.ClassFile.FieldType.int) :: bt) ({ frames := 0, cells := 0, slots := 0, locals := 0 } : Room) (va_Pc [.int a_0, .int a_1] (HB E K w z)) (QI E K z w' r) 0 0 (hA E) := by
  refine Met.ofW (cc := cJ9_min_7cf53) (maxL := 2) (ret := (Option.some Jvm.ClassFile.FieldType.int)) (by decide) rfl ?_
  intro p e s m args below meth c s₁ B hml hv
  obtain ⟨rfl, hz, hP, hKs, hT, hb0⟩ := hv
  have C : CX p l e s m _ meth c cJ9_min_7cf53 2 RJ9 (Option.some Jvm.ClassFile.FieldType.int) E := ⟨B.exec, B.bytes, hml, findClass_of_methodNamed B.named, fun w h => atoms_spec (ws := Cond.code yJ9_min_7cf53 cJ9_min_7cf53 2 (Option.some Jvm.ClassFile.FieldType.int) :: bt) B.pre w (List.mem_cons_of_mem _ h), hKs, hT, by rw [hz]; exact hb0, B.notSynchronized, B.returns⟩
  have hH : HQ E K z w s s.heap [] := ⟨hP, va_S.rf, hz⟩
  obtain ⟨hx, hb, hml, hown, hts, hKs, hT, hb0, hlocks, hret⟩ := id C
  have hl := lv_entry [.int a_0, .int a_1] (n := 2) (by simp [lg_len_nil, lg_len_i, lg_len_j, lg_len_q])
  rw [lg_entry_eq]
  generalize (lg_sl [.int a_0, .int a_1] ++ List.replicate (2 - (lg_sl [.int a_0, .int a_1]).length) Slot.unset).toArray = ls at hl ⊢
  replace hl : lv_has ls 2 [(0, .int a_0), (1, .int a_1)] := by simpa only [lv_args, cat_q, cat_i, cat_j, reduceIte, Nat.reduceEqDiff, Nat.reduceAdd, Nat.zero_add] using hl
  generalize s.heap = H at hH ⊢
  unfold f_J9_min_7cf53 at hf
  refine lv_iload_n hx hb dJ9_min_7cf53_0 rfl (lv_at hl 0 rfl) ?_
  refine lv_iload_n hx hb dJ9_min_7cf53_1 rfl (lv_at hl 1 rfl) ?_
  refine lv_icmp_gt (tgt := 9) hx hb dJ9_min_7cf53_2 (by decide) (fun c1 => ?_) (fun c1 => ?_)
  · replace hf := (if_pos c1).symm.trans hf
    refine lv_iload_n hx hb dJ9_min_7cf53_9 rfl (lv_at hl 1 rfl) ?_
    exact hw_iret hx hb hret hf hH hlocks dJ9_min_7cf53_10
  · replace hf := (if_neg c1).symm.trans hf
    refine lv_iload_n hx hb dJ9_min_7cf53_5 rfl (lv_at hl 0 rfl) ?_
    refine lv_goto (tgt := 10) hx hb dJ9_min_7cf53_6 (by decide) ?_
    exact hw_iret hx hb hret hf hH hlocks dJ9_min_7cf53_10

theorem dJ7_fill_53178_0 : decode cJ7_fill_53178 0 = .ok (.iconst 0, 1) := by decide +kernel
theorem dJ7_fill_53178_1 : decode cJ7_fill_53178 1 = .ok (.istore_n 2, 1) := by decide +kernel
theorem dJ7_fill_53178_2 : decode cJ7_fill_53178 2 = .ok (.aload_n 0, 1) := by decide +kernel
theorem dJ7_fill_53178_3 : decode cJ7_fill_53178 3 = .ok (.arraylength, 1) := by decide +kernel
theorem dJ7_fill_53178_4 : decode cJ7_fill_53178 4 = .ok (.istore_n 3, 1) := by decide +kernel
theorem dJ7_fill_53178_5 : decode cJ7_fill_53178 5 = .ok (.iload_n 2, 1) := by decide +kernel
theorem dJ7_fill_53178_6 : decode cJ7_fill_53178 6 = .ok (.iload_n 3, 1) := by decide +kernel
theorem dJ7_fill_53178_7 : decode cJ7_fill_53178 7 = .ok (.if_icmp .ge 13, 3) := by decide +kernel
theorem dJ7_fill_53178_10 : decode cJ7_fill_53178 10 = .ok (.aload_n 0, 1) := by decide +kernel
theorem dJ7_fill_53178_11 : decode cJ7_fill_53178 11 = .ok (.iload_n 2, 1) := by decide +kernel
theorem dJ7_fill_53178_12 : decode cJ7_fill_53178 12 = .ok (.iload_n 1, 1) := by decide +kernel
theorem dJ7_fill_53178_13 : decode cJ7_fill_53178 13 = .ok (.iastore, 1) := by decide +kernel
theorem dJ7_fill_53178_14 : decode cJ7_fill_53178 14 = .ok (.iinc 2 1, 3) := by decide +kernel
theorem dJ7_fill_53178_17 : decode cJ7_fill_53178 17 = .ok (.goto (-12), 3) := by decide +kernel
theorem dJ7_fill_53178_20 : decode cJ7_fill_53178 20 = .ok (.return_, 1) := by decide +kernel
theorem hs_J7_fill_53178 : yJ7_fill_53178.cls ≠ "java/lang/invoke/MethodHandle" ∧ yJ7_fill_53178.cls ≠ "java/lang/invoke/VarHandle" ∧ (parseMethodDescriptor yJ7_fill_53178.desc).map (fun d => d.parameters.length) = some 2 := by decide +kernel
set_option maxHeartbeats 4000000 in
set_option maxRecDepth 100000 in
theorem l_J7_fill_53178_L5 (C : CX p l e s m args meth c cJ7_fill_53178 4 RJ7 (Option.none : Option Jvm.ClassFile.FieldType) E) {w' : Wd} (k : Option Nat → Int32 → Int32 → Int32 → Wd → Option Wd) (hk : ∀ (v0_5 : Option Nat) (v1_5 : Int32) (v2_5 : Int32) (v3_5 : Int32) (w : Wd) (H : Heap) (locs : List Loc) (ls : Array Slot), HQ E K z w s H locs → lv_has ls 4 [(0, rv E v0_5), (1, .int v1_5), (2, .int v2_5), (3, .int v3_5)] → k v0_5 v1_5 v2_5 v3_5 w = some w' → W p l e ({ frames := 0, cells := 0, slots := 0, locals := 0 } : Room) s m args below meth c H locs 0 0 (MQ below (QV E K z w') args s 0 0 (hA E)) (F0 m 20 ls [])) : ∀ (n : Nat) (v0_5 : Option Nat) (v1_5 : Int32) (v2_5 : Int32) (v3_5 : Int32) (w : Wd) (H : Heap) (locs : List Loc) (ls : Array Slot), HQ E K z w s H locs → lv_has ls 4 [(0, rv E v0_5), (1, .int v1_5), (2, .int v2_5), (3, .int v3_5)] → f_J7_fill_53178_L5 K k n v0_5 v1_5 v2_5 v3_5 w = some w' → W p l e ({ frames := 0, cells := 0, slots := 0, locals := 0 } : Room) s m args below meth c H locs 0 0 (MQ below (QV E K z w') args s 0 0 (hA E)) (F0 m 5 ls []) := by
  obtain ⟨hx, hb, hml, hown, hts, hKs, hT, hb0, hlocks, hret⟩ := id C
  intro n
  induction n with
  | zero =>
    intro v0_5 v1_5 v2_5 v3_5 w H locs ls hH hl hf
    cases hf
  | succ n ih =>
    intro v0_5 v1_5 v2_5 v3_5 w H locs ls hH hl hf
    rw [f_J7_fill_53178_L5] at hf
    refine lv_iload_n hx hb dJ7_fill_53178_5 rfl (lv_at hl 2 rfl) ?_
    refine lv_iload_n hx hb dJ7_fill_53178_6 rfl (lv_at hl 3 rfl) ?_
    refine lv_icmp_ge (tgt := 20) hx hb dJ7_fill_53178_7 (by decide) (fun c3 => ?_) (fun c3 => ?_)
    · replace hf := (if_pos c3).symm.trans hf
      exact hk v0_5 v1_5 v2_5 v3_5 _ _ _ _ hH (lv_sub hl [0, 1, 2, 3] rfl) hf
    · replace hf := (if_neg c3).symm.trans hf
      refine hl_aload_n hx hb dJ7_fill_53178_10 rfl (lv_at hl 0 rfl) ?_
      refine lv_iload_n hx hb dJ7_fill_53178_11 rfl (lv_at hl 2 rfl) ?_
      refine lv_iload_n hx hb dJ7_fill_53178_12 rfl (lv_at hl 1 rfl) ?_
      obtain ⟨a4, ha4, hf⟩ := bnd hf
      replace ha4 := cha_some ha4
      obtain ⟨j5, hj5, hf⟩ := bnd hf
      obtain ⟨w6, hw6, hf⟩ := bnd hf
      replace hw6 := Option.some.inj hw6
      refine hw_iast (x := v1_5) hx hb hKs hH ha4.1 ha4.2 hj5 dJ7_fill_53178_13 (fun H locs hH => ?_)
      rw [hw6] at hH
      refine lv_iinc (v := (v2_5 + 1)) (lv' := [(2, .int ((v2_5 + 1))), (0, rv E v0_5), (1, .int v1_5), (3, .int v3_5)]) hx hb dJ7_fill_53178_14 hl (k := 2) rfl rfl (by decide) rfl (fun ls hl => ?_)
      refine lv_goto (tgt := 5) hx hb dJ7_fill_53178_17 (by decide) ?_
      exact ih v0_5 v1_5 (v2_5 + 1) v3_5 _ _ _ _ hH (lv_sub hl [1, 2, 0, 3] rfl) hf
set_option maxHeartbeats 4000000 in
set_option maxRecDepth 100000 in
theorem k_J7_fill_53178 (l : Launch) (E : Ev) (K : Kd) (z : Nat) (a_0 : Option Nat) (a_1 : Int32) (w : Wd) {w' : Wd} (hf : f_J7_fill_53178 K a_0 a_1 w = some w') : Met l yJ7_fill_53178 (Cond.code yJ7_fill_53178 cJ7_fill_53178 4 (Option.none : Option Jvm.ClassFile.FieldType) :: bt) ({ frames := 0, cells := 0, slots := 0, locals := 0 } : Room) (va_Pc [rv E a_0, .int a_1] (HB E K w z)) (QV E K z w') 0 0 (hA E) := by
  refine Met.ofW (cc := cJ7_fill_53178) (maxL := 4) (ret := (Option.none : Option Jvm.ClassFile.FieldType)) (by decide) rfl ?_
  intro p e s m args below meth c s₁ B hml hv
  obtain ⟨rfl, hz, hP, hKs, hT, hb0⟩ := hv
  have C : CX p l e s m _ meth c cJ7_fill_53178 4 RJ7 (Option.none : Option Jvm.ClassFile.FieldType) E := ⟨B.exec, B.bytes, hml, findClass_of_methodNamed B.named, fun w h => atoms_spec (ws := Cond.code yJ7_fill_53178 cJ7_fill_53178 4 (Option.none : Option Jvm.ClassFile.FieldType) :: bt) B.pre w (List.mem_cons_of_mem _ h), hKs, hT, by rw [hz]; exact hb0, B.notSynchronized, B.returns⟩
  have hH : HQ E K z w s s.heap [] := ⟨hP, va_S.rf, hz⟩
  obtain ⟨hx, hb, hml, hown, hts, hKs, hT, hb0, hlocks, hret⟩ := id C
  have hl := lv_entry [rv E a_0, .int a_1] (n := 4) (by simp [lg_len_nil, lg_len_i, lg_len_j, lg_len_q])
  rw [lg_entry_eq]
  generalize (lg_sl [rv E a_0, .int a_1] ++ List.replicate (4 - (lg_sl [rv E a_0, .int a_1]).length) Slot.unset).toArray = ls at hl ⊢
  replace hl : lv_has ls 4 [(0, rv E a_0), (1, .int a_1)] := by simpa only [lv_args, cat_q, cat_i, cat_j, reduceIte, Nat.reduceEqDiff, Nat.reduceAdd, Nat.zero_add] using hl
  generalize s.heap = H at hH ⊢
  unfold f_J7_fill_53178 at hf
  refine lv_iconst (v := 0) hx hb dJ7_fill_53178_0 (by decide) ?_
  refine lv_istore_n (lv' := [(2, .int 0), (0, rv E a_0), (1, .int a_1)]) hx hb dJ7_fill_53178_1 rfl hl (by decide) rfl (fun ls hl => ?_)
  refine hl_aload_n hx hb dJ7_fill_53178_2 rfl (lv_at hl 1 rfl) ?_
  obtain ⟨a1, ha1, hf⟩ := bnd hf
  replace ha1 := cha_some ha1
  refine hw_alen20 hx hb hKs hH ha1.1 ha1.2 dJ7_fill_53178_3 ?_
  refine lv_istore_n (lv' := [(3, .int ((nI a1.2))), (2, .int 0), (0, rv E a_0), (1, .int a_1)]) hx hb dJ7_fill_53178_4 rfl hl (by decide) rfl (fun ls hl => ?_)
  refine l_J7_fill_53178_L5  C _ (fun v0_5 v1_5 v2_5 v3_5 w2 H locs ls hH hl hf => ?_) fu a_0 a_1 0 (nI a1.2) w _ _ _ hH (lv_sub hl [2, 3, 1, 0] rfl) hf
  exact hw_vret hx hb hret hf hH hlocks dJ7_fill_53178_20

theorem dX12_feed_0 : decode cX12_feed 0 = .ok (.aload_n 0, 1) := by decide +kernel
theorem dX12_feed_1 : decode cX12_feed 1 = .ok (.getfield 70, 3) := by decide +kernel
theorem dX12_feed_4 : decode cX12_feed 4 = .ok (.bipush 20, 2) := by decide +kernel
theorem dX12_feed_6 : decode cX12_feed 6 = .ok (.iadd, 1) := by decide +kernel
theorem dX12_feed_7 : decode cX12_feed 7 = .ok (.sipush 900, 3) := by decide +kernel
theorem dX12_feed_10 : decode cX12_feed 10 = .ok (.if_icmp .le 5, 3) := by decide +kernel
theorem dX12_feed_13 : decode cX12_feed 13 = .ok (.iconst (-1), 1) := by decide +kernel
theorem dX12_feed_14 : decode cX12_feed 14 = .ok (.ireturn, 1) := by decide +kernel
theorem dX12_feed_15 : decode cX12_feed 15 = .ok (.aload_n 0, 1) := by decide +kernel
theorem dX12_feed_16 : decode cX12_feed 16 = .ok (.iload_n 1, 1) := by decide +kernel
theorem dX12_feed_17 : decode cX12_feed 17 = .ok (.invokevirtual 73, 3) := by decide +kernel
theorem dX12_feed_20 : decode cX12_feed 20 = .ok (.aload_n 0, 1) := by decide +kernel
theorem dX12_feed_21 : decode cX12_feed 21 = .ok (.iload_n 2, 1) := by decide +kernel
theorem dX12_feed_22 : decode cX12_feed 22 = .ok (.invokevirtual 73, 3) := by decide +kernel
theorem dX12_feed_25 : decode cX12_feed 25 = .ok (.aload_n 0, 1) := by decide +kernel
theorem dX12_feed_26 : decode cX12_feed 26 = .ok (.iload_n 3, 1) := by decide +kernel
theorem dX12_feed_27 : decode cX12_feed 27 = .ok (.invokevirtual 73, 3) := by decide +kernel
theorem dX12_feed_30 : decode cX12_feed 30 = .ok (.aload_n 0, 1) := by decide +kernel
theorem dX12_feed_31 : decode cX12_feed 31 = .ok (.iload 4, 2) := by decide +kernel
theorem dX12_feed_33 : decode cX12_feed 33 = .ok (.invokevirtual 73, 3) := by decide +kernel
theorem dX12_feed_36 : decode cX12_feed 36 = .ok (.aload_n 0, 1) := by decide +kernel
theorem dX12_feed_37 : decode cX12_feed 37 = .ok (.iload 5, 2) := by decide +kernel
theorem dX12_feed_39 : decode cX12_feed 39 = .ok (.invokevirtual 73, 3) := by decide +kernel
theorem dX12_feed_42 : decode cX12_feed 42 = .ok (.aload_n 0, 1) := by decide +kernel
theorem dX12_feed_43 : decode cX12_feed 43 = .ok (.getfield 70, 3) := by decide +kernel
theorem dX12_feed_46 : decode cX12_feed 46 = .ok (.ireturn, 1) := by decide +kernel
theorem hd_X12_feed : yX12_feed.cls = RX12 ∧ yX12_feed.cls ≠ "java/lang/invoke/MethodHandle" ∧ yX12_feed.cls ≠ "java/lang/invoke/VarHandle" ∧ (parseMethodDescriptor yX12_feed.desc).map (fun d => d.parameters.length) = some 5 := by decide +kernel
theorem hs_X12_feed : yX12_feed.cls ≠ "java/lang/invoke/MethodHandle" ∧ yX12_feed.cls ≠ "java/lang/invoke/VarHandle" ∧ (parseMethodDescriptor yX12_feed.desc).map (fun d => d.parameters.length) = some 5 := by decide +kernel
set_option maxHeartbeats 4000000 in
set_option maxRecDepth 100000 in
theorem k_X12_feed (l : Launch) (E : Ev) (K : Kd) (z : Nat) (o : Nat) (a_1 : Int32) (a_2 : Int32) (a_3 : Int32) (a_4 : Int32) (a_5 : Int32) (w : Wd) (ho : K o = some (10, 0)) {r : Int32} {w' : Wd} (hf : f_X12_feed K o a_1 a_2 a_3 a_4 a_5 w = some (r, w')) : Met l yX12_feed (Cond.code yX12_feed cX12_feed 6 (Option.some Jvm.ClassFile.FieldType.int) :: bt) ({ frames := 1, cells := 0, slots := 0, locals := 22 } : Room) (va_Pc [rv E (some o), .int a_1, .int a_2, .int a_3, .int a_4, .int a_5] (HB E K w z)) (QI E K z w' r) 0 0 (hA E) := by
  refine Met.ofW (cc := cX12_feed) (maxL := 6) (ret := (Option.some Jvm.ClassFile.FieldType.int)) (by decide) rfl ?_
  intro p e s m args below meth c s₁ B hml hv
  obtain ⟨rfl, hz, hP, hKs, hT, hb0⟩ := hv
  have C : CX p l e s m _ meth c cX12_feed 6 RX12 (Option.some Jvm.ClassFile.FieldType.int) E := ⟨B.exec, B.bytes, hml, findClass_of_methodNamed B.named, fun w h => atoms_spec (ws := Cond.code yX12_feed cX12_feed 6 (Option.some Jvm.ClassFile.FieldType.int) :: bt) B.pre w (List.mem_cons_of_mem _ h), hKs, hT, by rw [hz]; exact hb0, B.notSynchronized, B.returns⟩
  have hH : HQ E K z w s s.heap [] := ⟨hP, va_S.rf, hz⟩
  obtain ⟨hx, hb, hml, hown, hts, hKs, hT, hb0, hlocks, hret⟩ := id C
  have hl := lv_entry [rv E (some o), .int a_1, .int a_2, .int a_3, .int a_4, .int a_5] (n := 6) (by simp [lg_len_nil, lg_len_i, lg_len_j, lg_len_q])
  rw [lg_entry_eq]
  generalize (lg_sl [rv E (some o), .int a_1, .int a_2, .int a_3, .int a_4, .int a_5] ++ List.replicate (6 - (lg_sl [rv E (some o), .int a_1, .int a_2, .int a_3, .int a_4, .int a_5]).length) Slot.unset).toArray = ls at hl ⊢
  replace hl : lv_has ls 6 [(0, rv E (some o)), (1, .int a_1), (2, .int a_2), (3, .int a_3), (4, .int a_4), (5, .int a_5)] := by simpa only [lv_args, cat_q, cat_i, cat_j, reduceIte, Nat.reduceEqDiff, Nat.reduceAdd, Nat.zero_add] using hl
  generalize s.heap = H at hH ⊢
  unfold f_X12_feed at hf
  refine hl_aload_n hx hb dX12_feed_0 rfl (lv_at hl 0 rfl) ?_
  refine g12_1 hx hb hts hown hKs hH rfl ho m2_220 dX12_feed_1 ?_
  refine lv_bipush (v := 20) hx hb dX12_feed_4 (by decide) ?_
  refine lv_iadd hx hb dX12_feed_6 ?_
  refine lv_sipush (v := 900) hx hb dX12_feed_7 (by decide) ?_
  refine lv_icmp_le (tgt := 15) hx hb dX12_feed_10 (by decide) (fun c1 => ?_) (fun c1 => ?_)
  · replace hf := (if_pos c1).symm.trans hf
    refine hl_aload_n hx hb dX12_feed_15 rfl (lv_at hl 0 rfl) ?_
    refine lv_iload_n hx hb dX12_feed_16 rfl (lv_at hl 1 rfl) ?_
    obtain ⟨q2, hq2, hf⟩ := bnd hf
    refine hcV_v hx hb hml hown hts hKs hT hb0 hH (As := [.int a_1]) (rest := []) (k_X12_append l E K H.size o a_1 w ho hq2) (gV m3_32 m3_34 ms_0 m1_1 m3_35) hd_X12_append ⟨Nat.le_of_ble_eq_true rfl, Nat.le_of_ble_eq_true rfl, rfl, rfl⟩ rfl ho rfl rfl rfl hl.1 rfl rc0 rfl dX12_feed_17 ⟨Nat.zero_le _, Nat.zero_le _⟩ (fun H locs hH => ?_)
    refine hl_aload_n hx hb dX12_feed_20 rfl (lv_at hl 0 rfl) ?_
    refine lv_iload_n hx hb dX12_feed_21 rfl (lv_at hl 2 rfl) ?_
    obtain ⟨q3, hq3, hf⟩ := bnd hf
    refine hcV_v hx hb hml hown hts hKs hT hb0 hH (As := [.int a_2]) (rest := []) (k_X12_append l E K H.size o a_2 q2 ho hq3) (gV m3_32 m3_34 ms_0 m1_1 m3_35) hd_X12_append ⟨Nat.le_of_ble_eq_true rfl, Nat.le_of_ble_eq_true rfl, rfl, rfl⟩ rfl ho rfl rfl rfl hl.1 rfl rc0 rfl dX12_feed_22 ⟨Nat.zero_le _, Nat.zero_le _⟩ (fun H locs hH => ?_)
    refine hl_aload_n hx hb dX12_feed_25 rfl (lv_at hl 0 rfl) ?_
    refine lv_iload_n hx hb dX12_feed_26 rfl (lv_at hl 3 rfl) ?_
    obtain ⟨q4, hq4, hf⟩ := bnd hf
    refine hcV_v hx hb hml hown hts hKs hT hb0 hH (As := [.int a_3]) (rest := []) (k_X12_append l E K H.size o a_3 q3 ho hq4) (gV m3_32 m3_34 ms_0 m1_1 m3_35) hd_X12_append ⟨Nat.le_of_ble_eq_true rfl, Nat.le_of_ble_eq_true rfl, rfl, rfl⟩ rfl ho rfl rfl rfl hl.1 rfl rc0 rfl dX12_feed_27 ⟨Nat.zero_le _, Nat.zero_le _⟩ (fun H locs hH => ?_)
    refine hl_aload_n hx hb dX12_feed_30 rfl (lv_at hl 0 rfl) ?_
    refine lv_iload hx hb dX12_feed_31 (lv_at hl 4 rfl) ?_
    obtain ⟨q5, hq5, hf⟩ := bnd hf
    refine hcV_v hx hb hml hown hts hKs hT hb0 hH (As := [.int a_4]) (rest := []) (k_X12_append l E K H.size o a_4 q4 ho hq5) (gV m3_32 m3_34 ms_0 m1_1 m3_35) hd_X12_append ⟨Nat.le_of_ble_eq_true rfl, Nat.le_of_ble_eq_true rfl, rfl, rfl⟩ rfl ho rfl rfl rfl hl.1 rfl rc0 rfl dX12_feed_33 ⟨Nat.zero_le _, Nat.zero_le _⟩ (fun H locs hH => ?_)
    refine hl_aload_n hx hb dX12_feed_36 rfl (lv_at hl 0 rfl) ?_
    refine lv_iload hx hb dX12_feed_37 (lv_at hl 5 rfl) ?_
    obtain ⟨q6, hq6, hf⟩ := bnd hf
    refine hcV_v hx hb hml hown hts hKs hT hb0 hH (As := [.int a_5]) (rest := []) (k_X12_append l E K H.size o a_5 q5 ho hq6) (gV m3_32 m3_34 ms_0 m1_1 m3_35) hd_X12_append ⟨Nat.le_of_ble_eq_true rfl, Nat.le_of_ble_eq_true rfl, rfl, rfl⟩ rfl ho rfl rfl rfl hl.1 rfl rc0 rfl dX12_feed_39 ⟨Nat.zero_le _, Nat.zero_le _⟩ (fun H locs hH => ?_)
    refine hl_aload_n hx hb dX12_feed_42 rfl (lv_at hl 0 rfl) ?_
    refine g12_1 hx hb hts hown hKs hH rfl ho m2_220 dX12_feed_43 ?_
    exact hw_iret hx hb hret hf hH hlocks dX12_feed_46
  · replace hf := (if_neg c1).symm.trans hf
    refine lv_iconst (v := (-1)) hx hb dX12_feed_13 (by decide) ?_
    exact hw_iret hx hb hret hf hH hlocks dX12_feed_14

theorem dX12_bufferedName_0 : decode cX12_bufferedName 0 = .ok (.lconst 0, 1) := by decide +kernel
theorem dX12_bufferedName_1 : decode cX12_bufferedName 1 = .ok (.lstore_n 1, 1) := by decide +kernel
theorem dX12_bufferedName_2 : decode cX12_bufferedName 2 = .ok (.aload_n 0, 1) := by decide +kernel
theorem dX12_bufferedName_3 : decode cX12_bufferedName 3 = .ok (.getfield 70, 3) := by decide +kernel
theorem dX12_bufferedName_6 : decode cX12_bufferedName 6 = .ok (.bipush 8, 2) := by decide +kernel
theorem dX12_bufferedName_8 : decode cX12_bufferedName 8 = .ok (.if_icmp .le 5, 3) := by decide +kernel
theorem dX12_bufferedName_11 : decode cX12_bufferedName 11 = .ok (.lconst 0, 1) := by decide +kernel
theorem dX12_bufferedName_12 : decode cX12_bufferedName 12 = .ok (.lreturn, 1) := by decide +kernel
theorem dX12_bufferedName_13 : decode cX12_bufferedName 13 = .ok (.iconst 0, 1) := by decide +kernel
theorem dX12_bufferedName_14 : decode cX12_bufferedName 14 = .ok (.istore_n 3, 1) := by decide +kernel
theorem dX12_bufferedName_15 : decode cX12_bufferedName 15 = .ok (.iload_n 3, 1) := by decide +kernel
theorem dX12_bufferedName_16 : decode cX12_bufferedName 16 = .ok (.aload_n 0, 1) := by decide +kernel
theorem dX12_bufferedName_17 : decode cX12_bufferedName 17 = .ok (.getfield 70, 3) := by decide +kernel
theorem dX12_bufferedName_20 : decode cX12_bufferedName 20 = .ok (.if_icmp .ge 36, 3) := by decide +kernel
theorem dX12_bufferedName_23 : decode cX12_bufferedName 23 = .ok (.aload_n 0, 1) := by decide +kernel
theorem dX12_bufferedName_24 : decode cX12_bufferedName 24 = .ok (.getfield 12, 3) := by decide +kernel
theorem dX12_bufferedName_27 : decode cX12_bufferedName 27 = .ok (.iload_n 3, 1) := by decide +kernel
theorem dX12_bufferedName_28 : decode cX12_bufferedName 28 = .ok (.baload, 1) := by decide +kernel
theorem dX12_bufferedName_29 : decode cX12_bufferedName 29 = .ok (.invokestatic 150, 3) := by decide +kernel
theorem dX12_bufferedName_32 : decode cX12_bufferedName 32 = .ok (.ifCond .ne 5, 3) := by decide +kernel
theorem dX12_bufferedName_35 : decode cX12_bufferedName 35 = .ok (.lconst 0, 1) := by decide +kernel
theorem dX12_bufferedName_36 : decode cX12_bufferedName 36 = .ok (.lreturn, 1) := by decide +kernel
theorem dX12_bufferedName_37 : decode cX12_bufferedName 37 = .ok (.lload_n 1, 1) := by decide +kernel
theorem dX12_bufferedName_38 : decode cX12_bufferedName 38 = .ok (.bipush 8, 2) := by decide +kernel
theorem dX12_bufferedName_40 : decode cX12_bufferedName 40 = .ok (.lshl, 1) := by decide +kernel
theorem dX12_bufferedName_41 : decode cX12_bufferedName 41 = .ok (.aload_n 0, 1) := by decide +kernel
theorem dX12_bufferedName_42 : decode cX12_bufferedName 42 = .ok (.getfield 12, 3) := by decide +kernel
theorem dX12_bufferedName_45 : decode cX12_bufferedName 45 = .ok (.iload_n 3, 1) := by decide +kernel
theorem dX12_bufferedName_46 : decode cX12_bufferedName 46 = .ok (.baload, 1) := by decide +kernel
theorem dX12_bufferedName_47 : decode cX12_bufferedName 47 = .ok (.i2l, 1) := by decide +kernel
theorem dX12_bufferedName_48 : decode cX12_bufferedName 48 = .ok (.lor, 1) := by decide +kernel
theorem dX12_bufferedName_49 : decode cX12_bufferedName 49 = .ok (.lstore_n 1, 1) := by decide +kernel
theorem dX12_bufferedName_50 : decode cX12_bufferedName 50 = .ok (.iinc 3 1, 3) := by decide +kernel
theorem dX12_bufferedName_53 : decode cX12_bufferedName 53 = .ok (.goto (-38), 3) := by decide +kernel
theorem dX12_bufferedName_56 : decode cX12_bufferedName 56 = .ok (.lload_n 1, 1) := by decide +kernel
theorem dX12_bufferedName_57 : decode cX12_bufferedName 57 = .ok (.lreturn, 1) := by decide +kernel
theorem hd_X12_bufferedName : yX12_bufferedName.cls = RX12 ∧ yX12_bufferedName.cls ≠ "java/lang/invoke/MethodHandle" ∧ yX12_bufferedName.cls ≠ "java/lang/invoke/VarHandle" ∧ (parseMethodDescriptor yX12_bufferedName.desc).map (fun d => d.parameters.length) = some 0 := by decide +kernel
theorem hs_X12_bufferedName : yX12_bufferedName.cls ≠ "java/lang/invoke/MethodHandle" ∧ yX12_bufferedName.cls ≠ "java/lang/invoke/VarHandle" ∧ (parseMethodDescriptor yX12_bufferedName.desc).map (fun d => d.parameters.length) = some 0 := by decide +kernel
set_option maxHeartbeats 4000000 in
set_option maxRecDepth 100000 in
theorem l_X12_bufferedName_L15 (C : CX p l e s m args meth c cX12_bufferedName 4 RX12 (Option.some Jvm.ClassFile.FieldType.long) E) {o : Nat} (ho : K o = some (10, 0)) {r : Int64} {w' : Wd} (k : Int64 → Int32 → Wd → Option (Int64 × Wd)) (hk : ∀ (v1_15 : Int64) (v3_15 : Int32) (w : Wd) (H : Heap) (locs : List Loc) (ls : Array Slot), HQ E K z w s H locs → lv_has ls 4 [(1, .long v1_15), (3, .int v3_15), (0, rv E (some o))] → k v1_15 v3_15 w = some (r, w') → W p l e ({ frames := 1, cells := 0, slots := 0, locals := 20 } : Room) s m args below meth c H locs 0 0 (MQ below (QL E K z w' r) args s 0 0 (hA E)) (F0 m 56 ls [])) : ∀ (n : Nat) (v1_15 : Int64) (v3_15 : Int32) (w : Wd) (H : Heap) (locs : List Loc) (ls : Array Slot), HQ E K z w s H locs → lv_has ls 4 [(1, .long v1_15), (3, .int v3_15), (0, rv E (some o))] → f_X12_bufferedName_L15 K o k n v1_15 v3_15 w = some (r, w') → W p l e ({ frames := 1, cells := 0, slots := 0, locals := 20 } : Room) s m args below meth c H locs 0 0 (MQ below (QL E K z w' r) args s 0 0 (hA E)) (F0 m 15 ls []) := by
  obtain ⟨hx, hb, hml, hown, hts, hKs, hT, hb0, hlocks, hret⟩ := id C
  intro n
  induction n with
  | zero =>
    intro v1_15 v3_15 w H locs ls hH hl hf
    cases hf
  | succ n ih =>
    intro v1_15 v3_15 w H locs ls hH hl hf
    rw [f_X12_bufferedName_L15] at hf
    refine lv_iload_n hx hb dX12_bufferedName_15 rfl (lv_at hl 1 rfl) ?_
    refine hl_aload_n hx hb dX12_bufferedName_16 rfl (lv_at hl 2 rfl) ?_
    refine g12_1 hx hb hts hown hKs hH rfl ho m2_220 dX12_bufferedName_17 ?_
    refine lv_icmp_ge (tgt := 56) hx hb dX12_bufferedName_20 (by decide) (fun c3 => ?_) (fun c3 => ?_)
    · replace hf := (if_pos c3).symm.trans hf
      exact hk v1_15 v3_15 _ _ _ _ hH (lv_sub hl [0, 1, 2] rfl) hf
    · replace hf := (if_neg c3).symm.trans hf
      refine hl_aload_n hx hb dX12_bufferedName_23 rfl (lv_at hl 2 rfl) ?_
      refine g12_0 hx hb hts hown hKs hH rfl ho m2_219 dX12_bufferedName_24 ?_
      refine lv_iload_n hx hb dX12_bufferedName_27 rfl (lv_at hl 1 rfl) ?_
      obtain ⟨a4, ha4, hf⟩ := bnd hf
      replace ha4 := cha_some ha4
      obtain ⟨j5, hj5, hf⟩ := bnd hf
      refine hw_bald hx hb hKs hH ha4.1 ha4.2 hj5 dX12_bufferedName_28 ?_
      obtain ⟨q6, hq6, hf⟩ := bnd hf
      refine hcS_i hx hb hml hown hts hKs hT hb0 hH (As := [.int ((aI w a4.1 j5))]) (rest := []) (k_X12_isLetter l E K H.size (aI w a4.1 j5) w hq6) (gS m5_46 m3_61 m1_1 m3_62) hs_X12_isLetter ⟨Nat.le_of_ble_eq_true rfl, Nat.le_of_ble_eq_true rfl, rfl, rfl⟩ hl.1 rfl rc0 rfl dX12_bufferedName_29 ⟨Nat.zero_le _, Nat.zero_le _⟩ (fun H locs hH => ?_)
      refine lv_if_ne (tgt := 37) hx hb dX12_bufferedName_32 (by decide) (fun c7 => ?_) (fun c7 => ?_)
      · replace hf := (if_neg c7).symm.trans hf
        refine lv_lload_n hx hb dX12_bufferedName_37 rfl (lv_at hl 0 rfl) ?_
        refine lv_bipush (v := 8) hx hb dX12_bufferedName_38 (by decide) ?_
        refine lv_lshl (v := (lsl v1_15 8)) hx hb dX12_bufferedName_40 rfl ?_
        refine hl_aload_n hx hb dX12_bufferedName_41 rfl (lv_at hl 2 rfl) ?_
        refine g12_0 hx hb hts hown hKs hH rfl ho m2_219 dX12_bufferedName_42 ?_
        refine lv_iload_n hx hb dX12_bufferedName_45 rfl (lv_at hl 1 rfl) ?_
        obtain ⟨a8, ha8, hf⟩ := bnd hf
        replace ha8 := cha_some ha8
        obtain ⟨j9, hj9, hf⟩ := bnd hf
        refine hw_bald hx hb hKs hH ha8.1 ha8.2 hj9 dX12_bufferedName_46 ?_
        refine lv_i2l (v := ((aI q6.2 a8.1 j9).toInt64)) hx hb dX12_bufferedName_47 rfl ?_
        refine lv_lor hx hb dX12_bufferedName_48 ?_
        refine lv_lstore_n (lv' := [(1, .long ((lsl v1_15 8) ||| ((aI q6.2 a8.1 j9).toInt64))), (3, .int v3_15), (0, rv E (some o))]) hx hb dX12_bufferedName_49 rfl hl (by decide) rfl (fun ls hl => ?_)
        refine lv_iinc (v := (v3_15 + 1)) (lv' := [(3, .int ((v3_15 + 1))), (1, .long ((lsl v1_15 8) ||| ((aI q6.2 a8.1 j9).toInt64))), (0, rv E (some o))]) hx hb dX12_bufferedName_50 hl (k := 1) rfl rfl (by decide) rfl (fun ls hl => ?_)
        refine lv_goto (tgt := 15) hx hb dX12_bufferedName_53 (by decide) ?_
        exact ih ((lsl v1_15 8) ||| ((aI q6.2 a8.1 j9).toInt64)) (v3_15 + 1) _ _ _ _ hH (lv_sub hl [1, 0, 2] rfl) hf
      · replace hf := (if_pos c7).symm.trans hf
        refine lv_lconst (v := 0) hx hb dX12_bufferedName_35 rfl ?_
        exact hw_lret hx hb hret hf hH hlocks dX12_bufferedName_36
set_option maxHeartbeats 4000000 in
set_option maxRecDepth 100000 in
theorem k_X12_bufferedName (l : Launch) (E : Ev) (K : Kd) (z : Nat) (o : Nat) (w : Wd) (ho : K o = some (10, 0)) {r : Int64} {w' : Wd} (hf : f_X12_bufferedName K o w = some (r, w')) : Met l yX12_bufferedName (Cond.code yX12_bufferedName cX12_bufferedName 4 (Option.some Jvm.ClassFile.FieldType.long) :: bt) ({ frames := 1, cells := 0, slots := 0, locals := 20 } : Room) (va_Pc [rv E (some o)] (HB E K w z)) (QL E K z w' r) 0 0 (hA E) := by
  refine Met.ofW (cc := cX12_bufferedName) (maxL := 4) (ret := (Option.some Jvm.ClassFile.FieldType.long)) (by decide) rfl ?_
  intro p e s m args below meth c s₁ B hml hv
  obtain ⟨rfl, hz, hP, hKs, hT, hb0⟩ := hv
  have C : CX p l e s m _ meth c cX12_bufferedName 4 RX12 (Option.some Jvm.ClassFile.FieldType.long) E := ⟨B.exec, B.bytes, hml, findClass_of_methodNamed B.named, fun w h => atoms_spec (ws := Cond.code yX12_bufferedName cX12_bufferedName 4 (Option.some Jvm.ClassFile.FieldType.long) :: bt) B.pre w (List.mem_cons_of_mem _ h), hKs, hT, by rw [hz]; exact hb0, B.notSynchronized, B.returns⟩
  have hH : HQ E K z w s s.heap [] := ⟨hP, va_S.rf, hz⟩
  obtain ⟨hx, hb, hml, hown, hts, hKs, hT, hb0, hlocks, hret⟩ := id C
  have hl := lv_entry [rv E (some o)] (n := 4) (by simp [lg_len_nil, lg_len_i, lg_len_j, lg_len_q])
  rw [lg_entry_eq]
  generalize (lg_sl [rv E (some o)] ++ List.replicate (4 - (lg_sl [rv E (some o)]).length) Slot.unset).toArray = ls at hl ⊢
  replace hl : lv_has ls 4 [(0, rv E (some o))] := by simpa only [lv_args, cat_q, cat_i, cat_j, reduceIte, Nat.reduceEqDiff, Nat.reduceAdd, Nat.zero_add] using hl
  generalize s.heap = H at hH ⊢
  unfold f_X12_bufferedName at hf
  refine lv_lconst (v := 0) hx hb dX12_bufferedName_0 rfl ?_
  refine lv_lstore_n (lv' := [(1, .long 0), (0, rv E (some o))]) hx hb dX12_bufferedName_1 rfl hl (by decide) rfl (fun ls hl => ?_)
  refine hl_aload_n hx hb dX12_bufferedName_2 rfl (lv_at hl 1 rfl) ?_
  refine g12_1 hx hb hts hown hKs hH rfl ho m2_220 dX12_bufferedName_3 ?_
  refine lv_bipush (v := 8) hx hb dX12_bufferedName_6 (by decide) ?_
  refine lv_icmp_le (tgt := 13) hx hb dX12_bufferedName_8 (by decide) (fun c1 => ?_) (fun c1 => ?_)
  · replace hf := (if_pos c1).symm.trans hf
    refine lv_iconst (v := 0) hx hb dX12_bufferedName_13 (by decide) ?_
    refine lv_istore_n (lv' := [(3, .int 0), (1, .long 0), (0, rv E (some o))]) hx hb dX12_bufferedName_14 rfl hl (by decide) rfl (fun ls hl => ?_)
    refine l_X12_bufferedName_L15  C ho _ (fun v1_15 v3_15 w2 H locs ls hH hl hf => ?_) fu 0 0 w _ _ _ hH (lv_sub hl [1, 0, 2] rfl) hf
    refine lv_lload_n hx hb dX12_bufferedName_56 rfl (lv_at hl 0 rfl) ?_
    exact hw_lret hx hb hret hf hH hlocks dX12_bufferedName_57
  · replace hf := (if_neg c1).symm.trans hf
    refine lv_lconst (v := 0) hx hb dX12_bufferedName_11 rfl ?_
    exact hw_lret hx hb hret hf hH hlocks dX12_bufferedName_12

theorem dX12_isWorkingDay_0 : decode cX12_isWorkingDay 0 = .ok (.aload_n 0, 1) := by decide +kernel
theorem dX12_isWorkingDay_1 : decode cX12_isWorkingDay 1 = .ok (.iload_n 1, 1) := by decide +kernel
theorem dX12_isWorkingDay_2 : decode cX12_isWorkingDay 2 = .ok (.invokevirtual 154, 3) := by decide +kernel
theorem dX12_isWorkingDay_5 : decode cX12_isWorkingDay 5 = .ok (.aload_n 0, 1) := by decide +kernel
theorem dX12_isWorkingDay_6 : decode cX12_isWorkingDay 6 = .ok (.getfield 35, 3) := by decide +kernel
theorem dX12_isWorkingDay_9 : decode cX12_isWorkingDay 9 = .ok (.iload_n 1, 1) := by decide +kernel
theorem dX12_isWorkingDay_10 : decode cX12_isWorkingDay 10 = .ok (.invokevirtual 157, 3) := by decide +kernel
theorem dX12_isWorkingDay_13 : decode cX12_isWorkingDay 13 = .ok (.ireturn, 1) := by decide +kernel
theorem hd_X12_isWorkingDay : yX12_isWorkingDay.cls = RX12 ∧ yX12_isWorkingDay.cls ≠ "java/lang/invoke/MethodHandle" ∧ yX12_isWorkingDay.cls ≠ "java/lang/invoke/VarHandle" ∧ (parseMethodDescriptor yX12_isWorkingDay.desc).map (fun d => d.parameters.length) = some 1 := by decide +kernel
theorem hs_X12_isWorkingDay : yX12_isWorkingDay.cls ≠ "java/lang/invoke/MethodHandle" ∧ yX12_isWorkingDay.cls ≠ "java/lang/invoke/VarHandle" ∧ (parseMethodDescriptor yX12_isWorkingDay.desc).map (fun d => d.parameters.length) = some 1 := by decide +kernel
set_option maxHeartbeats 4000000 in
set_option maxRecDepth 100000 in
theorem k_X12_isWorkingDay (l : Launch) (hls : l.stackTraces = false) (E : Ev) (K : Kd) (z : Nat) (o : Nat) (a_1 : Int32) (w : Wd) (ho : K o = some (10, 0)) {r : Bool ⊕ Nat} {w' : Wd} (hf : f_X12_isWorkingDay K o a_1 w = some (r, w')) : vx_Met l yX12_isWorkingDay (Cond.code yX12_isWorkingDay cX12_isWorkingDay 2 (Option.some Jvm.ClassFile.FieldType.boolean) :: bt) ({ frames := 7, cells := 1, slots := 6, locals := 111 } : Room) (va_Pc [rv E (some o), .int a_1] (HB E K w z)) (XZ E K z w' r) (XX E K w' r) 1 6 (hA E) := by
  refine vx_ofW (cc := cX12_isWorkingDay) (maxL := 2) (ret := (Option.some Jvm.ClassFile.FieldType.boolean)) (by decide) rfl ?_
  intro p e s m args below meth c s₁ B hml hout hv
  obtain ⟨rfl, hz, hP, hKs, hT, hb0⟩ := hv
  have C : CX p l e s m _ meth c cX12_isWorkingDay 2 RX12 (Option.some Jvm.ClassFile.FieldType.boolean) E := ⟨B.exec, B.bytes, hml, findClass_of_methodNamed B.named, fun w h => atoms_spec (ws := Cond.code yX12_isWorkingDay cX12_isWorkingDay 2 (Option.some Jvm.ClassFile.FieldType.boolean) :: bt) B.pre w (List.mem_cons_of_mem _ h), hKs, hT, by rw [hz]; exact hb0, B.notSynchronized, B.returns⟩
  have hH : HQ E K z w s s.heap [] := ⟨hP, va_S.rf, hz⟩
  obtain ⟨hx, hb, hml, hown, hts, hKs, hT, hb0, hlocks, hret⟩ := id C
  have hl := lv_entry [rv E (some o), .int a_1] (n := 2) (by simp [lg_len_nil, lg_len_i, lg_len_j, lg_len_q])
  rw [lg_entry_eq]
  generalize (lg_sl [rv E (some o), .int a_1] ++ List.replicate (2 - (lg_sl [rv E (some o), .int a_1]).length) Slot.unset).toArray = ls at hl ⊢
  replace hl : lv_has ls 2 [(0, rv E (some o)), (1, .int a_1)] := by simpa only [lv_args, cat_q, cat_i, cat_j, reduceIte, Nat.reduceEqDiff, Nat.reduceAdd, Nat.zero_add] using hl
  generalize s.heap = H at hH ⊢
  unfold f_X12_isWorkingDay at hf
  refine hl_aload_n hx hb dX12_isWorkingDay_0 rfl (lv_at hl 0 rfl) ?_
  refine lv_iload_n hx hb dX12_isWorkingDay_1 rfl (lv_at hl 1 rfl) ?_
  obtain ⟨q1, hq1, hf⟩ := bnd hf
  refine hxV_v hx hb hml hown hts hKs hT hb0 hH (As := [.int a_1]) (rest := []) (k_X12_requireDay l hls E K H.size o a_1 w ho hq1) (gV m5_55 m5_57 ms_34 m1_1 m5_58) hd_X12_requireDay ⟨Nat.le_of_ble_eq_true rfl, Nat.le_of_ble_eq_true rfl, rfl, rfl⟩ rfl ho rfl rfl rfl hl.1 rfl rc0 rfl dX12_isWorkingDay_2 ⟨Nat.le_of_ble_eq_true rfl, Nat.le_of_ble_eq_true rfl⟩ ⟨Nat.le_of_ble_eq_true rfl, Nat.le_of_ble_eq_true rfl⟩ hout hlocks (fun x hx9 => (fun h9 => ⟨(congrArg Prod.fst h9).symm, (congrArg Prod.snd h9).symm⟩) (Option.some.inj ((xk_inr hx9).symm.trans hf))) (fun v2 hv2 H locs hH => ?_)
  replace hf := (xk_inl hv2).symm.trans hf
  refine hl_aload_n hx hb dX12_isWorkingDay_5 rfl (lv_at hl 0 rfl) ?_
  refine g12_5 hx hb hts hown hKs hH rfl ho m2_224 dX12_isWorkingDay_6 ?_
  refine lv_iload_n hx hb dX12_isWorkingDay_9 rfl (lv_at hl 1 rfl) ?_
  obtain ⟨a3, ha3, hf⟩ := bnd hf
  replace ha3 := chk_some ha3
  obtain ⟨q4, hq4, hf⟩ := bnd hf
  refine hcV_i hx hb hml hown hts hKs hT hb0 hH (As := [.int a_1]) (rest := []) (k_X10_works l E K H.size a3 a_1 q1.2 ha3.2 hq4) (gV m5_59 m4_71 m4_72 m1_12 m4_73) hd_X10_works ⟨Nat.le_of_ble_eq_true rfl, Nat.le_of_ble_eq_true rfl, rfl, rfl⟩ ha3.1 ha3.2 rfl rfl rfl hl.1 rfl rc0 rfl dX12_isWorkingDay_10 ⟨Nat.le_of_ble_eq_true rfl, Nat.le_of_ble_eq_true rfl⟩ (fun H locs hH => ?_)
  exact hx_zret hx hb (Nat.le_of_ble_eq_true rfl) (Nat.le_of_ble_eq_true rfl) hret rfl hf hH hlocks dX12_isWorkingDay_13

theorem dX12_workingDays_0 : decode cX12_workingDays 0 = .ok (.aload_n 0, 1) := by decide +kernel
theorem dX12_workingDays_1 : decode cX12_workingDays 1 = .ok (.iload_n 1, 1) := by decide +kernel
theorem dX12_workingDays_2 : decode cX12_workingDays 2 = .ok (.iload_n 2, 1) := by decide +kernel
theorem dX12_workingDays_3 : decode cX12_workingDays 3 = .ok (.invokevirtual 161, 3) := by decide +kernel
theorem dX12_workingDays_6 : decode cX12_workingDays 6 = .ok (.aload_n 0, 1) := by decide +kernel
theorem dX12_workingDays_7 : decode cX12_workingDays 7 = .ok (.getfield 35, 3) := by decide +kernel
theorem dX12_workingDays_10 : decode cX12_workingDays 10 = .ok (.iload_n 1, 1) := by decide +kernel
theorem dX12_workingDays_11 : decode cX12_workingDays 11 = .ok (.iload_n 2, 1) := by decide +kernel
theorem dX12_workingDays_12 : decode cX12_workingDays 12 = .ok (.invokevirtual 165, 3) := by decide +kernel
theorem dX12_workingDays_15 : decode cX12_workingDays 15 = .ok (.ireturn, 1) := by decide +kernel
theorem hd_X12_workingDays : yX12_workingDays.cls = RX12 ∧ yX12_workingDays.cls ≠ "java/lang/invoke/MethodHandle" ∧ yX12_workingDays.cls ≠ "java/lang/invoke/VarHandle" ∧ (parseMethodDescriptor yX12_workingDays.desc).map (fun d => d.parameters.length) = some 2 := by decide +kernel
theorem hs_X12_workingDays : yX12_workingDays.cls ≠ "java/lang/invoke/MethodHandle" ∧ yX12_workingDays.cls ≠ "java/lang/invoke/VarHandle" ∧ (parseMethodDescriptor yX12_workingDays.desc).map (fun d => d.parameters.length) = some 2 := by decide +kernel
set_option maxHeartbeats 4000000 in
set_option maxRecDepth 100000 in
theorem k_X12_workingDays (l : Launch) (hls : l.stackTraces = false) (E : Ev) (K : Kd) (z : Nat) (o : Nat) (a_1 : Int32) (a_2 : Int32) (w : Wd) (ho : K o = some (10, 0)) {r : Int32 ⊕ Nat} {w' : Wd} (hf : f_X12_workingDays K o a_1 a_2 w = some (r, w')) : vx_Met l yX12_workingDays (Cond.code yX12_workingDays cX12_workingDays 3 (Option.some Jvm.ClassFile.FieldType.int) :: bt) ({ frames := 7, cells := 1, slots := 6, locals := 112 } : Room) (va_Pc [rv E (some o), .int a_1, .int a_2] (HB E K w z)) (XI E K z w' r) (XX E K w' r) 1 6 (hA E) := by
  refine vx_ofW (cc := cX12_workingDays) (maxL := 3) (ret := (Option.some Jvm.ClassFile.FieldType.int)) (by decide) rfl ?_
  intro p e s m args below meth c s₁ B hml hout hv
  obtain ⟨rfl, hz, hP, hKs, hT, hb0⟩ := hv
  have C : CX p l e s m _ meth c cX12_workingDays 3 RX12 (Option.some Jvm.ClassFile.FieldType.int) E := ⟨B.exec, B.bytes, hml, findClass_of_methodNamed B.named, fun w h => atoms_spec (ws := Cond.code yX12_workingDays cX12_workingDays 3 (Option.some Jvm.ClassFile.FieldType.int) :: bt) B.pre w (List.mem_cons_of_mem _ h), hKs, hT, by rw [hz]; exact hb0, B.notSynchronized, B.returns⟩
  have hH : HQ E K z w s s.heap [] := ⟨hP, va_S.rf, hz⟩
  obtain ⟨hx, hb, hml, hown, hts, hKs, hT, hb0, hlocks, hret⟩ := id C
  have hl := lv_entry [rv E (some o), .int a_1, .int a_2] (n := 3) (by simp [lg_len_nil, lg_len_i, lg_len_j, lg_len_q])
  rw [lg_entry_eq]
  generalize (lg_sl [rv E (some o), .int a_1, .int a_2] ++ List.replicate (3 - (lg_sl [rv E (some o), .int a_1, .int a_2]).length) Slot.unset).toArray = ls at hl ⊢
  replace hl : lv_has ls 3 [(0, rv E (some o)), (1, .int a_1), (2, .int a_2)] := by simpa only [lv_args, cat_q, cat_i, cat_j, reduceIte, Nat.reduceEqDiff, Nat.reduceAdd, Nat.zero_add] using hl
  generalize s.heap = H at hH ⊢
  unfold f_X12_workingDays at hf
  refine hl_aload_n hx hb dX12_workingDays_0 rfl (lv_at hl 0 rfl) ?_
  refine lv_iload_n hx hb dX12_workingDays_1 rfl (lv_at hl 1 rfl) ?_
  refine lv_iload_n hx hb dX12_workingDays_2 rfl (lv_at hl 2 rfl) ?_
  obtain ⟨q1, hq1, hf⟩ := bnd hf
  refine hxV_v hx hb hml hown hts hKs hT hb0 hH (As := [.int a_1, .int a_2]) (rest := []) (k_X12_requireSpan l hls E K H.size o a_1 a_2 w ho hq1) (gV m5_67 m5_69 ms_35 m1_1 m5_70) hd_X12_requireSpan ⟨Nat.le_of_ble_eq_true rfl, Nat.le_of_ble_eq_true rfl, rfl, rfl⟩ rfl ho rfl rfl rfl hl.1 rfl rc0 rfl dX12_workingDays_3 ⟨Nat.le_of_ble_eq_true rfl, Nat.le_of_ble_eq_true rfl⟩ ⟨Nat.le_of_ble_eq_true rfl, Nat.le_of_ble_eq_true rfl⟩ hout hlocks (fun x hx9 => (fun h9 => ⟨(congrArg Prod.fst h9).symm, (congrArg Prod.snd h9).symm⟩) (Option.some.inj ((xk_inr hx9).symm.trans hf))) (fun v2 hv2 H locs hH => ?_)
  replace hf := (xk_inl hv2).symm.trans hf
  refine hl_aload_n hx hb dX12_workingDays_6 rfl (lv_at hl 0 rfl) ?_
  refine g12_5 hx hb hts hown hKs hH rfl ho m2_224 dX12_workingDays_7 ?_
  refine lv_iload_n hx hb dX12_workingDays_10 rfl (lv_at hl 1 rfl) ?_
  refine lv_iload_n hx hb dX12_workingDays_11 rfl (lv_at hl 2 rfl) ?_
  obtain ⟨a3, ha3, hf⟩ := bnd hf
  replace ha3 := chk_some ha3
  obtain ⟨q4, hq4, hf⟩ := bnd hf
  refine hcV_i hx hb hml hown hts hKs hT hb0 hH (As := [.int a_1, .int a_2]) (rest := []) (k_X10_countWorking l E K H.size a3 a_1 a_2 q1.2 ha3.2 hq4) (gV m5_71 m4_76 m4_77 m1_12 m4_78) hd_X10_countWorking ⟨Nat.le_of_ble_eq_true rfl, Nat.le_of_ble_eq_true rfl, rfl, rfl⟩ ha3.1 ha3.2 rfl rfl rfl hl.1 rfl rc0 rfl dX12_workingDays_12 ⟨Nat.le_of_ble_eq_true rfl, Nat.le_of_ble_eq_true rfl⟩ (fun H locs hH => ?_)
  exact hx_iret hx hb (Nat.le_of_ble_eq_true rfl) (Nat.le_of_ble_eq_true rfl) hret hf hH hlocks dX12_workingDays_15

theorem dX12_lengthening_0 : decode cX12_lengthening 0 = .ok (.aload_n 0, 1) := by decide +kernel
theorem dX12_lengthening_1 : decode cX12_lengthening 1 = .ok (.iload_n 1, 1) := by decide +kernel
theorem dX12_lengthening_2 : decode cX12_lengthening 2 = .ok (.invokevirtual 169, 3) := by decide +kernel
theorem dX12_lengthening_5 : decode cX12_lengthening 5 = .ok (.aload_n 0, 1) := by decide +kernel
theorem dX12_lengthening_6 : decode cX12_lengthening 6 = .ok (.getfield 35, 3) := by decide +kernel
theorem dX12_lengthening_9 : decode cX12_lengthening 9 = .ok (.getfield 87, 3) := by decide +kernel
theorem dX12_lengthening_12 : decode cX12_lengthening 12 = .ok (.getfield 172, 3) := by decide +kernel
theorem dX12_lengthening_15 : decode cX12_lengthening 15 = .ok (.iload_n 1, 1) := by decide +kernel
theorem dX12_lengthening_16 : decode cX12_lengthening 16 = .ok (.iaload, 1) := by decide +kernel
theorem dX12_lengthening_17 : decode cX12_lengthening 17 = .ok (.ireturn, 1) := by decide +kernel
theorem hd_X12_lengthening : yX12_lengthening.cls = RX12 ∧ yX12_lengthening.cls ≠ "java/lang/invoke/MethodHandle" ∧ yX12_lengthening.cls ≠ "java/lang/invoke/VarHandle" ∧ (parseMethodDescriptor yX12_lengthening.desc).map (fun d => d.parameters.length) = some 1 := by decide +kernel
theorem hs_X12_lengthening : yX12_lengthening.cls ≠ "java/lang/invoke/MethodHandle" ∧ yX12_lengthening.cls ≠ "java/lang/invoke/VarHandle" ∧ (parseMethodDescriptor yX12_lengthening.desc).map (fun d => d.parameters.length) = some 1 := by decide +kernel
set_option maxHeartbeats 4000000 in
set_option maxRecDepth 100000 in
theorem k_X12_lengthening (l : Launch) (hls : l.stackTraces = false) (E : Ev) (K : Kd) (z : Nat) (o : Nat) (a_1 : Int32) (w : Wd) (ho : K o = some (10, 0)) {r : Int32 ⊕ Nat} {w' : Wd} (hf : f_X12_lengthening K o a_1 w = some (r, w')) : vx_Met l yX12_lengthening (Cond.code yX12_lengthening cX12_lengthening 2 (Option.some Jvm.ClassFile.FieldType.int) :: bt) ({ frames := 7, cells := 1, slots := 6, locals := 111 } : Room) (va_Pc [rv E (some o), .int a_1] (HB E K w z)) (XI E K z w' r) (XX E K w' r) 1 6 (hA E) := by
  refine vx_ofW (cc := cX12_lengthening) (maxL := 2) (ret := (Option.some Jvm.ClassFile.FieldType.int)) (by decide) rfl ?_
  intro p e s m args below meth c s₁ B hml hout hv
  obtain ⟨rfl, hz, hP, hKs, hT, hb0⟩ := hv
  have C : CX p l e s m _ meth c cX12_lengthening 2 RX12 (Option.some Jvm.ClassFile.FieldType.int) E := ⟨B.exec, B.bytes, hml, findClass_of_methodNamed B.named, fun w h => atoms_spec (ws := Cond.code yX12_lengthening cX12_lengthening 2 (Option.some Jvm.ClassFile.FieldType.int) :: bt) B.pre w (List.mem_cons_of_mem _ h), hKs, hT, by rw [hz]; exact hb0, B.notSynchronized, B.returns⟩
  have hH : HQ E K z w s s.heap [] := ⟨hP, va_S.rf, hz⟩
  obtain ⟨hx, hb, hml, hown, hts, hKs, hT, hb0, hlocks, hret⟩ := id C
  have hl := lv_entry [rv E (some o), .int a_1] (n := 2) (by simp [lg_len_nil, lg_len_i, lg_len_j, lg_len_q])
  rw [lg_entry_eq]
  generalize (lg_sl [rv E (some o), .int a_1] ++ List.replicate (2 - (lg_sl [rv E (some o), .int a_1]).length) Slot.unset).toArray = ls at hl ⊢
  replace hl : lv_has ls 2 [(0, rv E (some o)), (1, .int a_1)] := by simpa only [lv_args, cat_q, cat_i, cat_j, reduceIte, Nat.reduceEqDiff, Nat.reduceAdd, Nat.zero_add] using hl
  generalize s.heap = H at hH ⊢
  unfold f_X12_lengthening at hf
  refine hl_aload_n hx hb dX12_lengthening_0 rfl (lv_at hl 0 rfl) ?_
  refine lv_iload_n hx hb dX12_lengthening_1 rfl (lv_at hl 1 rfl) ?_
  obtain ⟨q1, hq1, hf⟩ := bnd hf
  refine hxV_v hx hb hml hown hts hKs hT hb0 hH (As := [.int a_1]) (rest := []) (k_X12_requireReason l hls E K H.size o a_1 w ho hq1) (gV m5_79 m5_81 ms_36 m1_1 m5_82) hd_X12_requireReason ⟨Nat.le_of_ble_eq_true rfl, Nat.le_of_ble_eq_true rfl, rfl, rfl⟩ rfl ho rfl rfl rfl hl.1 rfl rc0 rfl dX12_lengthening_2 ⟨Nat.le_of_ble_eq_true rfl, Nat.le_of_ble_eq_true rfl⟩ ⟨Nat.le_of_ble_eq_true rfl, Nat.le_of_ble_eq_true rfl⟩ hout hlocks (fun x hx9 => (fun h9 => ⟨(congrArg Prod.fst h9).symm, (congrArg Prod.snd h9).symm⟩) (Option.some.inj ((xk_inr hx9).symm.trans hf))) (fun v2 hv2 H locs hH => ?_)
  replace hf := (xk_inl hv2).symm.trans hf
  refine hl_aload_n hx hb dX12_lengthening_5 rfl (lv_at hl 0 rfl) ?_
  refine g12_5 hx hb hts hown hKs hH rfl ho m2_224 dX12_lengthening_6 ?_
  obtain ⟨a3, ha3, hf⟩ := bnd hf
  replace ha3 := chk_some ha3
  refine gn10_0 hx hb hts hown hKs hH ha3.1 ha3.2 m2_122 dX12_lengthening_9 ?_
  obtain ⟨a4, ha4, hf⟩ := bnd hf
  replace ha4 := chk_some ha4
  refine gn9_11 hx hb hts hown hKs hH ha4.1 ha4.2 m1_185 dX12_lengthening_12 ?_
  refine lv_iload_n hx hb dX12_lengthening_15 rfl (lv_at hl 1 rfl) ?_
  obtain ⟨a5, ha5, hf⟩ := bnd hf
  replace ha5 := cha_some ha5
  obtain ⟨j6, hj6, hf⟩ := bnd hf
  refine hw_iald hx hb hKs hH ha5.1 ha5.2 hj6 dX12_lengthening_16 ?_
  exact hx_iret hx hb (Nat.le_of_ble_eq_true rfl) (Nat.le_of_ble_eq_true rfl) hret hf hH hlocks dX12_lengthening_17

theorem dX12_undo_0 : decode cX12_undo 0 = .ok (.aload_n 0, 1) := by decide +kernel
theorem dX12_undo_1 : decode cX12_undo 1 = .ok (.getfield 102, 3) := by decide +kernel
theorem dX12_undo_4 : decode cX12_undo 4 = .ok (.ifCond .le 15, 3) := by decide +kernel
theorem dX12_undo_7 : decode cX12_undo 7 = .ok (.aload_n 0, 1) := by decide +kernel
theorem dX12_undo_8 : decode cX12_undo 8 = .ok (.getfield 102, 3) := by decide +kernel
theorem dX12_undo_11 : decode cX12_undo 11 = .ok (.aload_n 0, 1) := by decide +kernel
theorem dX12_undo_12 : decode cX12_undo 12 = .ok (.getfield 45, 3) := by decide +kernel
theorem dX12_undo_15 : decode cX12_undo 15 = .ok (.arraylength, 1) := by decide +kernel
theorem dX12_undo_16 : decode cX12_undo 16 = .ok (.if_icmp .le 11, 3) := by decide +kernel
theorem dX12_undo_19 : decode cX12_undo 19 = .ok (.new 331, 3) := by decide +kernel
theorem dX12_undo_22 : decode cX12_undo 22 = .ok (.dup, 1) := by decide +kernel
theorem dX12_undo_23 : decode cX12_undo 23 = .ok (.invokespecial 333, 3) := by decide +kernel
theorem dX12_undo_26 : decode cX12_undo 26 = .ok (.athrow, 1) := by decide +kernel
theorem dX12_undo_27 : decode cX12_undo 27 = .ok (.aload_n 0, 1) := by decide +kernel
theorem dX12_undo_28 : decode cX12_undo 28 = .ok (.dup, 1) := by decide +kernel
theorem dX12_undo_29 : decode cX12_undo 29 = .ok (.getfield 102, 3) := by decide +kernel
theorem dX12_undo_32 : decode cX12_undo 32 = .ok (.iconst 1, 1) := by decide +kernel
theorem dX12_undo_33 : decode cX12_undo 33 = .ok (.isub, 1) := by decide +kernel
theorem dX12_undo_34 : decode cX12_undo 34 = .ok (.putfield 102, 3) := by decide +kernel
theorem dX12_undo_37 : decode cX12_undo 37 = .ok (.aload_n 0, 1) := by decide +kernel
theorem dX12_undo_38 : decode cX12_undo 38 = .ok (.getfield 35, 3) := by decide +kernel
theorem dX12_undo_41 : decode cX12_undo 41 = .ok (.aload_n 0, 1) := by decide +kernel
theorem dX12_undo_42 : decode cX12_undo 42 = .ok (.getfield 45, 3) := by decide +kernel
theorem dX12_undo_45 : decode cX12_undo 45 = .ok (.aload_n 0, 1) := by decide +kernel
theorem dX12_undo_46 : decode cX12_undo 46 = .ok (.getfield 102, 3) := by decide +kernel
theorem dX12_undo_49 : decode cX12_undo 49 = .ok (.aaload, 1) := by decide +kernel
theorem dX12_undo_50 : decode cX12_undo 50 = .ok (.invokevirtual 362, 3) := by decide +kernel
theorem dX12_undo_53 : decode cX12_undo 53 = .ok (.aload_n 0, 1) := by decide +kernel
theorem dX12_undo_54 : decode cX12_undo 54 = .ok (.getfield 102, 3) := by decide +kernel
theorem dX12_undo_57 : decode cX12_undo 57 = .ok (.ireturn, 1) := by decide +kernel
theorem hd_X12_undo : yX12_undo.cls = RX12 ∧ yX12_undo.cls ≠ "java/lang/invoke/MethodHandle" ∧ yX12_undo.cls ≠ "java/lang/invoke/VarHandle" ∧ (parseMethodDescriptor yX12_undo.desc).map (fun d => d.parameters.length) = some 0 := by decide +kernel
theorem hs_X12_undo : yX12_undo.cls ≠ "java/lang/invoke/MethodHandle" ∧ yX12_undo.cls ≠ "java/lang/invoke/VarHandle" ∧ (parseMethodDescriptor yX12_undo.desc).map (fun d => d.parameters.length) = some 0 := by decide +kernel
set_option maxHeartbeats 4000000 in
set_option maxRecDepth 100000 in
theorem k_X12_undo (l : Launch) (hls : l.stackTraces = false) (E : Ev) (K : Kd) (z : Nat) (o : Nat) (w : Wd) (ho : K o = some (10, 0)) {r : Int32 ⊕ Nat} {w' : Wd} (hf : f_X12_undo K o w = some (r, w')) : vx_Met l yX12_undo (Cond.code yX12_undo cX12_undo 1 (Option.some Jvm.ClassFile.FieldType.int) :: bt) ({ frames := 6, cells := 1, slots := 6, locals := 103 } : Room) (va_Pc [rv E (some o)] (HB E K w z)) (XI E K z w' r) (XX E K w' r) 1 6 (hA E) := by
  refine vx_ofW (cc := cX12_undo) (maxL := 1) (ret := (Option.some Jvm.ClassFile.FieldType.int)) (by decide) rfl ?_
  intro p e s m args below meth c s₁ B hml hout hv
  obtain ⟨rfl, hz, hP, hKs, hT, hb0⟩ := hv
  have C : CX p l e s m _ meth c cX12_undo 1 RX12 (Option.some Jvm.ClassFile.FieldType.int) E := ⟨B.exec, B.bytes, hml, findClass_of_methodNamed B.named, fun w h => atoms_spec (ws := Cond.code yX12_undo cX12_undo 1 (Option.some Jvm.ClassFile.FieldType.int) :: bt) B.pre w (List.mem_cons_of_mem _ h), hKs, hT, by rw [hz]; exact hb0, B.notSynchronized, B.returns⟩
  have hH : HQ E K z w s s.heap [] := ⟨hP, va_S.rf, hz⟩
  obtain ⟨hx, hb, hml, hown, hts, hKs, hT, hb0, hlocks, hret⟩ := id C
  have hl := lv_entry [rv E (some o)] (n := 1) (by simp [lg_len_nil, lg_len_i, lg_len_j, lg_len_q])
  rw [lg_entry_eq]
  generalize (lg_sl [rv E (some o)] ++ List.replicate (1 - (lg_sl [rv E (some o)]).length) Slot.unset).toArray = ls at hl ⊢
  replace hl : lv_has ls 1 [(0, rv E (some o))] := by simpa only [lv_args, cat_q, cat_i, cat_j, reduceIte, Nat.reduceEqDiff, Nat.reduceAdd, Nat.zero_add] using hl
  generalize s.heap = H at hH ⊢
  unfold f_X12_undo at hf
  refine hl_aload_n hx hb dX12_undo_0 rfl (lv_at hl 0 rfl) ?_
  refine g12_10 hx hb hts hown hKs hH rfl ho m2_229 dX12_undo_1 ?_
  refine lv_if_le (tgt := 19) hx hb dX12_undo_4 (by decide) (fun c1 => ?_) (fun c1 => ?_)
  · replace hf := (if_pos c1).symm.trans hf
    exact hx_throw hx hb hls (code := 3) hml hl.1 hown hts hKs hT hb0 hH (by decide) rfl m5_195 m1_29 hat_RX12_333 dX12_undo_19 dX12_undo_22 dX12_undo_23 dX12_undo_26 hout (Nat.le_of_ble_eq_true rfl) rc0 (Nat.le_of_ble_eq_true rfl) (Nat.le_of_ble_eq_true rfl) (Nat.le_of_ble_eq_true rfl) hlocks hf (Nat.le_of_ble_eq_true rfl) (Nat.le_of_ble_eq_true rfl)
  · replace hf := (if_neg c1).symm.trans hf
    refine hl_aload_n hx hb dX12_undo_7 rfl (lv_at hl 0 rfl) ?_
    refine g12_10 hx hb hts hown hKs hH rfl ho m2_229 dX12_undo_8 ?_
    refine hl_aload_n hx hb dX12_undo_11 rfl (lv_at hl 0 rfl) ?_
    refine g12_9 hx hb hts hown hKs hH rfl ho m2_228 dX12_undo_12 ?_
    obtain ⟨a2, ha2, hf⟩ := bnd hf
    replace ha2 := cha_some ha2
    refine hw_alen28 hx hb hKs hH ha2.1 ha2.2 dX12_undo_15 ?_
    refine lv_icmp_le (tgt := 27) hx hb dX12_undo_16 (by decide) (fun c3 => ?_) (fun c3 => ?_)
    · replace hf := (if_pos c3).symm.trans hf
      refine hl_aload_n hx hb dX12_undo_27 rfl (lv_at hl 0 rfl) ?_
      refine lv_dup hx hb dX12_undo_28 rv_cat ?_
      refine g12_10 hx hb hts hown hKs hH rfl ho m2_229 dX12_undo_29 ?_
      refine lv_iconst (v := 1) hx hb dX12_undo_32 (by decide) ?_
      refine lv_isub hx hb dX12_undo_33 ?_
      obtain ⟨w4, hw4, hf⟩ := bnd hf
      replace hw4 := Option.some.inj hw4
      refine p12_10 (v := ((wI w 1210 o) - 1)) hx hb hts hown hKs hH rfl ho m2_229 dX12_undo_34 (fun H locs hH => ?_)
      rw [hw4] at hH
      refine hl_aload_n hx hb dX12_undo_37 rfl (lv_at hl 0 rfl) ?_
      refine g12_5 hx hb hts hown hKs hH rfl ho m2_224 dX12_undo_38 ?_
      refine hl_aload_n hx hb dX12_undo_41 rfl (lv_at hl 0 rfl) ?_
      refine g12_9 hx hb hts hown hKs hH rfl ho m2_228 dX12_undo_42 ?_
      refine hl_aload_n hx hb dX12_undo_45 rfl (lv_at hl 0 rfl) ?_
      refine g12_10 hx hb hts hown hKs hH rfl ho m2_229 dX12_undo_46 ?_
      obtain ⟨a5, ha5, hf⟩ := bnd hf
      replace ha5 := cha_some ha5
      obtain ⟨j6, hj6, hf⟩ := bnd hf
      refine hw_aald28 hx hb hKs hH ha5.1 ha5.2 hj6 dX12_undo_49 ?_
      obtain ⟨a7, ha7, hf⟩ := bnd hf
      replace ha7 := chk_some ha7
      obtain ⟨q8, hq8, hf⟩ := bnd hf
      refine hcV_v hx hb hml hown hts hKs hT hb0 hH (As := [rv E (aR w4 a5.1 j6)]) (rest := []) (k_X10_copyFrom l E K H.size a7 (aR w4 a5.1 j6) w4 ha7.2 hq8) (gV m4_87 m4_88 m4_89 m1_12 m4_90) hd_X10_copyFrom ⟨Nat.le_of_ble_eq_true rfl, Nat.le_of_ble_eq_true rfl, rfl, rfl⟩ ha7.1 ha7.2 rfl rfl rfl hl.1 rfl rc0 rfl dX12_undo_50 ⟨Nat.le_of_ble_eq_true rfl, Nat.le_of_ble_eq_true rfl⟩ (fun H locs hH => ?_)
      refine hl_aload_n hx hb dX12_undo_53 rfl (lv_at hl 0 rfl) ?_
      refine g12_10 hx hb hts hown hKs hH rfl ho m2_229 dX12_undo_54 ?_
      exact hx_iret hx hb (Nat.le_of_ble_eq_true rfl) (Nat.le_of_ble_eq_true rfl) hret hf hH hlocks dX12_undo_57
    · replace hf := (if_neg c3).symm.trans hf
      exact hx_throw hx hb hls (code := 3) hml hl.1 hown hts hKs hT hb0 hH (by decide) rfl m5_195 m1_29 hat_RX12_333 dX12_undo_19 dX12_undo_22 dX12_undo_23 dX12_undo_26 hout (Nat.le_of_ble_eq_true rfl) rc0 (Nat.le_of_ble_eq_true rfl) (Nat.le_of_ble_eq_true rfl) (Nat.le_of_ble_eq_true rfl) hlocks hf (Nat.le_of_ble_eq_true rfl) (Nat.le_of_ble_eq_true rfl)

theorem dX12_remember_0 : decode cX12_remember 0 = .ok (.aload_n 0, 1) := by decide +kernel
theorem dX12_remember_1 : decode cX12_remember 1 = .ok (.getfield 102, 3) := by decide +kernel
theorem dX12_remember_4 : decode cX12_remember 4 = .ok (.bipush 8, 2) := by decide +kernel
theorem dX12_remember_6 : decode cX12_remember 6 = .ok (.if_icmp .lt 60, 3) := by decide +kernel
theorem dX12_remember_9 : decode cX12_remember 9 = .ok (.aload_n 0, 1) := by decide +kernel
theorem dX12_remember_10 : decode cX12_remember 10 = .ok (.getfield 45, 3) := by decide +kernel
theorem dX12_remember_13 : decode cX12_remember 13 = .ok (.iconst 0, 1) := by decide +kernel
theorem dX12_remember_14 : decode cX12_remember 14 = .ok (.aaload, 1) := by decide +kernel
theorem dX12_remember_15 : decode cX12_remember 15 = .ok (.astore_n 1, 1) := by decide +kernel
theorem dX12_remember_16 : decode cX12_remember 16 = .ok (.iconst 1, 1) := by decide +kernel
theorem dX12_remember_17 : decode cX12_remember 17 = .ok (.istore_n 2, 1) := by decide +kernel
theorem dX12_remember_18 : decode cX12_remember 18 = .ok (.iload_n 2, 1) := by decide +kernel
theorem dX12_remember_19 : decode cX12_remember 19 = .ok (.aload_n 0, 1) := by decide +kernel
theorem dX12_remember_20 : decode cX12_remember 20 = .ok (.getfield 45, 3) := by decide +kernel
theorem dX12_remember_23 : decode cX12_remember 23 = .ok (.arraylength, 1) := by decide +kernel
theorem dX12_remember_24 : decode cX12_remember 24 = .ok (.if_icmp .ge 23, 3) := by decide +kernel
theorem dX12_remember_27 : decode cX12_remember 27 = .ok (.aload_n 0, 1) := by decide +kernel
theorem dX12_remember_28 : decode cX12_remember 28 = .ok (.getfield 45, 3) := by decide +kernel
theorem dX12_remember_31 : decode cX12_remember 31 = .ok (.iload_n 2, 1) := by decide +kernel
theorem dX12_remember_32 : decode cX12_remember 32 = .ok (.iconst 1, 1) := by decide +kernel
theorem dX12_remember_33 : decode cX12_remember 33 = .ok (.isub, 1) := by decide +kernel
theorem dX12_remember_34 : decode cX12_remember 34 = .ok (.aload_n 0, 1) := by decide +kernel
theorem dX12_remember_35 : decode cX12_remember 35 = .ok (.getfield 45, 3) := by decide +kernel
theorem dX12_remember_38 : decode cX12_remember 38 = .ok (.iload_n 2, 1) := by decide +kernel
theorem dX12_remember_39 : decode cX12_remember 39 = .ok (.aaload, 1) := by decide +kernel
theorem dX12_remember_40 : decode cX12_remember 40 = .ok (.aastore, 1) := by decide +kernel
theorem dX12_remember_41 : decode cX12_remember 41 = .ok (.iinc 2 1, 3) := by decide +kernel
theorem dX12_remember_44 : decode cX12_remember 44 = .ok (.goto (-26), 3) := by decide +kernel
theorem dX12_remember_47 : decode cX12_remember 47 = .ok (.aload_n 0, 1) := by decide +kernel
theorem dX12_remember_48 : decode cX12_remember 48 = .ok (.getfield 45, 3) := by decide +kernel
theorem dX12_remember_51 : decode cX12_remember 51 = .ok (.aload_n 0, 1) := by decide +kernel
theorem dX12_remember_52 : decode cX12_remember 52 = .ok (.getfield 45, 3) := by decide +kernel
theorem dX12_remember_55 : decode cX12_remember 55 = .ok (.arraylength, 1) := by decide +kernel
theorem dX12_remember_56 : decode cX12_remember 56 = .ok (.iconst 1, 1) := by decide +kernel
theorem dX12_remember_57 : decode cX12_remember 57 = .ok (.isub, 1) := by decide +kernel
theorem dX12_remember_58 : decode cX12_remember 58 = .ok (.aload_n 1, 1) := by decide +kernel
theorem dX12_remember_59 : decode cX12_remember 59 = .ok (.aastore, 1) := by decide +kernel
theorem dX12_remember_60 : decode cX12_remember 60 = .ok (.aload_n 0, 1) := by decide +kernel
theorem dX12_remember_61 : decode cX12_remember 61 = .ok (.bipush 7, 2) := by decide +kernel
theorem dX12_remember_63 : decode cX12_remember 63 = .ok (.putfield 102, 3) := by decide +kernel
theorem dX12_remember_66 : decode cX12_remember 66 = .ok (.aload_n 0, 1) := by decide +kernel
theorem dX12_remember_67 : decode cX12_remember 67 = .ok (.getfield 45, 3) := by decide +kernel
theorem dX12_remember_70 : decode cX12_remember 70 = .ok (.aload_n 0, 1) := by decide +kernel
theorem dX12_remember_71 : decode cX12_remember 71 = .ok (.getfield 102, 3) := by decide +kernel
theorem dX12_remember_74 : decode cX12_remember 74 = .ok (.aaload, 1) := by decide +kernel
theorem dX12_remember_75 : decode cX12_remember 75 = .ok (.aload_n 0, 1) := by decide +kernel
theorem dX12_remember_76 : decode cX12_remember 76 = .ok (.getfield 35, 3) := by decide +kernel
theorem dX12_remember_79 : decode cX12_remember 79 = .ok (.invokevirtual 362, 3) := by decide +kernel
theorem dX12_remember_82 : decode cX12_remember 82 = .ok (.aload_n 0, 1) := by decide +kernel
theorem dX12_remember_83 : decode cX12_remember 83 = .ok (.dup, 1) := by decide +kernel
theorem dX12_remember_84 : decode cX12_remember 84 = .ok (.getfield 102, 3) := by decide +kernel
theorem dX12_remember_87 : decode cX12_remember 87 = .ok (.iconst 1, 1) := by decide +kernel
theorem dX12_remember_88 : decode cX12_remember 88 = .ok (.iadd, 1) := by decide +kernel
theorem dX12_remember_89 : decode cX12_remember 89 = .ok (.putfield 102, 3) := by decide +kernel
theorem dX12_remember_92 : decode cX12_remember 92 = .ok (.return_, 1) := by decide +kernel
theorem hd_X12_remember : yX12_remember.cls = RX12 ∧ yX12_remember.cls ≠ "java/lang/invoke/MethodHandle" ∧ yX12_remember.cls ≠ "java/lang/invoke/VarHandle" ∧ (parseMethodDescriptor yX12_remember.desc).map (fun d => d.parameters.length) = some 0 := by decide +kernel
theorem hs_X12_remember : yX12_remember.cls ≠ "java/lang/invoke/MethodHandle" ∧ yX12_remember.cls ≠ "java/lang/invoke/VarHandle" ∧ (parseMethodDescriptor yX12_remember.desc).map (fun d => d.parameters.length) = some 0 := by decide +kernel
set_option maxHeartbeats 4000000 in
set_option maxRecDepth 100000 in
theorem l_X12_remember_L18 (C : CX p l e s m args meth c cX12_remember 3 RX12 (Option.none : Option Jvm.ClassFile.FieldType) E) {o : Nat} (ho : K o = some (10, 0)) {w' : Wd} (k : Option Nat → Int32 → Wd → Option Wd) (hk : ∀ (v1_18 : Option Nat) (v2_18 : Int32) (w : Wd) (H : Heap) (locs : List Loc) (ls : Array Slot), HQ E K z w s H locs → lv_has ls 3 [(1, rv E v1_18), (2, .int v2_18), (0, rv E (some o))] → k v1_18 v2_18 w = some w' → W p l e ({ frames := 3, cells := 0, slots := 0, locals := 103 } : Room) s m args below meth c H locs 0 0 (MQ below (QV E K z w') args s 0 0 (hA E)) (F0 m 47 ls [])) : ∀ (n : Nat) (v1_18 : Option Nat) (v2_18 : Int32) (w : Wd) (H : Heap) (locs : List Loc) (ls : Array Slot), HQ E K z w s H locs → lv_has ls 3 [(1, rv E v1_18), (2, .int v2_18), (0, rv E (some o))] → f_X12_remember_L18 K o k n v1_18 v2_18 w = some w' → W p l e ({ frames := 3, cells := 0, slots := 0, locals := 103 } : Room) s m args below meth c H locs 0 0 (MQ below (QV E K z w') args s 0 0 (hA E)) (F0 m 18 ls []) := by
  obtain ⟨hx, hb, hml, hown, hts, hKs, hT, hb0, hlocks, hret⟩ := id C
  intro n
  induction n with
  | zero =>
    intro v1_18 v2_18 w H locs ls hH hl hf
    cases hf
  | succ n ih =>
    intro v1_18 v2_18 w H locs ls hH hl hf
    rw [f_X12_remember_L18] at hf
    refine lv_iload_n hx hb dX12_remember_18 rfl (lv_at hl 1 rfl) ?_
    refine hl_aload_n hx hb dX12_remember_19 rfl (lv_at hl 2 rfl) ?_
    refine g12_9 hx hb hts hown hKs hH rfl ho m2_228 dX12_remember_20 ?_
    obtain ⟨a10, ha10, hf⟩ := bnd hf
    replace ha10 := cha_some ha10
    refine hw_alen28 hx hb hKs hH ha10.1 ha10.2 dX12_remember_23 ?_
    refine lv_icmp_ge (tgt := 47) hx hb dX12_remember_24 (by decide) (fun c11 => ?_) (fun c11 => ?_)
    · replace hf := (if_pos c11).symm.trans hf
      exact hk v1_18 v2_18 _ _ _ _ hH (lv_sub hl [0, 1, 2] rfl) hf
    · replace hf := (if_neg c11).symm.trans hf
      refine hl_aload_n hx hb dX12_remember_27 rfl (lv_at hl 2 rfl) ?_
      refine g12_9 hx hb hts hown hKs hH rfl ho m2_228 dX12_remember_28 ?_
      refine lv_iload_n hx hb dX12_remember_31 rfl (lv_at hl 1 rfl) ?_
      refine lv_iconst (v := 1) hx hb dX12_remember_32 (by decide) ?_
      refine lv_isub hx hb dX12_remember_33 ?_
      refine hl_aload_n hx hb dX12_remember_34 rfl (lv_at hl 2 rfl) ?_
      refine g12_9 hx hb hts hown hKs hH rfl ho m2_228 dX12_remember_35 ?_
      refine lv_iload_n hx hb dX12_remember_38 rfl (lv_at hl 1 rfl) ?_
      obtain ⟨j12, hj12, hf⟩ := bnd hf
      refine hw_aald28 hx hb hKs hH ha10.1 ha10.2 hj12 dX12_remember_39 ?_
      obtain ⟨j13, hj13, hf⟩ := bnd hf
      obtain ⟨a14, ha14, hf⟩ := bnd hf
      replace ha14 := chk_some ha14
      obtain ⟨w15, hw15, hf⟩ := bnd hf
      replace hw15 := Option.some.inj hw15
      refine hw_aast28 hx hb hKs hH ha10.1 ha10.2 ha14.1 ha14.2 hj13 dX12_remember_40 (fun H locs hH => ?_)
      rw [hw15] at hH
      refine lv_iinc (v := (v2_18 + 1)) (lv' := [(2, .int ((v2_18 + 1))), (1, rv E v1_18), (0, rv E (some o))]) hx hb dX12_remember_41 hl (k := 1) rfl rfl (by decide) (by simp [List.filter_cons, cat_q, cat_i, cat_j]) (fun ls hl => ?_)
      refine lv_goto (tgt := 18) hx hb dX12_remember_44 (by decide) ?_
      exact ih v1_18 (v2_18 + 1) _ _ _ _ hH (lv_sub hl [1, 0, 2] rfl) hf
set_option maxHeartbeats 4000000 in
set_option maxRecDepth 100000 in
theorem k_X12_remember (l : Launch) (E : Ev) (K : Kd) (z : Nat) (o : Nat) (w : Wd) (ho : K o = some (10, 0)) {w' : Wd} (hf : f_X12_remember K o w = some w') : Met l yX12_remember (Cond.code yX12_remember cX12_remember 3 (Option.none : Option Jvm.ClassFile.FieldType) :: bt) ({ frames := 3, cells := 0, slots := 0, locals := 103 } : Room) (va_Pc [rv E (some o)] (HB E K w z)) (QV E K z w') 0 0 (hA E) := by
  refine Met.ofW (cc := cX12_remember) (maxL := 3) (ret := (Option.none : Option Jvm.ClassFile.FieldType)) (by decide) rfl ?_
  intro p e s m args below meth c s₁ B hml hv
  obtain ⟨rfl, hz, hP, hKs, hT, hb0⟩ := hv
  have C : CX p l e s m _ meth c cX12_remember 3 RX12 (Option.none : Option Jvm.ClassFile.FieldType) E := ⟨B.exec, B.bytes, hml, findClass_of_methodNamed B.named, fun w h => atoms_spec (ws := Cond.code yX12_remember cX12_remember 3 (Option.none : Option Jvm.ClassFile.FieldType) :: bt) B.pre w (List.mem_cons_of_mem _ h), hKs, hT, by rw [hz]; exact hb0, B.notSynchronized, B.returns⟩
  have hH : HQ E K z w s s.heap [] := ⟨hP, va_S.rf, hz⟩
  obtain ⟨hx, hb, hml, hown, hts, hKs, hT, hb0, hlocks, hret⟩ := id C
  have hl := lv_entry [rv E (some o)] (n := 3) (by simp [lg_len_nil, lg_len_i, lg_len_j, lg_len_q])
  rw [lg_entry_eq]
  generalize (lg_sl [rv E (some o)] ++ List.replicate (3 - (lg_sl [rv E (some o)]).length) Slot.unset).toArray = ls at hl ⊢
  replace hl : lv_has ls 3 [(0, rv E (some o))] := by simpa only [lv_args, cat_q, cat_i, cat_j, reduceIte, Nat.reduceEqDiff, Nat.reduceAdd, Nat.zero_add] using hl
  generalize s.heap = H at hH ⊢
  unfold f_X12_remember at hf
  refine hl_aload_n hx hb dX12_remember_0 rfl (lv_at hl 0 rfl) ?_
  refine g12_10 hx hb hts hown hKs hH rfl ho m2_229 dX12_remember_1 ?_
  refine lv_bipush (v := 8) hx hb dX12_remember_4 (by decide) ?_
  refine lv_icmp_lt (tgt := 66) hx hb dX12_remember_6 (by decide) (fun c1 => ?_) (fun c1 => ?_)
  · replace hf := (if_pos c1).symm.trans hf
    refine hl_aload_n hx hb dX12_remember_66 rfl (lv_at hl 0 rfl) ?_
    refine g12_9 hx hb hts hown hKs hH rfl ho m2_228 dX12_remember_67 ?_
    refine hl_aload_n hx hb dX12_remember_70 rfl (lv_at hl 0 rfl) ?_
    refine g12_10 hx hb hts hown hKs hH rfl ho m2_229 dX12_remember_71 ?_
    obtain ⟨a2, ha2, hf⟩ := bnd hf
    replace ha2 := cha_some ha2
    obtain ⟨j3, hj3, hf⟩ := bnd hf
    refine hw_aald28 hx hb hKs hH ha2.1 ha2.2 hj3 dX12_remember_74 ?_
    refine hl_aload_n hx hb dX12_remember_75 rfl (lv_at hl 0 rfl) ?_
    refine g12_5 hx hb hts hown hKs hH rfl ho m2_224 dX12_remember_76 ?_
    obtain ⟨a4, ha4, hf⟩ := bnd hf
    replace ha4 := chk_some ha4
    obtain ⟨q5, hq5, hf⟩ := bnd hf
    refine hcV_v hx hb hml hown hts hKs hT hb0 hH (As := [rv E (wR w 1205 o)]) (rest := []) (k_X10_copyFrom l E K H.size a4 (wR w 1205 o) w ha4.2 hq5) (gV m4_87 m4_88 m4_89 m1_12 m4_90) hd_X10_copyFrom ⟨Nat.le_of_ble_eq_true rfl, Nat.le_of_ble_eq_true rfl, rfl, rfl⟩ ha4.1 ha4.2 rfl rfl rfl hl.1 rfl rc0 rfl dX12_remember_79 ⟨Nat.zero_le _, Nat.zero_le _⟩ (fun H locs hH => ?_)
    refine hl_aload_n hx hb dX12_remember_82 rfl (lv_at hl 0 rfl) ?_
    refine lv_dup hx hb dX12_remember_83 rv_cat ?_
    refine g12_10 hx hb hts hown hKs hH rfl ho m2_229 dX12_remember_84 ?_
    refine lv_iconst (v := 1) hx hb dX12_remember_87 (by decide) ?_
    refine lv_iadd hx hb dX12_remember_88 ?_
    obtain ⟨w6, hw6, hf⟩ := bnd hf
    replace hw6 := Option.some.inj hw6
    refine p12_10 (v := ((wI q5 1210 o) + 1)) hx hb hts hown hKs hH rfl ho m2_229 dX12_remember_89 (fun H locs hH => ?_)
    rw [hw6] at hH
    exact hw_vret hx hb hret hf hH hlocks dX12_remember_92
  · replace hf := (if_neg c1).symm.trans hf
    refine hl_aload_n hx hb dX12_remember_9 rfl (lv_at hl 0 rfl) ?_
    refine g12_9 hx hb hts hown hKs hH rfl ho m2_228 dX12_remember_10 ?_
    refine lv_iconst (v := 0) hx hb dX12_remember_13 (by decide) ?_
    obtain ⟨a7, ha7, hf⟩ := bnd hf
    replace ha7 := cha_some ha7
    obtain ⟨j8, hj8, hf⟩ := bnd hf
    refine hw_aald28 hx hb hKs hH ha7.1 ha7.2 hj8 dX12_remember_14 ?_
    refine hl_astore_n (lv' := [(1, rv E (aR w a7.1 j8)), (0, rv E (some o))]) hx hb dX12_remember_15 rfl hl (by decide) rfl (fun ls hl => ?_)
    refine lv_iconst (v := 1) hx hb dX12_remember_16 (by decide) ?_
    refine lv_istore_n (lv' := [(2, .int 1), (1, rv E (aR w a7.1 j8)), (0, rv E (some o))]) hx hb dX12_remember_17 rfl hl (by decide) (by simp [List.filter_cons, cat_q, cat_i, cat_j]) (fun ls hl => ?_)
    refine l_X12_remember_L18  C ho _ (fun v1_18 v2_18 w9 H locs ls hH hl hf => ?_) fu (aR w a7.1 j8) 1 w _ _ _ hH (lv_sub hl [1, 0, 2] rfl) hf
    refine hl_aload_n hx hb dX12_remember_47 rfl (lv_at hl 2 rfl) ?_
    refine g12_9 hx hb hts hown hKs hH rfl ho m2_228 dX12_remember_48 ?_
    refine hl_aload_n hx hb dX12_remember_51 rfl (lv_at hl 2 rfl) ?_
    refine g12_9 hx hb hts hown hKs hH rfl ho m2_228 dX12_remember_52 ?_
    obtain ⟨a16, ha16, hf⟩ := bnd hf
    replace ha16 := cha_some ha16
    refine hw_alen28 hx hb hKs hH ha16.1 ha16.2 dX12_remember_55 ?_
    refine lv_iconst (v := 1) hx hb dX12_remember_56 (by decide) ?_
    refine lv_isub hx hb dX12_remember_57 ?_
    refine hl_aload_n hx hb dX12_remember_58 rfl (lv_at hl 0 rfl) ?_
    obtain ⟨j17, hj17, hf⟩ := bnd hf
    obtain ⟨a18, ha18, hf⟩ := bnd hf
    replace ha18 := chk_some ha18
    obtain ⟨w19, hw19, hf⟩ := bnd hf
    replace hw19 := Option.some.inj hw19
    refine hw_aast28 hx hb hKs hH ha16.1 ha16.2 ha18.1 ha18.2 hj17 dX12_remember_59 (fun H locs hH => ?_)
    rw [hw19] at hH
    refine hl_aload_n hx hb dX12_remember_60 rfl (lv_at hl 2 rfl) ?_
    refine lv_bipush (v := 7) hx hb dX12_remember_61 (by decide) ?_
    obtain ⟨w20, hw20, hf⟩ := bnd hf
    replace hw20 := Option.some.inj hw20
    refine p12_10 (v := 7) hx hb hts hown hKs hH rfl ho m2_229 dX12_remember_63 (fun H locs hH => ?_)
    rw [hw20] at hH
    refine hl_aload_n hx hb dX12_remember_66 rfl (lv_at hl 2 rfl) ?_
    refine g12_9 hx hb hts hown hKs hH rfl ho m2_228 dX12_remember_67 ?_
    refine hl_aload_n hx hb dX12_remember_70 rfl (lv_at hl 2 rfl) ?_
    refine g12_10 hx hb hts hown hKs hH rfl ho m2_229 dX12_remember_71 ?_
    obtain ⟨a21, ha21, hf⟩ := bnd hf
    replace ha21 := cha_some ha21
    obtain ⟨j22, hj22, hf⟩ := bnd hf
    refine hw_aald28 hx hb hKs hH ha21.1 ha21.2 hj22 dX12_remember_74 ?_
    refine hl_aload_n hx hb dX12_remember_75 rfl (lv_at hl 2 rfl) ?_
    refine g12_5 hx hb hts hown hKs hH rfl ho m2_224 dX12_remember_76 ?_
    obtain ⟨a23, ha23, hf⟩ := bnd hf
    replace ha23 := chk_some ha23
    obtain ⟨q24, hq24, hf⟩ := bnd hf
    refine hcV_v hx hb hml hown hts hKs hT hb0 hH (As := [rv E (wR w20 1205 o)]) (rest := []) (k_X10_copyFrom l E K H.size a23 (wR w20 1205 o) w20 ha23.2 hq24) (gV m4_87 m4_88 m4_89 m1_12 m4_90) hd_X10_copyFrom ⟨Nat.le_of_ble_eq_true rfl, Nat.le_of_ble_eq_true rfl, rfl, rfl⟩ ha23.1 ha23.2 rfl rfl rfl hl.1 rfl rc0 rfl dX12_remember_79 ⟨Nat.zero_le _, Nat.zero_le _⟩ (fun H locs hH => ?_)
    refine hl_aload_n hx hb dX12_remember_82 rfl (lv_at hl 2 rfl) ?_
    refine lv_dup hx hb dX12_remember_83 rv_cat ?_
    refine g12_10 hx hb hts hown hKs hH rfl ho m2_229 dX12_remember_84 ?_
    refine lv_iconst (v := 1) hx hb dX12_remember_87 (by decide) ?_
    refine lv_iadd hx hb dX12_remember_88 ?_
    obtain ⟨w25, hw25, hf⟩ := bnd hf
    replace hw25 := Option.some.inj hw25
    refine p12_10 (v := ((wI q24 1210 o) + 1)) hx hb hts hown hKs hH rfl ho m2_229 dX12_remember_89 (fun H locs hH => ?_)
    rw [hw25] at hH
    exact hw_vret hx hb hret hf hH hlocks dX12_remember_92

theorem dX12_lapsesIn_0 : decode cX12_lapsesIn 0 = .ok (.aload_n 0, 1) := by decide +kernel
theorem dX12_lapsesIn_1 : decode cX12_lapsesIn 1 = .ok (.iload_n 1, 1) := by decide +kernel
theorem dX12_lapsesIn_2 : decode cX12_lapsesIn 2 = .ok (.invokevirtual 322, 3) := by decide +kernel
theorem dX12_lapsesIn_5 : decode cX12_lapsesIn 5 = .ok (.aload_n 0, 1) := by decide +kernel
theorem dX12_lapsesIn_6 : decode cX12_lapsesIn 6 = .ok (.getfield 35, 3) := by decide +kernel
theorem dX12_lapsesIn_9 : decode cX12_lapsesIn 9 = .ok (.iconst 3, 1) := by decide +kernel
theorem dX12_lapsesIn_10 : decode cX12_lapsesIn 10 = .ok (.invokevirtual 130, 3) := by decide +kernel
theorem dX12_lapsesIn_13 : decode cX12_lapsesIn 13 = .ok (.istore_n 2, 1) := by decide +kernel
theorem dX12_lapsesIn_14 : decode cX12_lapsesIn 14 = .ok (.aload_n 0, 1) := by decide +kernel
theorem dX12_lapsesIn_15 : decode cX12_lapsesIn 15 = .ok (.getfield 42, 3) := by decide +kernel
theorem dX12_lapsesIn_18 : decode cX12_lapsesIn 18 = .ok (.aload_n 0, 1) := by decide +kernel
theorem dX12_lapsesIn_19 : decode cX12_lapsesIn 19 = .ok (.getfield 35, 3) := by decide +kernel
theorem dX12_lapsesIn_22 : decode cX12_lapsesIn 22 = .ok (.invokevirtual 362, 3) := by decide +kernel
theorem dX12_lapsesIn_25 : decode cX12_lapsesIn 25 = .ok (.aload_n 0, 1) := by decide +kernel
theorem dX12_lapsesIn_26 : decode cX12_lapsesIn 26 = .ok (.getfield 42, 3) := by decide +kernel
theorem dX12_lapsesIn_29 : decode cX12_lapsesIn 29 = .ok (.iload_n 1, 1) := by decide +kernel
theorem dX12_lapsesIn_30 : decode cX12_lapsesIn 30 = .ok (.invokevirtual 328, 3) := by decide +kernel
theorem dX12_lapsesIn_33 : decode cX12_lapsesIn 33 = .ok (.pop, 1) := by decide +kernel
theorem dX12_lapsesIn_34 : decode cX12_lapsesIn 34 = .ok (.aload_n 0, 1) := by decide +kernel
theorem dX12_lapsesIn_35 : decode cX12_lapsesIn 35 = .ok (.getfield 42, 3) := by decide +kernel
theorem dX12_lapsesIn_38 : decode cX12_lapsesIn 38 = .ok (.iconst 3, 1) := by decide +kernel
theorem dX12_lapsesIn_39 : decode cX12_lapsesIn 39 = .ok (.invokevirtual 130, 3) := by decide +kernel
theorem dX12_lapsesIn_42 : decode cX12_lapsesIn 42 = .ok (.iload_n 2, 1) := by decide +kernel
theorem dX12_lapsesIn_43 : decode cX12_lapsesIn 43 = .ok (.isub, 1) := by decide +kernel
theorem dX12_lapsesIn_44 : decode cX12_lapsesIn 44 = .ok (.ireturn, 1) := by decide +kernel
theorem hd_X12_lapsesIn : yX12_lapsesIn.cls = RX12 ∧ yX12_lapsesIn.cls ≠ "java/lang/invoke/MethodHandle" ∧ yX12_lapsesIn.cls ≠ "java/lang/invoke/VarHandle" ∧ (parseMethodDescriptor yX12_lapsesIn.desc).map (fun d => d.parameters.length) = some 1 := by decide +kernel
theorem hs_X12_lapsesIn : yX12_lapsesIn.cls ≠ "java/lang/invoke/MethodHandle" ∧ yX12_lapsesIn.cls ≠ "java/lang/invoke/VarHandle" ∧ (parseMethodDescriptor yX12_lapsesIn.desc).map (fun d => d.parameters.length) = some 1 := by decide +kernel
set_option maxHeartbeats 4000000 in
set_option maxRecDepth 100000 in
theorem k_X12_lapsesIn (l : Launch) (hls : l.stackTraces = false) (E : Ev) (K : Kd) (z : Nat) (o : Nat) (a_1 : Int32) (w : Wd) (ho : K o = some (10, 0)) {r : Int32 ⊕ Nat} {w' : Wd} (hf : f_X12_lapsesIn K o a_1 w = some (r, w')) : vx_Met l yX12_lapsesIn (Cond.code yX12_lapsesIn cX12_lapsesIn 3 (Option.some Jvm.ClassFile.FieldType.int) :: bt) ({ frames := 7, cells := 1, slots := 6, locals := 111 } : Room) (va_Pc [rv E (some o), .int a_1] (HB E K w z)) (XI E K z w' r) (XX E K w' r) 1 6 (hA E) := by
  refine vx_ofW (cc := cX12_lapsesIn) (maxL := 3) (ret := (Option.some Jvm.ClassFile.FieldType.int)) (by decide) rfl ?_
  intro p e s m args below meth c s₁ B hml hout hv
  obtain ⟨rfl, hz, hP, hKs, hT, hb0⟩ := hv
  have C : CX p l e s m _ meth c cX12_lapsesIn 3 RX12 (Option.some Jvm.ClassFile.FieldType.int) E := ⟨B.exec, B.bytes, hml, findClass_of_methodNamed B.named, fun w h => atoms_spec (ws := Cond.code yX12_lapsesIn cX12_lapsesIn 3 (Option.some Jvm.ClassFile.FieldType.int) :: bt) B.pre w (List.mem_cons_of_mem _ h), hKs, hT, by rw [hz]; exact hb0, B.notSynchronized, B.returns⟩
  have hH : HQ E K z w s s.heap [] := ⟨hP, va_S.rf, hz⟩
  obtain ⟨hx, hb, hml, hown, hts, hKs, hT, hb0, hlocks, hret⟩ := id C
  have hl := lv_entry [rv E (some o), .int a_1] (n := 3) (by simp [lg_len_nil, lg_len_i, lg_len_j, lg_len_q])
  rw [lg_entry_eq]
  generalize (lg_sl [rv E (some o), .int a_1] ++ List.replicate (3 - (lg_sl [rv E (some o), .int a_1]).length) Slot.unset).toArray = ls at hl ⊢
  replace hl : lv_has ls 3 [(0, rv E (some o)), (1, .int a_1)] := by simpa only [lv_args, cat_q, cat_i, cat_j, reduceIte, Nat.reduceEqDiff, Nat.reduceAdd, Nat.zero_add] using hl
  generalize s.heap = H at hH ⊢
  unfold f_X12_lapsesIn at hf
  refine hl_aload_n hx hb dX12_lapsesIn_0 rfl (lv_at hl 0 rfl) ?_
  refine lv_iload_n hx hb dX12_lapsesIn_1 rfl (lv_at hl 1 rfl) ?_
  obtain ⟨q1, hq1, hf⟩ := bnd hf
  refine hxV_v hx hb hml hown hts hKs hT hb0 hH (As := [.int a_1]) (rest := []) (k_X12_requirePassable l hls E K H.size o a_1 w ho hq1) (gV m6_50 m6_52 ms_41 m1_1 m6_53) hd_X12_requirePassable ⟨Nat.le_of_ble_eq_true rfl, Nat.le_of_ble_eq_true rfl, rfl, rfl⟩ rfl ho rfl rfl rfl hl.1 rfl rc0 rfl dX12_lapsesIn_2 ⟨Nat.le_of_ble_eq_true rfl, Nat.le_of_ble_eq_true rfl⟩ ⟨Nat.le_of_ble_eq_true rfl, Nat.le_of_ble_eq_true rfl⟩ hout hlocks (fun x hx9 => (fun h9 => ⟨(congrArg Prod.fst h9).symm, (congrArg Prod.snd h9).symm⟩) (Option.some.inj ((xk_inr hx9).symm.trans hf))) (fun v2 hv2 H locs hH => ?_)
  replace hf := (xk_inl hv2).symm.trans hf
  refine hl_aload_n hx hb dX12_lapsesIn_5 rfl (lv_at hl 0 rfl) ?_
  refine g12_5 hx hb hts hown hKs hH rfl ho m2_224 dX12_lapsesIn_6 ?_
  refine lv_iconst (v := 3) hx hb dX12_lapsesIn_9 (by decide) ?_
  obtain ⟨a3, ha3, hf⟩ := bnd hf
  replace ha3 := chk_some ha3
  obtain ⟨q4, hq4, hf⟩ := bnd hf
  refine hcV_i hx hb hml hown hts hKs hT hb0 hH (As := [.int 3]) (rest := []) (k_X10_countPhase l E K H.size a3 3 q1.2 ha3.2 hq4) (gV m4_19 m4_20 m4_21 m1_12 m4_22) hd_X10_countPhase ⟨Nat.le_of_ble_eq_true rfl, Nat.le_of_ble_eq_true rfl, rfl, rfl⟩ ha3.1 ha3.2 rfl rfl rfl hl.1 rfl rc0 rfl dX12_lapsesIn_10 ⟨Nat.le_of_ble_eq_true rfl, Nat.le_of_ble_eq_true rfl⟩ (fun H locs hH => ?_)
  refine lv_istore_n (lv' := [(2, .int (q4.1)), (0, rv E (some o)), (1, .int a_1)]) hx hb dX12_lapsesIn_13 rfl hl (by decide) rfl (fun ls hl => ?_)
  refine hl_aload_n hx hb dX12_lapsesIn_14 rfl (lv_at hl 1 rfl) ?_
  refine g12_8 hx hb hts hown hKs hH rfl ho m2_227 dX12_lapsesIn_15 ?_
  refine hl_aload_n hx hb dX12_lapsesIn_18 rfl (lv_at hl 1 rfl) ?_
  refine g12_5 hx hb hts hown hKs hH rfl ho m2_224 dX12_lapsesIn_19 ?_
  obtain ⟨a5, ha5, hf⟩ := bnd hf
  replace ha5 := chk_some ha5
  obtain ⟨q6, hq6, hf⟩ := bnd hf
  refine hcV_v hx hb hml hown hts hKs hT hb0 hH (As := [rv E (wR q4.2 1205 o)]) (rest := []) (k_X10_copyFrom l E K H.size a5 (wR q4.2 1205 o) q4.2 ha5.2 hq6) (gV m4_87 m4_88 m4_89 m1_12 m4_90) hd_X10_copyFrom ⟨Nat.le_of_ble_eq_true rfl, Nat.le_of_ble_eq_true rfl, rfl, rfl⟩ ha5.1 ha5.2 rfl rfl rfl hl.1 rfl rc0 rfl dX12_lapsesIn_22 ⟨Nat.le_of_ble_eq_true rfl, Nat.le_of_ble_eq_true rfl⟩ (fun H locs hH => ?_)
  refine hl_aload_n hx hb dX12_lapsesIn_25 rfl (lv_at hl 1 rfl) ?_
  refine g12_8 hx hb hts hown hKs hH rfl ho m2_227 dX12_lapsesIn_26 ?_
  refine lv_iload_n hx hb dX12_lapsesIn_29 rfl (lv_at hl 2 rfl) ?_
  obtain ⟨a7, ha7, hf⟩ := bnd hf
  replace ha7 := chk_some ha7
  obtain ⟨q8, hq8, hf⟩ := bnd hf
  refine hcV_i hx hb hml hown hts hKs hT hb0 hH (As := [.int a_1]) (rest := []) (k_X10_passDays l E K H.size a7 a_1 q6 ha7.2 hq8) (gV m6_54 m6_55 m6_56 m1_12 m6_57) hd_X10_passDays ⟨Nat.le_of_ble_eq_true rfl, Nat.le_of_ble_eq_true rfl, rfl, rfl⟩ ha7.1 ha7.2 rfl rfl rfl hl.1 rfl rc0 rfl dX12_lapsesIn_30 ⟨Nat.le_of_ble_eq_true rfl, Nat.le_of_ble_eq_true rfl⟩ (fun H locs hH => ?_)
  refine lv_pop hx hb dX12_lapsesIn_33 rfl ?_
  refine hl_aload_n hx hb dX12_lapsesIn_34 rfl (lv_at hl 1 rfl) ?_
  refine g12_8 hx hb hts hown hKs hH rfl ho m2_227 dX12_lapsesIn_35 ?_
  refine lv_iconst (v := 3) hx hb dX12_lapsesIn_38 (by decide) ?_
  obtain ⟨a9, ha9, hf⟩ := bnd hf
  replace ha9 := chk_some ha9
  obtain ⟨q10, hq10, hf⟩ := bnd hf
  refine hcV_i hx hb hml hown hts hKs hT hb0 hH (As := [.int 3]) (rest := []) (k_X10_countPhase l E K H.size a9 3 q8.2 ha9.2 hq10) (gV m4_19 m4_20 m4_21 m1_12 m4_22) hd_X10_countPhase ⟨Nat.le_of_ble_eq_true rfl, Nat.le_of_ble_eq_true rfl, rfl, rfl⟩ ha9.1 ha9.2 rfl rfl rfl hl.1 rfl rc0 rfl dX12_lapsesIn_39 ⟨Nat.le_of_ble_eq_true rfl, Nat.le_of_ble_eq_true rfl⟩ (fun H locs hH => ?_)
  refine lv_iload_n hx hb dX12_lapsesIn_42 rfl (lv_at hl 0 rfl) ?_
  refine lv_isub hx hb dX12_lapsesIn_43 ?_
  exact hx_iret hx hb (Nat.le_of_ble_eq_true rfl) (Nat.le_of_ble_eq_true rfl) hret hf hH hlocks dX12_lapsesIn_44

theorem dX12_printName_0 : decode cX12_printName 0 = .ok (.aload_n 0, 1) := by decide +kernel
theorem dX12_printName_1 : decode cX12_printName 1 = .ok (.getfield 35, 3) := by decide +kernel
theorem dX12_printName_4 : decode cX12_printName 4 = .ok (.getfield 87, 3) := by decide +kernel
theorem dX12_printName_7 : decode cX12_printName 7 = .ok (.getfield 140, 3) := by decide +kernel
theorem dX12_printName_10 : decode cX12_printName 10 = .ok (.iload_n 1, 1) := by decide +kernel
theorem dX12_printName_11 : decode cX12_printName 11 = .ok (.aaload, 1) := by decide +kernel
theorem dX12_printName_12 : decode cX12_printName 12 = .ok (.iload_n 2, 1) := by decide +kernel
theorem dX12_printName_13 : decode cX12_printName 13 = .ok (.invokevirtual 382, 3) := by decide +kernel
theorem dX12_printName_16 : decode cX12_printName 16 = .ok (.lstore_n 3, 1) := by decide +kernel
theorem dX12_printName_17 : decode cX12_printName 17 = .ok (.bipush 56, 2) := by decide +kernel
theorem dX12_printName_19 : decode cX12_printName 19 = .ok (.istore 5, 2) := by decide +kernel
theorem dX12_printName_21 : decode cX12_printName 21 = .ok (.iload 5, 2) := by decide +kernel
theorem dX12_printName_23 : decode cX12_printName 23 = .ok (.ifCond .lt 28, 3) := by decide +kernel
theorem dX12_printName_26 : decode cX12_printName 26 = .ok (.lload_n 3, 1) := by decide +kernel
theorem dX12_printName_27 : decode cX12_printName 27 = .ok (.iload 5, 2) := by decide +kernel
theorem dX12_printName_29 : decode cX12_printName 29 = .ok (.lushr, 1) := by decide +kernel
theorem dX12_printName_30 : decode cX12_printName 30 = .ok (.l2i, 1) := by decide +kernel
theorem dX12_printName_31 : decode cX12_printName 31 = .ok (.i2b, 1) := by decide +kernel
theorem dX12_printName_32 : decode cX12_printName 32 = .ok (.istore 6, 2) := by decide +kernel
theorem dX12_printName_34 : decode cX12_printName 34 = .ok (.iload 6, 2) := by decide +kernel
theorem dX12_printName_36 : decode cX12_printName 36 = .ok (.ifCond .eq 9, 3) := by decide +kernel
theorem dX12_printName_39 : decode cX12_printName 39 = .ok (.aload_n 0, 1) := by decide +kernel
theorem dX12_printName_40 : decode cX12_printName 40 = .ok (.iload 6, 2) := by decide +kernel
theorem dX12_printName_42 : decode cX12_printName 42 = .ok (.invokevirtual 375, 3) := by decide +kernel
theorem dX12_printName_45 : decode cX12_printName 45 = .ok (.iinc 5 (-8), 3) := by decide +kernel
theorem dX12_printName_48 : decode cX12_printName 48 = .ok (.goto (-27), 3) := by decide +kernel
theorem dX12_printName_51 : decode cX12_printName 51 = .ok (.return_, 1) := by decide +kernel
theorem hd_X12_printName : yX12_printName.cls = RX12 ∧ yX12_printName.cls ≠ "java/lang/invoke/MethodHandle" ∧ yX12_printName.cls ≠ "java/lang/invoke/VarHandle" ∧ (parseMethodDescriptor yX12_printName.desc).map (fun d => d.parameters.length) = some 2 := by decide +kernel
theorem hs_X12_printName : yX12_printName.cls ≠ "java/lang/invoke/MethodHandle" ∧ yX12_printName.cls ≠ "java/lang/invoke/VarHandle" ∧ (parseMethodDescriptor yX12_printName.desc).map (fun d => d.parameters.length) = some 2 := by decide +kernel
set_option maxHeartbeats 4000000 in
set_option maxRecDepth 100000 in
theorem l_X12_printName_L21 (C : CX p l e s m args meth c cX12_printName 7 RX12 (Option.none : Option Jvm.ClassFile.FieldType) E) {o : Nat} (ho : K o = some (10, 0)) {w' : Wd} (k : Int32 → Int32 → Int64 → Int32 → Wd → Option Wd) (hk : ∀ (v1_21 : Int32) (v2_21 : Int32) (v3_21 : Int64) (v5_21 : Int32) (w : Wd) (H : Heap) (locs : List Loc) (ls : Array Slot), HQ E K z w s H locs → lv_has ls 7 [(1, .int v1_21), (2, .int v2_21), (3, .long v3_21), (5, .int v5_21), (0, rv E (some o))] → k v1_21 v2_21 v3_21 v5_21 w = some w' → W p l e ({ frames := 1, cells := 0, slots := 0, locals := 21 } : Room) s m args below meth c H locs 0 0 (MQ below (QV E K z w') args s 0 0 (hA E)) (F0 m 51 ls [])) : ∀ (n : Nat) (v1_21 : Int32) (v2_21 : Int32) (v3_21 : Int64) (v5_21 : Int32) (w : Wd) (H : Heap) (locs : List Loc) (ls : Array Slot), HQ E K z w s H locs → lv_has ls 7 [(1, .int v1_21), (2, .int v2_21), (3, .long v3_21), (5, .int v5_21), (0, rv E (some o))] → f_X12_printName_L21 K o k n v1_21 v2_21 v3_21 v5_21 w = some w' → W p l e ({ frames := 1, cells := 0, slots := 0, locals := 21 } : Room) s m args below meth c H locs 0 0 (MQ below (QV E K z w') args s 0 0 (hA E)) (F0 m 21 ls []) := by
  obtain ⟨hx, hb, hml, hown, hts, hKs, hT, hb0, hlocks, hret⟩ := id C
  intro n
  induction n with
  | zero =>
    intro v1_21 v2_21 v3_21 v5_21 w H locs ls hH hl hf
    cases hf
  | succ n ih =>
    intro v1_21 v2_21 v3_21 v5_21 w H locs ls hH hl hf
    rw [f_X12_printName_L21] at hf
    refine lv_iload hx hb dX12_printName_21 (lv_at hl 3 rfl) ?_
    refine lv_if_lt (tgt := 51) hx hb dX12_printName_23 (by decide) (fun c8 => ?_) (fun c8 => ?_)
    · replace hf := (if_pos c8).symm.trans hf
      exact hk v1_21 v2_21 v3_21 v5_21 _ _ _ _ hH (lv_sub hl [0, 1, 2, 3, 4] rfl) hf
    · replace hf := (if_neg c8).symm.trans hf
      refine lv_lload_n hx hb dX12_printName_26 rfl (lv_at hl 2 rfl) ?_
      refine lv_iload hx hb dX12_printName_27 (lv_at hl 3 rfl) ?_
      refine lv_lushr (v := (lsr v3_21 v5_21)) hx hb dX12_printName_29 rfl ?_
      refine lv_l2i (v := ((lsr v3_21 v5_21).toInt32)) hx hb dX12_printName_30 rfl ?_
      refine lv_i2b (v := (((lsr v3_21 v5_21).toInt32).toInt8.toInt32)) hx hb dX12_printName_31 rfl ?_
      refine lv_istore (lv' := [(6, .int ((((lsr v3_21 v5_21).toInt32).toInt8.toInt32))), (1, .int v1_21), (2, .int v2_21), (3, .long v3_21), (5, .int v5_21), (0, rv E (some o))]) hx hb dX12_printName_32 hl (by decide) rfl (fun ls hl => ?_)
      refine lv_iload hx hb dX12_printName_34 (lv_at hl 0 rfl) ?_
      refine lv_if_eq (tgt := 45) hx hb dX12_printName_36 (by decide) (fun c9 => ?_) (fun c9 => ?_)
      · replace hf := (if_pos c9).symm.trans hf
        refine lv_iinc (v := (v5_21 + (-8))) (lv' := [(5, .int ((v5_21 + (-8)))), (6, .int ((((lsr v3_21 v5_21).toInt32).toInt8.toInt32))), (1, .int v1_21), (2, .int v2_21), (3, .long v3_21), (0, rv E (some o))]) hx hb dX12_printName_45 hl (k := 4) rfl rfl (by decide) rfl (fun ls hl => ?_)
        refine lv_goto (tgt := 21) hx hb dX12_printName_48 (by decide) ?_
        exact ih v1_21 v2_21 v3_21 (v5_21 + (-8)) _ _ _ _ hH (lv_sub hl [2, 3, 4, 0, 5] rfl) hf
      · replace hf := (if_neg c9).symm.trans hf
        refine hl_aload_n hx hb dX12_printName_39 rfl (lv_at hl 5 rfl) ?_
        refine lv_iload hx hb dX12_printName_40 (lv_at hl 0 rfl) ?_
        obtain ⟨q10, hq10, hf⟩ := bnd hf
        refine hcV_v hx hb hml hown hts hKs hT hb0 hH (As := [.int ((((lsr v3_21 v5_21).toInt32).toInt8.toInt32))]) (rest := []) (k_X12_print l E K H.size o (((lsr v3_21 v5_21).toInt32).toInt8.toInt32) w ho hq10) (gV m6_143 m6_145 ms_44 m1_1 m6_146) hd_X12_print ⟨Nat.le_of_ble_eq_true rfl, Nat.le_of_ble_eq_true rfl, rfl, rfl⟩ rfl ho rfl rfl rfl hl.1 rfl rc0 rfl dX12_printName_42 ⟨Nat.zero_le _, Nat.zero_le _⟩ (fun H locs hH => ?_)
        refine lv_iinc (v := (v5_21 + (-8))) (lv' := [(5, .int ((v5_21 + (-8)))), (6, .int ((((lsr v3_21 v5_21).toInt32).toInt8.toInt32))), (1, .int v1_21), (2, .int v2_21), (3, .long v3_21), (0, rv E (some o))]) hx hb dX12_printName_45 hl (k := 4) rfl rfl (by decide) rfl (fun ls hl => ?_)
        refine lv_goto (tgt := 21) hx hb dX12_printName_48 (by decide) ?_
        exact ih v1_21 v2_21 v3_21 (v5_21 + (-8)) _ _ _ _ hH (lv_sub hl [2, 3, 4, 0, 5] rfl) hf
set_option maxHeartbeats 4000000 in
set_option maxRecDepth 100000 in
theorem k_X12_printName (l : Launch) (E : Ev) (K : Kd) (z : Nat) (o : Nat) (a_1 : Int32) (a_2 : Int32) (w : Wd) (ho : K o = some (10, 0)) {w' : Wd} (hf : f_X12_printName K o a_1 a_2 w = some w') : Met l yX12_printName (Cond.code yX12_printName cX12_printName 7 (Option.none : Option Jvm.ClassFile.FieldType) :: bt) ({ frames := 1, cells := 0, slots := 0, locals := 21 } : Room) (va_Pc [rv E (some o), .int a_1, .int a_2] (HB E K w z)) (QV E K z w') 0 0 (hA E) := by
  refine Met.ofW (cc := cX12_printName) (maxL := 7) (ret := (Option.none : Option Jvm.ClassFile.FieldType)) (by decide) rfl ?_
  intro p e s m args below meth c s₁ B hml hv
  obtain ⟨rfl, hz, hP, hKs, hT, hb0⟩ := hv
  have C : CX p l e s m _ meth c cX12_printName 7 RX12 (Option.none : Option Jvm.ClassFile.FieldType) E := ⟨B.exec, B.bytes, hml, findClass_of_methodNamed B.named, fun w h => atoms_spec (ws := Cond.code yX12_printName cX12_printName 7 (Option.none : Option Jvm.ClassFile.FieldType) :: bt) B.pre w (List.mem_cons_of_mem _ h), hKs, hT, by rw [hz]; exact hb0, B.notSynchronized, B.returns⟩
  have hH : HQ E K z w s s.heap [] := ⟨hP, va_S.rf, hz⟩
  obtain ⟨hx, hb, hml, hown, hts, hKs, hT, hb0, hlocks, hret⟩ := id C
  have hl := lv_entry [rv E (some o), .int a_1, .int a_2] (n := 7) (by simp [lg_len_nil, lg_len_i, lg_len_j, lg_len_q])
  rw [lg_entry_eq]
  generalize (lg_sl [rv E (some o), .int a_1, .int a_2] ++ List.replicate (7 - (lg_sl [rv E (some o), .int a_1, .int a_2]).length) Slot.unset).toArray = ls at hl ⊢
  replace hl : lv_has ls 7 [(0, rv E (some o)), (1, .int a_1), (2, .int a_2)] := by simpa only [lv_args, cat_q, cat_i, cat_j, reduceIte, Nat.reduceEqDiff, Nat.reduceAdd, Nat.zero_add] using hl
  generalize s.heap = H at hH ⊢
  unfold f_X12_printName at hf
  refine hl_aload_n hx hb dX12_printName_0 rfl (lv_at hl 0 rfl) ?_
  refine g12_5 hx hb hts hown hKs hH rfl ho m2_224 dX12_printName_1 ?_
  obtain ⟨a1, ha1, hf⟩ := bnd hf
  replace ha1 := chk_some ha1
  refine gn10_0 hx hb hts hown hKs hH ha1.1 ha1.2 m2_122 dX12_printName_4 ?_
  obtain ⟨a2, ha2, hf⟩ := bnd hf
  replace ha2 := chk_some ha2
  refine gn9_0 hx hb hts hown hKs hH ha2.1 ha2.2 m1_151 dX12_printName_7 ?_
  refine lv_iload_n hx hb dX12_printName_10 rfl (lv_at hl 1 rfl) ?_
  obtain ⟨a3, ha3, hf⟩ := bnd hf
  replace ha3 := cha_some ha3
  obtain ⟨j4, hj4, hf⟩ := bnd hf
  refine hw_aald26 hx hb hKs hH ha3.1 ha3.2 hj4 dX12_printName_11 ?_
  refine lv_iload_n hx hb dX12_printName_12 rfl (lv_at hl 2 rfl) ?_
  obtain ⟨a5, ha5, hf⟩ := bnd hf
  replace ha5 := chk_some ha5
  obtain ⟨q6, hq6, hf⟩ := bnd hf
  refine hcV_l hx hb hml hown hts hKs hT hb0 hH (As := [.int a_2]) (rest := []) (k_X4_at l E K H.size a5 a_2 w ha5.2 hq6) (gV m6_151 m6_152 m6_153 m1_4 m6_154) hd_X4_at ⟨Nat.le_of_ble_eq_true rfl, Nat.le_of_ble_eq_true rfl, rfl, rfl⟩ ha5.1 ha5.2 rfl rfl rfl hl.1 rfl rc0 rfl dX12_printName_13 ⟨Nat.zero_le _, Nat.zero_le _⟩ (fun H locs hH => ?_)
  refine lv_lstore_n (lv' := [(3, .long q6.1), (0, rv E (some o)), (1, .int a_1), (2, .int a_2)]) hx hb dX12_printName_16 rfl hl (by decide) rfl (fun ls hl => ?_)
  refine lv_bipush (v := 56) hx hb dX12_printName_17 (by decide) ?_
  refine lv_istore (lv' := [(5, .int 56), (3, .long q6.1), (0, rv E (some o)), (1, .int a_1), (2, .int a_2)]) hx hb dX12_printName_19 hl (by decide) rfl (fun ls hl => ?_)
  refine l_X12_printName_L21  C ho _ (fun v1_21 v2_21 v3_21 v5_21 w7 H locs ls hH hl hf => ?_) fu a_1 a_2 q6.1 56 q6.2 _ _ _ hH (lv_sub hl [3, 4, 1, 0, 2] rfl) hf
  exact hw_vret hx hb hret hf hH hlocks dX12_printName_51

theorem dX12_saveState_0 : decode cX12_saveState 0 = .ok (.aload_n 0, 1) := by decide +kernel
theorem dX12_saveState_1 : decode cX12_saveState 1 = .ok (.getfield 39, 3) := by decide +kernel
theorem dX12_saveState_4 : decode cX12_saveState 4 = .ok (.aload_n 0, 1) := by decide +kernel
theorem dX12_saveState_5 : decode cX12_saveState 5 = .ok (.getfield 35, 3) := by decide +kernel
theorem dX12_saveState_8 : decode cX12_saveState 8 = .ok (.invokevirtual 362, 3) := by decide +kernel
theorem dX12_saveState_11 : decode cX12_saveState 11 = .ok (.aload_n 0, 1) := by decide +kernel
theorem dX12_saveState_12 : decode cX12_saveState 12 = .ok (.iconst 1, 1) := by decide +kernel
theorem dX12_saveState_13 : decode cX12_saveState 13 = .ok (.putfield 98, 3) := by decide +kernel
theorem dX12_saveState_16 : decode cX12_saveState 16 = .ok (.aload_n 0, 1) := by decide +kernel
theorem dX12_saveState_17 : decode cX12_saveState 17 = .ok (.getfield 35, 3) := by decide +kernel
theorem dX12_saveState_20 : decode cX12_saveState 20 = .ok (.getfield 124, 3) := by decide +kernel
theorem dX12_saveState_23 : decode cX12_saveState 23 = .ok (.ireturn, 1) := by decide +kernel
theorem hd_X12_saveState : yX12_saveState.cls = RX12 ∧ yX12_saveState.cls ≠ "java/lang/invoke/MethodHandle" ∧ yX12_saveState.cls ≠ "java/lang/invoke/VarHandle" ∧ (parseMethodDescriptor yX12_saveState.desc).map (fun d => d.parameters.length) = some 0 := by decide +kernel
theorem hs_X12_saveState : yX12_saveState.cls ≠ "java/lang/invoke/MethodHandle" ∧ yX12_saveState.cls ≠ "java/lang/invoke/VarHandle" ∧ (parseMethodDescriptor yX12_saveState.desc).map (fun d => d.parameters.length) = some 0 := by decide +kernel
set_option maxHeartbeats 4000000 in
set_option maxRecDepth 100000 in
theorem k_X12_saveState (l : Launch) (E : Ev) (K : Kd) (z : Nat) (o : Nat) (w : Wd) (ho : K o = some (10, 0)) {r : Int32} {w' : Wd} (hf : f_X12_saveState K o w = some (r, w')) : Met l yX12_saveState (Cond.code yX12_saveState cX12_saveState 1 (Option.some Jvm.ClassFile.FieldType.int) :: bt) ({ frames := 3, cells := 0, slots := 0, locals := 103 } : Room) (va_Pc [rv E (some o)] (HB E K w z)) (QI E K z w' r) 0 0 (hA E) := by
  refine Met.ofW (cc := cX12_saveState) (maxL := 1) (ret := (Option.some Jvm.ClassFile.FieldType.int)) (by decide) rfl ?_
  intro p e s m args below meth c s₁ B hml hv
  obtain ⟨rfl, hz, hP, hKs, hT, hb0⟩ := hv
  have C : CX p l e s m _ meth c cX12_saveState 1 RX12 (Option.some Jvm.ClassFile.FieldType.int) E := ⟨B.exec, B.bytes, hml, findClass_of_methodNamed B.named, fun w h => atoms_spec (ws := Cond.code yX12_saveState cX12_saveState 1 (Option.some Jvm.ClassFile.FieldType.int) :: bt) B.pre w (List.mem_cons_of_mem _ h), hKs, hT, by rw [hz]; exact hb0, B.notSynchronized, B.returns⟩
  have hH : HQ E K z w s s.heap [] := ⟨hP, va_S.rf, hz⟩
  obtain ⟨hx, hb, hml, hown, hts, hKs, hT, hb0, hlocks, hret⟩ := id C
  have hl := lv_entry [rv E (some o)] (n := 1) (by simp [lg_len_nil, lg_len_i, lg_len_j, lg_len_q])
  rw [lg_entry_eq]
  generalize (lg_sl [rv E (some o)] ++ List.replicate (1 - (lg_sl [rv E (some o)]).length) Slot.unset).toArray = ls at hl ⊢
  replace hl : lv_has ls 1 [(0, rv E (some o))] := by simpa only [lv_args, cat_q, cat_i, cat_j, reduceIte, Nat.reduceEqDiff, Nat.reduceAdd, Nat.zero_add] using hl
  generalize s.heap = H at hH ⊢
  unfold f_X12_saveState at hf
  refine hl_aload_n hx hb dX12_saveState_0 rfl (lv_at hl 0 rfl) ?_
  refine g12_6 hx hb hts hown hKs hH rfl ho m2_225 dX12_saveState_1 ?_
  refine hl_aload_n hx hb dX12_saveState_4 rfl (lv_at hl 0 rfl) ?_
  refine g12_5 hx hb hts hown hKs hH rfl ho m2_224 dX12_saveState_5 ?_
  obtain ⟨a1, ha1, hf⟩ := bnd hf
  replace ha1 := chk_some ha1
  obtain ⟨q2, hq2, hf⟩ := bnd hf
  refine hcV_v hx hb hml hown hts hKs hT hb0 hH (As := [rv E (wR w 1205 o)]) (rest := []) (k_X10_copyFrom l E K H.size a1 (wR w 1205 o) w ha1.2 hq2) (gV m4_87 m4_88 m4_89 m1_12 m4_90) hd_X10_copyFrom ⟨Nat.le_of_ble_eq_true rfl, Nat.le_of_ble_eq_true rfl, rfl, rfl⟩ ha1.1 ha1.2 rfl rfl rfl hl.1 rfl rc0 rfl dX12_saveState_8 ⟨Nat.zero_le _, Nat.zero_le _⟩ (fun H locs hH => ?_)
  refine hl_aload_n hx hb dX12_saveState_11 rfl (lv_at hl 0 rfl) ?_
  refine lv_iconst (v := 1) hx hb dX12_saveState_12 (by decide) ?_
  obtain ⟨w3, hw3, hf⟩ := bnd hf
  replace hw3 := Option.some.inj hw3
  refine p12_7 (v := true) hx hb hts hown hKs hH rfl ho m2_226 dX12_saveState_13 (fun H locs hH => ?_)
  rw [hw3] at hH
  refine hl_aload_n hx hb dX12_saveState_16 rfl (lv_at hl 0 rfl) ?_
  refine g12_5 hx hb hts hown hKs hH rfl ho m2_224 dX12_saveState_17 ?_
  obtain ⟨a4, ha4, hf⟩ := bnd hf
  replace ha4 := chk_some ha4
  refine gn10_1 hx hb hts hown hKs hH ha4.1 ha4.2 m2_125 dX12_saveState_20 ?_
  exact hw_iret hx hb hret hf hH hlocks dX12_saveState_23

theorem dX12_restoreState_0 : decode cX12_restoreState 0 = .ok (.aload_n 0, 1) := by decide +kernel
theorem dX12_restoreState_1 : decode cX12_restoreState 1 = .ok (.getfield 98, 3) := by decide +kernel
theorem dX12_restoreState_4 : decode cX12_restoreState 4 = .ok (.ifCond .ne 11, 3) := by decide +kernel
theorem dX12_restoreState_7 : decode cX12_restoreState 7 = .ok (.new 331, 3) := by decide +kernel
theorem dX12_restoreState_10 : decode cX12_restoreState 10 = .ok (.dup, 1) := by decide +kernel
theorem dX12_restoreState_11 : decode cX12_restoreState 11 = .ok (.invokespecial 333, 3) := by decide +kernel
theorem dX12_restoreState_14 : decode cX12_restoreState 14 = .ok (.athrow, 1) := by decide +kernel
theorem dX12_restoreState_15 : decode cX12_restoreState 15 = .ok (.aload_n 0, 1) := by decide +kernel
theorem dX12_restoreState_16 : decode cX12_restoreState 16 = .ok (.getfield 35, 3) := by decide +kernel
theorem dX12_restoreState_19 : decode cX12_restoreState 19 = .ok (.aload_n 0, 1) := by decide +kernel
theorem dX12_restoreState_20 : decode cX12_restoreState 20 = .ok (.getfield 39, 3) := by decide +kernel
theorem dX12_restoreState_23 : decode cX12_restoreState 23 = .ok (.invokevirtual 362, 3) := by decide +kernel
theorem dX12_restoreState_26 : decode cX12_restoreState 26 = .ok (.aload_n 0, 1) := by decide +kernel
theorem dX12_restoreState_27 : decode cX12_restoreState 27 = .ok (.iconst 0, 1) := by decide +kernel
theorem dX12_restoreState_28 : decode cX12_restoreState 28 = .ok (.putfield 102, 3) := by decide +kernel
theorem dX12_restoreState_31 : decode cX12_restoreState 31 = .ok (.aload_n 0, 1) := by decide +kernel
theorem dX12_restoreState_32 : decode cX12_restoreState 32 = .ok (.getfield 35, 3) := by decide +kernel
theorem dX12_restoreState_35 : decode cX12_restoreState 35 = .ok (.getfield 124, 3) := by decide +kernel
theorem dX12_restoreState_38 : decode cX12_restoreState 38 = .ok (.ireturn, 1) := by decide +kernel
theorem hd_X12_restoreState : yX12_restoreState.cls = RX12 ∧ yX12_restoreState.cls ≠ "java/lang/invoke/MethodHandle" ∧ yX12_restoreState.cls ≠ "java/lang/invoke/VarHandle" ∧ (parseMethodDescriptor yX12_restoreState.desc).map (fun d => d.parameters.length) = some 0 := by decide +kernel
theorem hs_X12_restoreState : yX12_restoreState.cls ≠ "java/lang/invoke/MethodHandle" ∧ yX12_restoreState.cls ≠ "java/lang/invoke/VarHandle" ∧ (parseMethodDescriptor yX12_restoreState.desc).map (fun d => d.parameters.length) = some 0 := by decide +kernel
set_option maxHeartbeats 4000000 in
set_option maxRecDepth 100000 in
theorem k_X12_restoreState (l : Launch) (hls : l.stackTraces = false) (E : Ev) (K : Kd) (z : Nat) (o : Nat) (w : Wd) (ho : K o = some (10, 0)) {r : Int32 ⊕ Nat} {w' : Wd} (hf : f_X12_restoreState K o w = some (r, w')) : vx_Met l yX12_restoreState (Cond.code yX12_restoreState cX12_restoreState 1 (Option.some Jvm.ClassFile.FieldType.int) :: bt) ({ frames := 6, cells := 1, slots := 6, locals := 103 } : Room) (va_Pc [rv E (some o)] (HB E K w z)) (XI E K z w' r) (XX E K w' r) 1 6 (hA E) := by
  refine vx_ofW (cc := cX12_restoreState) (maxL := 1) (ret := (Option.some Jvm.ClassFile.FieldType.int)) (by decide) rfl ?_
  intro p e s m args below meth c s₁ B hml hout hv
  obtain ⟨rfl, hz, hP, hKs, hT, hb0⟩ := hv
  have C : CX p l e s m _ meth c cX12_restoreState 1 RX12 (Option.some Jvm.ClassFile.FieldType.int) E := ⟨B.exec, B.bytes, hml, findClass_of_methodNamed B.named, fun w h => atoms_spec (ws := Cond.code yX12_restoreState cX12_restoreState 1 (Option.some Jvm.ClassFile.FieldType.int) :: bt) B.pre w (List.mem_cons_of_mem _ h), hKs, hT, by rw [hz]; exact hb0, B.notSynchronized, B.returns⟩
  have hH : HQ E K z w s s.heap [] := ⟨hP, va_S.rf, hz⟩
  obtain ⟨hx, hb, hml, hown, hts, hKs, hT, hb0, hlocks, hret⟩ := id C
  have hl := lv_entry [rv E (some o)] (n := 1) (by simp [lg_len_nil, lg_len_i, lg_len_j, lg_len_q])
  rw [lg_entry_eq]
  generalize (lg_sl [rv E (some o)] ++ List.replicate (1 - (lg_sl [rv E (some o)]).length) Slot.unset).toArray = ls at hl ⊢
  replace hl : lv_has ls 1 [(0, rv E (some o))] := by simpa only [lv_args, cat_q, cat_i, cat_j, reduceIte, Nat.reduceEqDiff, Nat.reduceAdd, Nat.zero_add] using hl
  generalize s.heap = H at hH ⊢
  unfold f_X12_restoreState at hf
  refine hl_aload_n hx hb dX12_restoreState_0 rfl (lv_at hl 0 rfl) ?_
  refine g12_7 hx hb hts hown hKs hH rfl ho m2_226 dX12_restoreState_1 ?_
  refine lv_if_ne (tgt := 15) hx hb dX12_restoreState_4 (by decide) (fun c1 => ?_) (fun c1 => ?_)
  · replace hf := (if_neg c1).symm.trans hf
    refine hl_aload_n hx hb dX12_restoreState_15 rfl (lv_at hl 0 rfl) ?_
    refine g12_5 hx hb hts hown hKs hH rfl ho m2_224 dX12_restoreState_16 ?_
    refine hl_aload_n hx hb dX12_restoreState_19 rfl (lv_at hl 0 rfl) ?_
    refine g12_6 hx hb hts hown hKs hH rfl ho m2_225 dX12_restoreState_20 ?_
    obtain ⟨a2, ha2, hf⟩ := bnd hf
    replace ha2 := chk_some ha2
    obtain ⟨q3, hq3, hf⟩ := bnd hf
    refine hcV_v hx hb hml hown hts hKs hT hb0 hH (As := [rv E (wR w 1206 o)]) (rest := []) (k_X10_copyFrom l E K H.size a2 (wR w 1206 o) w ha2.2 hq3) (gV m4_87 m4_88 m4_89 m1_12 m4_90) hd_X10_copyFrom ⟨Nat.le_of_ble_eq_true rfl, Nat.le_of_ble_eq_true rfl, rfl, rfl⟩ ha2.1 ha2.2 rfl rfl rfl hl.1 rfl rc0 rfl dX12_restoreState_23 ⟨Nat.le_of_ble_eq_true rfl, Nat.le_of_ble_eq_true rfl⟩ (fun H locs hH => ?_)
    refine hl_aload_n hx hb dX12_restoreState_26 rfl (lv_at hl 0 rfl) ?_
    refine lv_iconst (v := 0) hx hb dX12_restoreState_27 (by decide) ?_
    obtain ⟨w4, hw4, hf⟩ := bnd hf
    replace hw4 := Option.some.inj hw4
    refine p12_10 (v := 0) hx hb hts hown hKs hH rfl ho m2_229 dX12_restoreState_28 (fun H locs hH => ?_)
    rw [hw4] at hH
    refine hl_aload_n hx hb dX12_restoreState_31 rfl (lv_at hl 0 rfl) ?_
    refine g12_5 hx hb hts hown hKs hH rfl ho m2_224 dX12_restoreState_32 ?_
    obtain ⟨a5, ha5, hf⟩ := bnd hf
    replace ha5 := chk_some ha5
    refine gn10_1 hx hb hts hown hKs hH ha5.1 ha5.2 m2_125 dX12_restoreState_35 ?_
    exact hx_iret hx hb (Nat.le_of_ble_eq_true rfl) (Nat.le_of_ble_eq_true rfl) hret hf hH hlocks dX12_restoreState_38
  · replace hf := (if_pos c1).symm.trans hf
    exact hx_throw hx hb hls (code := 3) hml hl.1 hown hts hKs hT hb0 hH (by decide) rfl m5_195 m1_29 hat_RX12_333 dX12_restoreState_7 dX12_restoreState_10 dX12_restoreState_11 dX12_restoreState_14 hout (Nat.le_of_ble_eq_true rfl) rc0 (Nat.le_of_ble_eq_true rfl) (Nat.le_of_ble_eq_true rfl) (Nat.le_of_ble_eq_true rfl) hlocks hf (Nat.le_of_ble_eq_true rfl) (Nat.le_of_ble_eq_true rfl)

theorem dX12_requireExisting_0 : decode cX12_requireExisting 0 = .ok (.iload_n 2, 1) := by decide +kernel
theorem dX12_requireExisting_1 : decode cX12_requireExisting 1 = .ok (.ifCond .lt 18, 3) := by decide +kernel
theorem dX12_requireExisting_4 : decode cX12_requireExisting 4 = .ok (.iload_n 2, 1) := by decide +kernel
theorem dX12_requireExisting_5 : decode cX12_requireExisting 5 = .ok (.aload_n 0, 1) := by decide +kernel
theorem dX12_requireExisting_6 : decode cX12_requireExisting 6 = .ok (.getfield 35, 3) := by decide +kernel
theorem dX12_requireExisting_9 : decode cX12_requireExisting 9 = .ok (.getfield 87, 3) := by decide +kernel
theorem dX12_requireExisting_12 : decode cX12_requireExisting 12 = .ok (.iload_n 1, 1) := by decide +kernel
theorem dX12_requireExisting_13 : decode cX12_requireExisting 13 = .ok (.invokevirtual 105, 3) := by decide +kernel
theorem dX12_requireExisting_16 : decode cX12_requireExisting 16 = .ok (.if_icmp .lt 11, 3) := by decide +kernel
theorem dX12_requireExisting_19 : decode cX12_requireExisting 19 = .ok (.new 193, 3) := by decide +kernel
theorem dX12_requireExisting_22 : decode cX12_requireExisting 22 = .ok (.dup, 1) := by decide +kernel
theorem dX12_requireExisting_23 : decode cX12_requireExisting 23 = .ok (.invokespecial 195, 3) := by decide +kernel
theorem dX12_requireExisting_26 : decode cX12_requireExisting 26 = .ok (.athrow, 1) := by decide +kernel
theorem dX12_requireExisting_27 : decode cX12_requireExisting 27 = .ok (.return_, 1) := by decide +kernel
theorem hd_X12_requireExisting : yX12_requireExisting.cls = RX12 ∧ yX12_requireExisting.cls ≠ "java/lang/invoke/MethodHandle" ∧ yX12_requireExisting.cls ≠ "java/lang/invoke/VarHandle" ∧ (parseMethodDescriptor yX12_requireExisting.desc).map (fun d => d.parameters.length) = some 2 := by decide +kernel
theorem hs_X12_requireExisting : yX12_requireExisting.cls ≠ "java/lang/invoke/MethodHandle" ∧ yX12_requireExisting.cls ≠ "java/lang/invoke/VarHandle" ∧ (parseMethodDescriptor yX12_requireExisting.desc).map (fun d => d.parameters.length) = some 2 := by decide +kernel
set_option maxHeartbeats 4000000 in
set_option maxRecDepth 100000 in
theorem k_X12_requireExisting (l : Launch) (hls : l.stackTraces = false) (E : Ev) (K : Kd) (z : Nat) (o : Nat) (a_1 : Int32) (a_2 : Int32) (w : Wd) (ho : K o = some (10, 0)) {r : Unit ⊕ Nat} {w' : Wd} (hf : f_X12_requireExisting K o a_1 a_2 w = some (r, w')) : vx_Met l yX12_requireExisting (Cond.code yX12_requireExisting cX12_requireExisting 3 (Option.none : Option Jvm.ClassFile.FieldType) :: bt) ({ frames := 6, cells := 1, slots := 6, locals := 90 } : Room) (va_Pc [rv E (some o), .int a_1, .int a_2] (HB E K w z)) (XV E K z w' r) (XX E K w' r) 1 6 (hA E) := by
  refine vx_ofW (cc := cX12_requireExisting) (maxL := 3) (ret := (Option.none : Option Jvm.ClassFile.FieldType)) (by decide) rfl ?_
  intro p e s m args below meth c s₁ B hml hout hv
  obtain ⟨rfl, hz, hP, hKs, hT, hb0⟩ := hv
  have C : CX p l e s m _ meth c cX12_requireExisting 3 RX12 (Option.none : Option Jvm.ClassFile.FieldType) E := ⟨B.exec, B.bytes, hml, findClass_of_methodNamed B.named, fun w h => atoms_spec (ws := Cond.code yX12_requireExisting cX12_requireExisting 3 (Option.none : Option Jvm.ClassFile.FieldType) :: bt) B.pre w (List.mem_cons_of_mem _ h), hKs, hT, by rw [hz]; exact hb0, B.notSynchronized, B.returns⟩
  have hH : HQ E K z w s s.heap [] := ⟨hP, va_S.rf, hz⟩
  obtain ⟨hx, hb, hml, hown, hts, hKs, hT, hb0, hlocks, hret⟩ := id C
  have hl := lv_entry [rv E (some o), .int a_1, .int a_2] (n := 3) (by simp [lg_len_nil, lg_len_i, lg_len_j, lg_len_q])
  rw [lg_entry_eq]
  generalize (lg_sl [rv E (some o), .int a_1, .int a_2] ++ List.replicate (3 - (lg_sl [rv E (some o), .int a_1, .int a_2]).length) Slot.unset).toArray = ls at hl ⊢
  replace hl : lv_has ls 3 [(0, rv E (some o)), (1, .int a_1), (2, .int a_2)] := by simpa only [lv_args, cat_q, cat_i, cat_j, reduceIte, Nat.reduceEqDiff, Nat.reduceAdd, Nat.zero_add] using hl
  generalize s.heap = H at hH ⊢
  unfold f_X12_requireExisting at hf
  refine lv_iload_n hx hb dX12_requireExisting_0 rfl (lv_at hl 2 rfl) ?_
  refine lv_if_lt (tgt := 19) hx hb dX12_requireExisting_1 (by decide) (fun c1 => ?_) (fun c1 => ?_)
  · replace hf := (if_pos c1).symm.trans hf
    exact hx_throw hx hb hls (code := 1) hml hl.1 hown hts hKs hT hb0 hH (by decide) rfl m5_95 m1_28 hat_RX12_195 dX12_requireExisting_19 dX12_requireExisting_22 dX12_requireExisting_23 dX12_requireExisting_26 hout (Nat.le_of_ble_eq_true rfl) rc0 (Nat.le_of_ble_eq_true rfl) (Nat.le_of_ble_eq_true rfl) (Nat.le_of_ble_eq_true rfl) hlocks hf (Nat.le_of_ble_eq_true rfl) (Nat.le_of_ble_eq_true rfl)
  · replace hf := (if_neg c1).symm.trans hf
    refine lv_iload_n hx hb dX12_requireExisting_4 rfl (lv_at hl 2 rfl) ?_
    refine hl_aload_n hx hb dX12_requireExisting_5 rfl (lv_at hl 0 rfl) ?_
    refine g12_5 hx hb hts hown hKs hH rfl ho m2_224 dX12_requireExisting_6 ?_
    obtain ⟨a2, ha2, hf⟩ := bnd hf
    replace ha2 := chk_some ha2
    refine gn10_0 hx hb hts hown hKs hH ha2.1 ha2.2 m2_122 dX12_requireExisting_9 ?_
    refine lv_iload_n hx hb dX12_requireExisting_12 rfl (lv_at hl 1 rfl) ?_
    obtain ⟨a3, ha3, hf⟩ := bnd hf
    replace ha3 := chk_some ha3
    obtain ⟨q4, hq4, hf⟩ := bnd hf
    refine hcV_i hx hb hml hown hts hKs hT hb0 hH (As := [.int a_1]) (rest := [.int a_2]) (k_X9_size l E K H.size a3 a_1 w ha3.2 hq4) (gV m3_229 m3_151 m3_152 m1_2 m3_153) hd_X9_size ⟨Nat.le_of_ble_eq_true rfl, Nat.le_of_ble_eq_true rfl, rfl, rfl⟩ ha3.1 ha3.2 rfl rfl rfl hl.1 rfl (rcI rc0) rfl dX12_requireExisting_13 ⟨Nat.le_of_ble_eq_true rfl, Nat.le_of_ble_eq_true rfl⟩ (fun H locs hH => ?_)
    refine lv_icmp_lt (tgt := 27) hx hb dX12_requireExisting_16 (by decide) (fun c5 => ?_) (fun c5 => ?_)
    · replace hf := (if_pos c5).symm.trans hf
      exact hx_vret hx hb (Nat.le_of_ble_eq_true rfl) (Nat.le_of_ble_eq_true rfl) hret hf hH hlocks dX12_requireExisting_27
    · replace hf := (if_neg c5).symm.trans hf
      exact hx_throw hx hb hls (code := 1) hml hl.1 hown hts hKs hT hb0 hH (by decide) rfl m5_95 m1_28 hat_RX12_195 dX12_requireExisting_19 dX12_requireExisting_22 dX12_requireExisting_23 dX12_requireExisting_26 hout (Nat.le_of_ble_eq_true rfl) rc0 (Nat.le_of_ble_eq_true rfl) (Nat.le_of_ble_eq_true rfl) (Nat.le_of_ble_eq_true rfl) hlocks hf (Nat.le_of_ble_eq_true rfl) (Nat.le_of_ble_eq_true rfl)

theorem dX12_requireHearing_0 : decode cX12_requireHearing 0 = .ok (.aload_n 0, 1) := by decide +kernel
theorem dX12_requireHearing_1 : decode cX12_requireHearing 1 = .ok (.iconst 3, 1) := by decide +kernel
theorem dX12_requireHearing_2 : decode cX12_requireHearing 2 = .ok (.iload_n 1, 1) := by decide +kernel
theorem dX12_requireHearing_3 : decode cX12_requireHearing 3 = .ok (.invokevirtual 175, 3) := by decide +kernel
theorem dX12_requireHearing_6 : decode cX12_requireHearing 6 = .ok (.aload_n 0, 1) := by decide +kernel
theorem dX12_requireHearing_7 : decode cX12_requireHearing 7 = .ok (.iconst 0, 1) := by decide +kernel
theorem dX12_requireHearing_8 : decode cX12_requireHearing 8 = .ok (.iload 4, 2) := by decide +kernel
theorem dX12_requireHearing_10 : decode cX12_requireHearing 10 = .ok (.invokevirtual 175, 3) := by decide +kernel
theorem dX12_requireHearing_13 : decode cX12_requireHearing 13 = .ok (.aload_n 0, 1) := by decide +kernel
theorem dX12_requireHearing_14 : decode cX12_requireHearing 14 = .ok (.iconst 1, 1) := by decide +kernel
theorem dX12_requireHearing_15 : decode cX12_requireHearing 15 = .ok (.iload 5, 2) := by decide +kernel
theorem dX12_requireHearing_17 : decode cX12_requireHearing 17 = .ok (.invokevirtual 175, 3) := by decide +kernel
theorem dX12_requireHearing_20 : decode cX12_requireHearing 20 = .ok (.aload_n 0, 1) := by decide +kernel
theorem dX12_requireHearing_21 : decode cX12_requireHearing 21 = .ok (.iload_n 2, 1) := by decide +kernel
theorem dX12_requireHearing_22 : decode cX12_requireHearing 22 = .ok (.invokevirtual 154, 3) := by decide +kernel
theorem dX12_requireHearing_25 : decode cX12_requireHearing 25 = .ok (.aload_n 0, 1) := by decide +kernel
theorem dX12_requireHearing_26 : decode cX12_requireHearing 26 = .ok (.iload_n 3, 1) := by decide +kernel
theorem dX12_requireHearing_27 : decode cX12_requireHearing 27 = .ok (.invokevirtual 269, 3) := by decide +kernel
theorem dX12_requireHearing_30 : decode cX12_requireHearing 30 = .ok (.return_, 1) := by decide +kernel
theorem hd_X12_requireHearing : yX12_requireHearing.cls = RX12 ∧ yX12_requireHearing.cls ≠ "java/lang/invoke/MethodHandle" ∧ yX12_requireHearing.cls ≠ "java/lang/invoke/VarHandle" ∧ (parseMethodDescriptor yX12_requireHearing.desc).map (fun d => d.parameters.length) = some 5 := by decide +kernel
theorem hs_X12_requireHearing : yX12_requireHearing.cls ≠ "java/lang/invoke/MethodHandle" ∧ yX12_requireHearing.cls ≠ "java/lang/invoke/VarHandle" ∧ (parseMethodDescriptor yX12_requireHearing.desc).map (fun d => d.parameters.length) = some 5 := by decide +kernel
set_option maxHeartbeats 4000000 in
set_option maxRecDepth 100000 in
theorem k_X12_requireHearing (l : Launch) (hls : l.stackTraces = false) (E : Ev) (K : Kd) (z : Nat) (o : Nat) (a_1 : Int32) (a_2 : Int32) (a_3 : Int32) (a_4 : Int32) (a_5 : Int32) (w : Wd) (ho : K o = some (10, 0)) {r : Unit ⊕ Nat} {w' : Wd} (hf : f_X12_requireHearing K o a_1 a_2 a_3 a_4 a_5 w = some (r, w')) : vx_Met l yX12_requireHearing (Cond.code yX12_requireHearing cX12_requireHearing 6 (Option.none : Option Jvm.ClassFile.FieldType) :: bt) ({ frames := 7, cells := 5, slots := 30, locals := 112 } : Room) (va_Pc [rv E (some o), .int a_1, .int a_2, .int a_3, .int a_4, .int a_5] (HB E K w z)) (XV E K z w' r) (XX E K w' r) 5 30 (hA E) := by
  refine vx_ofW (cc := cX12_requireHearing) (maxL := 6) (ret := (Option.none : Option Jvm.ClassFile.FieldType)) (by decide) rfl ?_
  intro p e s m args below meth c s₁ B hml hout hv
  obtain ⟨rfl, hz, hP, hKs, hT, hb0⟩ := hv
  have C : CX p l e s m _ meth c cX12_requireHearing 6 RX12 (Option.none : Option Jvm.ClassFile.FieldType) E := ⟨B.exec, B.bytes, hml, findClass_of_methodNamed B.named, fun w h => atoms_spec (ws := Cond.code yX12_requireHearing cX12_requireHearing 6 (Option.none : Option Jvm.ClassFile.FieldType) :: bt) B.pre w (List.mem_cons_of_mem _ h), hKs, hT, by rw [hz]; exact hb0, B.notSynchronized, B.returns⟩
  have hH : HQ E K z w s s.heap [] := ⟨hP, va_S.rf, hz⟩
  obtain ⟨hx, hb, hml, hown, hts, hKs, hT, hb0, hlocks, hret⟩ := id C
  have hl := lv_entry [rv E (some o), .int a_1, .int a_2, .int a_3, .int a_4, .int a_5] (n := 6) (by simp [lg_len_nil, lg_len_i, lg_len_j, lg_len_q])
  rw [lg_entry_eq]
  generalize (lg_sl [rv E (some o), .int a_1, .int a_2, .int a_3, .int a_4, .int a_5] ++ List.replicate (6 - (lg_sl [rv E (some o), .int a_1, .int a_2, .int a_3, .int a_4, .int a_5]).length) Slot.unset).toArray = ls at hl ⊢
  replace hl : lv_has ls 6 [(0, rv E (some o)), (1, .int a_1), (2, .int a_2), (3, .int a_3), (4, .int a_4), (5, .int a_5)] := by simpa only [lv_args, cat_q, cat_i, cat_j, reduceIte, Nat.reduceEqDiff, Nat.reduceAdd, Nat.zero_add] using hl
  generalize s.heap = H at hH ⊢
  unfold f_X12_requireHearing at hf
  refine hl_aload_n hx hb dX12_requireHearing_0 rfl (lv_at hl 0 rfl) ?_
  refine lv_iconst (v := 3) hx hb dX12_requireHearing_1 (by decide) ?_
  refine lv_iload_n hx hb dX12_requireHearing_2 rfl (lv_at hl 1 rfl) ?_
  obtain ⟨q1, hq1, hf⟩ := bnd hf
  refine hxV_v hx hb hml hown hts hKs hT hb0 hH (As := [.int 3, .int a_1]) (rest := []) (k_X12_requireExisting l hls E K H.size o 3 a_1 w ho hq1) (gV m5_91 m5_93 ms_37 m1_1 m5_94) hd_X12_requireExisting ⟨Nat.le_of_ble_eq_true rfl, Nat.le_of_ble_eq_true rfl, rfl, rfl⟩ rfl ho rfl rfl rfl hl.1 rfl rc0 rfl dX12_requireHearing_3 ⟨Nat.le_of_ble_eq_true rfl, Nat.le_of_ble_eq_true rfl⟩ ⟨Nat.le_of_ble_eq_true rfl, Nat.le_of_ble_eq_true rfl⟩ hout hlocks (fun x hx9 => (fun h9 => ⟨(congrArg Prod.fst h9).symm, (congrArg Prod.snd h9).symm⟩) (Option.some.inj ((xk_inr hx9).symm.trans hf))) (fun v2 hv2 H locs hH => ?_)
  replace hf := (xk_inl hv2).symm.trans hf
  refine hl_aload_n hx hb dX12_requireHearing_6 rfl (lv_at hl 0 rfl) ?_
  refine lv_iconst (v := 0) hx hb dX12_requireHearing_7 (by decide) ?_
  refine lv_iload hx hb dX12_requireHearing_8 (lv_at hl 4 rfl) ?_
  obtain ⟨q3, hq3, hf⟩ := bnd hf
  refine hxV_v hx hb hml hown hts hKs hT hb0 hH (As := [.int 0, .int a_4]) (rest := []) (k_X12_requireExisting l hls E K H.size o 0 a_4 q1.2 ho hq3) (gV m5_91 m5_93 ms_37 m1_1 m5_94) hd_X12_requireExisting ⟨Nat.le_of_ble_eq_true rfl, Nat.le_of_ble_eq_true rfl, rfl, rfl⟩ rfl ho rfl rfl rfl hl.1 rfl rc0 rfl dX12_requireHearing_10 ⟨Nat.le_of_ble_eq_true rfl, Nat.le_of_ble_eq_true rfl⟩ ⟨Nat.le_of_ble_eq_true rfl, Nat.le_of_ble_eq_true rfl⟩ hout hlocks (fun x hx9 => (fun h9 => ⟨(congrArg Prod.fst h9).symm, (congrArg Prod.snd h9).symm⟩) (Option.some.inj ((xk_inr hx9).symm.trans hf))) (fun v4 hv4 H locs hH => ?_)
  replace hf := (xk_inl hv4).symm.trans hf
  refine hl_aload_n hx hb dX12_requireHearing_13 rfl (lv_at hl 0 rfl) ?_
  refine lv_iconst (v := 1) hx hb dX12_requireHearing_14 (by decide) ?_
  refine lv_iload hx hb dX12_requireHearing_15 (lv_at hl 5 rfl) ?_
  obtain ⟨q5, hq5, hf⟩ := bnd hf
  refine hxV_v hx hb hml hown hts hKs hT hb0 hH (As := [.int 1, .int a_5]) (rest := []) (k_X12_requireExisting l hls E K H.size o 1 a_5 q3.2 ho hq5) (gV m5_91 m5_93 ms_37 m1_1 m5_94) hd_X12_requireExisting ⟨Nat.le_of_ble_eq_true rfl, Nat.le_of_ble_eq_true rfl, rfl, rfl⟩ rfl ho rfl rfl rfl hl.1 rfl rc0 rfl dX12_requireHearing_17 ⟨Nat.le_of_ble_eq_true rfl, Nat.le_of_ble_eq_true rfl⟩ ⟨Nat.le_of_ble_eq_true rfl, Nat.le_of_ble_eq_true rfl⟩ hout hlocks (fun x hx9 => (fun h9 => ⟨(congrArg Prod.fst h9).symm, (congrArg Prod.snd h9).symm⟩) (Option.some.inj ((xk_inr hx9).symm.trans hf))) (fun v6 hv6 H locs hH => ?_)
  replace hf := (xk_inl hv6).symm.trans hf
  refine hl_aload_n hx hb dX12_requireHearing_20 rfl (lv_at hl 0 rfl) ?_
  refine lv_iload_n hx hb dX12_requireHearing_21 rfl (lv_at hl 2 rfl) ?_
  obtain ⟨q7, hq7, hf⟩ := bnd hf
  refine hxV_v hx hb hml hown hts hKs hT hb0 hH (As := [.int a_2]) (rest := []) (k_X12_requireDay l hls E K H.size o a_2 q5.2 ho hq7) (gV m5_55 m5_57 ms_34 m1_1 m5_58) hd_X12_requireDay ⟨Nat.le_of_ble_eq_true rfl, Nat.le_of_ble_eq_true rfl, rfl, rfl⟩ rfl ho rfl rfl rfl hl.1 rfl rc0 rfl dX12_requireHearing_22 ⟨Nat.le_of_ble_eq_true rfl, Nat.le_of_ble_eq_true rfl⟩ ⟨Nat.le_of_ble_eq_true rfl, Nat.le_of_ble_eq_true rfl⟩ hout hlocks (fun x hx9 => (fun h9 => ⟨(congrArg Prod.fst h9).symm, (congrArg Prod.snd h9).symm⟩) (Option.some.inj ((xk_inr hx9).symm.trans hf))) (fun v8 hv8 H locs hH => ?_)
  replace hf := (xk_inl hv8).symm.trans hf
  refine hl_aload_n hx hb dX12_requireHearing_25 rfl (lv_at hl 0 rfl) ?_
  refine lv_iload_n hx hb dX12_requireHearing_26 rfl (lv_at hl 3 rfl) ?_
  obtain ⟨q9, hq9, hf⟩ := bnd hf
  refine hxV_v hx hb hml hown hts hKs hT hb0 hH (As := [.int a_3]) (rest := []) (k_X12_requireSlot l hls E K H.size o a_3 q7.2 ho hq9) (gV m5_169 m5_171 ms_38 m1_1 m5_172) hd_X12_requireSlot ⟨Nat.le_of_ble_eq_true rfl, Nat.le_of_ble_eq_true rfl, rfl, rfl⟩ rfl ho rfl rfl rfl hl.1 rfl rc0 rfl dX12_requireHearing_27 ⟨Nat.le_of_ble_eq_true rfl, Nat.le_of_ble_eq_true rfl⟩ ⟨Nat.le_of_ble_eq_true rfl, Nat.le_of_ble_eq_true rfl⟩ hout hlocks (fun x hx9 => (fun h9 => ⟨(congrArg Prod.fst h9).symm, (congrArg Prod.snd h9).symm⟩) (Option.some.inj ((xk_inr hx9).symm.trans hf))) (fun v10 hv10 H locs hH => ?_)
  replace hf := (xk_inl hv10).symm.trans hf
  exact hx_vret hx hb (Nat.le_of_ble_eq_true rfl) (Nat.le_of_ble_eq_true rfl) hret hf hH hlocks dX12_requireHearing_30

theorem dX13_takesDraft_0 : decode cX13_takesDraft 0 = .ok (.iconst 0, 1) := by decide +kernel
theorem dX13_takesDraft_1 : decode cX13_takesDraft 1 = .ok (.istore_n 1, 1) := by decide +kernel
theorem dX13_takesDraft_2 : decode cX13_takesDraft 2 = .ok (.iload_n 1, 1) := by decide +kernel
theorem dX13_takesDraft_3 : decode cX13_takesDraft 3 = .ok (.sipush 170, 3) := by decide +kernel
theorem dX13_takesDraft_6 : decode cX13_takesDraft 6 = .ok (.if_icmp .ge 21, 3) := by decide +kernel
theorem dX13_takesDraft_9 : decode cX13_takesDraft 9 = .ok (.aload_n 0, 1) := by decide +kernel
theorem dX13_takesDraft_10 : decode cX13_takesDraft 10 = .ok (.getfield 7, 3) := by decide +kernel
theorem dX13_takesDraft_13 : decode cX13_takesDraft 13 = .ok (.iload_n 1, 1) := by decide +kernel
theorem dX13_takesDraft_14 : decode cX13_takesDraft 14 = .ok (.aload_n 0, 1) := by decide +kernel
theorem dX13_takesDraft_15 : decode cX13_takesDraft 15 = .ok (.getfield 13, 3) := by decide +kernel
theorem dX13_takesDraft_18 : decode cX13_takesDraft 18 = .ok (.iload_n 1, 1) := by decide +kernel
theorem dX13_takesDraft_19 : decode cX13_takesDraft 19 = .ok (.iaload, 1) := by decide +kernel
theorem dX13_takesDraft_20 : decode cX13_takesDraft 20 = .ok (.iastore, 1) := by decide +kernel
theorem dX13_takesDraft_21 : decode cX13_takesDraft 21 = .ok (.iinc 1 1, 3) := by decide +kernel
theorem dX13_takesDraft_24 : decode cX13_takesDraft 24 = .ok (.goto (-22), 3) := by decide +kernel
theorem dX13_takesDraft_27 : decode cX13_takesDraft 27 = .ok (.aload_n 0, 1) := by decide +kernel
theorem dX13_takesDraft_28 : decode cX13_takesDraft 28 = .ok (.getfield 68, 3) := by decide +kernel
theorem dX13_takesDraft_31 : decode cX13_takesDraft 31 = .ok (.aload_n 0, 1) := by decide +kernel
theorem dX13_takesDraft_32 : decode cX13_takesDraft 32 = .ok (.getfield 34, 3) := by decide +kernel
theorem dX13_takesDraft_35 : decode cX13_takesDraft 35 = .ok (.invokestatic 89, 3) := by decide +kernel
theorem dX13_takesDraft_38 : decode cX13_takesDraft 38 = .ok (.aload_n 0, 1) := by decide +kernel
theorem dX13_takesDraft_39 : decode cX13_takesDraft 39 = .ok (.getfield 71, 3) := by decide +kernel
theorem dX13_takesDraft_42 : decode cX13_takesDraft 42 = .ok (.aload_n 0, 1) := by decide +kernel
theorem dX13_takesDraft_43 : decode cX13_takesDraft 43 = .ok (.getfield 38, 3) := by decide +kernel
theorem dX13_takesDraft_46 : decode cX13_takesDraft 46 = .ok (.invokestatic 89, 3) := by decide +kernel
theorem dX13_takesDraft_49 : decode cX13_takesDraft 49 = .ok (.aload_n 0, 1) := by decide +kernel
theorem dX13_takesDraft_50 : decode cX13_takesDraft 50 = .ok (.getfield 74, 3) := by decide +kernel
theorem dX13_takesDraft_53 : decode cX13_takesDraft 53 = .ok (.aload_n 0, 1) := by decide +kernel
theorem dX13_takesDraft_54 : decode cX13_takesDraft 54 = .ok (.getfield 41, 3) := by decide +kernel
theorem dX13_takesDraft_57 : decode cX13_takesDraft 57 = .ok (.invokestatic 89, 3) := by decide +kernel
theorem dX13_takesDraft_60 : decode cX13_takesDraft 60 = .ok (.aload_n 0, 1) := by decide +kernel
theorem dX13_takesDraft_61 : decode cX13_takesDraft 61 = .ok (.getfield 77, 3) := by decide +kernel
theorem dX13_takesDraft_64 : decode cX13_takesDraft 64 = .ok (.aload_n 0, 1) := by decide +kernel
theorem dX13_takesDraft_65 : decode cX13_takesDraft 65 = .ok (.getfield 44, 3) := by decide +kernel
theorem dX13_takesDraft_68 : decode cX13_takesDraft 68 = .ok (.invokestatic 89, 3) := by decide +kernel
theorem dX13_takesDraft_71 : decode cX13_takesDraft 71 = .ok (.aload_n 0, 1) := by decide +kernel
theorem dX13_takesDraft_72 : decode cX13_takesDraft 72 = .ok (.getfield 19, 3) := by decide +kernel
theorem dX13_takesDraft_75 : decode cX13_takesDraft 75 = .ok (.aload_n 0, 1) := by decide +kernel
theorem dX13_takesDraft_76 : decode cX13_takesDraft 76 = .ok (.getfield 16, 3) := by decide +kernel
theorem dX13_takesDraft_79 : decode cX13_takesDraft 79 = .ok (.invokestatic 93, 3) := by decide +kernel
theorem dX13_takesDraft_82 : decode cX13_takesDraft 82 = .ok (.aload_n 0, 1) := by decide +kernel
theorem dX13_takesDraft_83 : decode cX13_takesDraft 83 = .ok (.iconst 0, 1) := by decide +kernel
theorem dX13_takesDraft_84 : decode cX13_takesDraft 84 = .ok (.putfield 97, 3) := by decide +kernel
theorem dX13_takesDraft_87 : decode cX13_takesDraft 87 = .ok (.aload_n 0, 1) := by decide +kernel
theorem dX13_takesDraft_88 : decode cX13_takesDraft 88 = .ok (.iconst 0, 1) := by decide +kernel
theorem dX13_takesDraft_89 : decode cX13_takesDraft 89 = .ok (.putfield 100, 3) := by decide +kernel
theorem dX13_takesDraft_92 : decode cX13_takesDraft 92 = .ok (.return_, 1) := by decide +kernel
theorem hd_X13_takesDraft : yX13_takesDraft.cls = RX13 ∧ yX13_takesDraft.cls ≠ "java/lang/invoke/MethodHandle" ∧ yX13_takesDraft.cls ≠ "java/lang/invoke/VarHandle" ∧ (parseMethodDescriptor yX13_takesDraft.desc).map (fun d => d.parameters.length) = some 0 := by decide +kernel
theorem hs_X13_takesDraft : yX13_takesDraft.cls ≠ "java/lang/invoke/MethodHandle" ∧ yX13_takesDraft.cls ≠ "java/lang/invoke/VarHandle" ∧ (parseMethodDescriptor yX13_takesDraft.desc).map (fun d => d.parameters.length) = some 0 := by decide +kernel
set_option maxHeartbeats 4000000 in
set_option maxRecDepth 100000 in
theorem l_X13_takesDraft_L2 (C : CX p l e s m args meth c cX13_takesDraft 2 RX13 (Option.none : Option Jvm.ClassFile.FieldType) E) {o : Nat} (ho : K o = some (11, 0)) {w' : Wd} (k : Int32 → Wd → Option Wd) (hk : ∀ (v1_2 : Int32) (w : Wd) (H : Heap) (locs : List Loc) (ls : Array Slot), HQ E K z w s H locs → lv_has ls 2 [(1, .int v1_2), (0, rv E (some o))] → k v1_2 w = some w' → W p l e ({ frames := 1, cells := 0, slots := 0, locals := 22 } : Room) s m args below meth c H locs 0 0 (MQ below (QV E K z w') args s 0 0 (hA E)) (F0 m 27 ls [])) : ∀ (n : Nat) (v1_2 : Int32) (w : Wd) (H : Heap) (locs : List Loc) (ls : Array Slot), HQ E K z w s H locs → lv_has ls 2 [(1, .int v1_2), (0, rv E (some o))] → f_X13_takesDraft_L2 K o k n v1_2 w = some w' → W p l e ({ frames := 1, cells := 0, slots := 0, locals := 22 } : Room) s m args below meth c H locs 0 0 (MQ below (QV E K z w') args s 0 0 (hA E)) (F0 m 2 ls []) := by
  obtain ⟨hx, hb, hml, hown, hts, hKs, hT, hb0, hlocks, hret⟩ := id C
  intro n
  induction n with
  | zero =>
    intro v1_2 w H locs ls hH hl hf
    cases hf
  | succ n ih =>
    intro v1_2 w H locs ls hH hl hf
    rw [f_X13_takesDraft_L2] at hf
    refine lv_iload_n hx hb dX13_takesDraft_2 rfl (lv_at hl 0 rfl) ?_
    refine lv_sipush (v := 170) hx hb dX13_takesDraft_3 (by decide) ?_
    refine lv_icmp_ge (tgt := 27) hx hb dX13_takesDraft_6 (by decide) (fun c2 => ?_) (fun c2 => ?_)
    · replace hf := (if_pos c2).symm.trans hf
      exact hk v1_2 _ _ _ _ hH (lv_sub hl [0, 1] rfl) hf
    · replace hf := (if_neg c2).symm.trans hf
      refine hl_aload_n hx hb dX13_takesDraft_9 rfl (lv_at hl 1 rfl) ?_
      refine g13_1 hx hb hts hown hKs hH rfl ho m6_183 dX13_takesDraft_10 ?_
      refine lv_iload_n hx hb dX13_takesDraft_13 rfl (lv_at hl 0 rfl) ?_
      refine hl_aload_n hx hb dX13_takesDraft_14 rfl (lv_at hl 1 rfl) ?_
      refine g13_2 hx hb hts hown hKs hH rfl ho m6_184 dX13_takesDraft_15 ?_
      refine lv_iload_n hx hb dX13_takesDraft_18 rfl (lv_at hl 0 rfl) ?_
      obtain ⟨a3, ha3, hf⟩ := bnd hf
      replace ha3 := cha_some ha3
      obtain ⟨j4, hj4, hf⟩ := bnd hf
      refine hw_iald hx hb hKs hH ha3.1 ha3.2 hj4 dX13_takesDraft_19 ?_
      obtain ⟨a5, ha5, hf⟩ := bnd hf
      replace ha5 := cha_some ha5
      obtain ⟨j6, hj6, hf⟩ := bnd hf
      obtain ⟨w7, hw7, hf⟩ := bnd hf
      replace hw7 := Option.some.inj hw7
      refine hw_iast (x := (aI w a3.1 j4)) hx hb hKs hH ha5.1 ha5.2 hj6 dX13_takesDraft_20 (fun H locs hH => ?_)
      rw [hw7] at hH
      refine lv_iinc (v := (v1_2 + 1)) (lv' := [(1, .int ((v1_2 + 1))), (0, rv E (some o))]) hx hb dX13_takesDraft_21 hl (k := 0) rfl rfl (by decide) rfl (fun ls hl => ?_)
      refine lv_goto (tgt := 2) hx hb dX13_takesDraft_24 (by decide) ?_
      exact ih (v1_2 + 1) _ _ _ _ hH (lv_sub hl [0, 1] rfl) hf
set_option maxHeartbeats 4000000 in
set_option maxRecDepth 100000 in
theorem k_X13_takesDraft (l : Launch) (E : Ev) (K : Kd) (z : Nat) (o : Nat) (w : Wd) (ho : K o = some (11, 0)) {w' : Wd} (hf : f_X13_takesDraft K o w = some w') : Met l yX13_takesDraft (Cond.code yX13_takesDraft cX13_takesDraft 2 (Option.none : Option Jvm.ClassFile.FieldType) :: bt) ({ frames := 1, cells := 0, slots := 0, locals := 22 } : Room) (va_Pc [rv E (some o)] (HB E K w z)) (QV E K z w') 0 0 (hA E) := by
  refine Met.ofW (cc := cX13_takesDraft) (maxL := 2) (ret := (Option.none : Option Jvm.ClassFile.FieldType)) (by decide) rfl ?_
  intro p e s m args below meth c s₁ B hml hv
  obtain ⟨rfl, hz, hP, hKs, hT, hb0⟩ := hv
  have C : CX p l e s m _ meth c cX13_takesDraft 2 RX13 (Option.none : Option Jvm.ClassFile.FieldType) E := ⟨B.exec, B.bytes, hml, findClass_of_methodNamed B.named, fun w h => atoms_spec (ws := Cond.code yX13_takesDraft cX13_takesDraft 2 (Option.none : Option Jvm.ClassFile.FieldType) :: bt) B.pre w (List.mem_cons_of_mem _ h), hKs, hT, by rw [hz]; exact hb0, B.notSynchronized, B.returns⟩
  have hH : HQ E K z w s s.heap [] := ⟨hP, va_S.rf, hz⟩
  obtain ⟨hx, hb, hml, hown, hts, hKs, hT, hb0, hlocks, hret⟩ := id C
  have hl := lv_entry [rv E (some o)] (n := 2) (by simp [lg_len_nil, lg_len_i, lg_len_j, lg_len_q])
  rw [lg_entry_eq]
  generalize (lg_sl [rv E (some o)] ++ List.replicate (2 - (lg_sl [rv E (some o)]).length) Slot.unset).toArray = ls at hl ⊢
  replace hl : lv_has ls 2 [(0, rv E (some o))] := by simpa only [lv_args, cat_q, cat_i, cat_j, reduceIte, Nat.reduceEqDiff, Nat.reduceAdd, Nat.zero_add] using hl
  generalize s.heap = H at hH ⊢
  unfold f_X13_takesDraft at hf
  refine lv_iconst (v := 0) hx hb dX13_takesDraft_0 (by decide) ?_
  refine lv_istore_n (lv' := [(1, .int 0), (0, rv E (some o))]) hx hb dX13_takesDraft_1 rfl hl (by decide) rfl (fun ls hl => ?_)
  refine l_X13_takesDraft_L2  C ho _ (fun v1_2 w1 H locs ls hH hl hf => ?_) fu 0 w _ _ _ hH (lv_sub hl [0, 1] rfl) hf
  refine hl_aload_n hx hb dX13_takesDraft_27 rfl (lv_at hl 1 rfl) ?_
  refine g13_33 hx hb hts hown hKs hH rfl ho m6_215 dX13_takesDraft_28 ?_
  refine hl_aload_n hx hb dX13_takesDraft_31 rfl (lv_at hl 1 rfl) ?_
  refine g13_11 hx hb hts hown hKs hH rfl ho m6_193 dX13_takesDraft_32 ?_
  obtain ⟨q8, hq8, hf⟩ := bnd hf
  refine hcS_v hx hb hml hown hts hKs hT hb0 hH (As := [rv E (wR w1 1333 o), rv E (wR w1 1311 o)]) (rest := []) (k_X13_moves l E K H.size (wR w1 1333 o) (wR w1 1311 o) w1 hq8) (gS m6_176 m6_177 m1_16 m6_178) hs_X13_moves ⟨Nat.le_of_ble_eq_true rfl, Nat.le_of_ble_eq_true rfl, rfl, rfl⟩ hl.1 rfl rc0 rfl dX13_takesDraft_35 ⟨Nat.zero_le _, Nat.zero_le _⟩ (fun H locs hH => ?_)
  refine hl_aload_n hx hb dX13_takesDraft_38 rfl (lv_at hl 1 rfl) ?_
  refine g13_34 hx hb hts hown hKs hH rfl ho m6_216 dX13_takesDraft_39 ?_
  refine hl_aload_n hx hb dX13_takesDraft_42 rfl (lv_at hl 1 rfl) ?_
  refine g13_12 hx hb hts hown hKs hH rfl ho m6_194 dX13_takesDraft_43 ?_
  obtain ⟨q9, hq9, hf⟩ := bnd hf
  refine hcS_v hx hb hml hown hts hKs hT hb0 hH (As := [rv E (wR q8 1334 o), rv E (wR q8 1312 o)]) (rest := []) (k_X13_moves l E K H.size (wR q8 1334 o) (wR q8 1312 o) q8 hq9) (gS m6_176 m6_177 m1_16 m6_178) hs_X13_moves ⟨Nat.le_of_ble_eq_true rfl, Nat.le_of_ble_eq_true rfl, rfl, rfl⟩ hl.1 rfl rc0 rfl dX13_takesDraft_46 ⟨Nat.zero_le _, Nat.zero_le _⟩ (fun H locs hH => ?_)
  refine hl_aload_n hx hb dX13_takesDraft_49 rfl (lv_at hl 1 rfl) ?_
  refine g13_35 hx hb hts hown hKs hH rfl ho m6_217 dX13_takesDraft_50 ?_
  refine hl_aload_n hx hb dX13_takesDraft_53 rfl (lv_at hl 1 rfl) ?_
  refine g13_13 hx hb hts hown hKs hH rfl ho m6_195 dX13_takesDraft_54 ?_
  obtain ⟨q10, hq10, hf⟩ := bnd hf
  refine hcS_v hx hb hml hown hts hKs hT hb0 hH (As := [rv E (wR q9 1335 o), rv E (wR q9 1313 o)]) (rest := []) (k_X13_moves l E K H.size (wR q9 1335 o) (wR q9 1313 o) q9 hq10) (gS m6_176 m6_177 m1_16 m6_178) hs_X13_moves ⟨Nat.le_of_ble_eq_true rfl, Nat.le_of_ble_eq_true rfl, rfl, rfl⟩ hl.1 rfl rc0 rfl dX13_takesDraft_57 ⟨Nat.zero_le _, Nat.zero_le _⟩ (fun H locs hH => ?_)
  refine hl_aload_n hx hb dX13_takesDraft_60 rfl (lv_at hl 1 rfl) ?_
  refine g13_36 hx hb hts hown hKs hH rfl ho m6_218 dX13_takesDraft_61 ?_
  refine hl_aload_n hx hb dX13_takesDraft_64 rfl (lv_at hl 1 rfl) ?_
  refine g13_14 hx hb hts hown hKs hH rfl ho m6_196 dX13_takesDraft_65 ?_
  obtain ⟨q11, hq11, hf⟩ := bnd hf
  refine hcS_v hx hb hml hown hts hKs hT hb0 hH (As := [rv E (wR q10 1336 o), rv E (wR q10 1314 o)]) (rest := []) (k_X13_moves l E K H.size (wR q10 1336 o) (wR q10 1314 o) q10 hq11) (gS m6_176 m6_177 m1_16 m6_178) hs_X13_moves ⟨Nat.le_of_ble_eq_true rfl, Nat.le_of_ble_eq_true rfl, rfl, rfl⟩ hl.1 rfl rc0 rfl dX13_takesDraft_68 ⟨Nat.zero_le _, Nat.zero_le _⟩ (fun H locs hH => ?_)
  refine hl_aload_n hx hb dX13_takesDraft_71 rfl (lv_at hl 1 rfl) ?_
  refine g13_4 hx hb hts hown hKs hH rfl ho m6_186 dX13_takesDraft_72 ?_
  refine hl_aload_n hx hb dX13_takesDraft_75 rfl (lv_at hl 1 rfl) ?_
  refine g13_3 hx hb hts hown hKs hH rfl ho m6_185 dX13_takesDraft_76 ?_
  obtain ⟨q12, hq12, hf⟩ := bnd hf
  refine hcS_v hx hb hml hown hts hKs hT hb0 hH (As := [rv E (wR q11 1304 o), rv E (wR q11 1303 o)]) (rest := []) (k_X13_copies l E K H.size (wR q11 1304 o) (wR q11 1303 o) q11 hq12) (gS m6_179 m6_180 m1_16 m6_181) hs_X13_copies ⟨Nat.le_of_ble_eq_true rfl, Nat.le_of_ble_eq_true rfl, rfl, rfl⟩ hl.1 rfl rc0 rfl dX13_takesDraft_79 ⟨Nat.zero_le _, Nat.zero_le _⟩ (fun H locs hH => ?_)
  refine hl_aload_n hx hb dX13_takesDraft_82 rfl (lv_at hl 1 rfl) ?_
  refine lv_iconst (v := 0) hx hb dX13_takesDraft_83 (by decide) ?_
  obtain ⟨w13, hw13, hf⟩ := bnd hf
  replace hw13 := Option.some.inj hw13
  refine p13_9 (v := 0) hx hb hts hown hKs hH rfl ho m6_191 dX13_takesDraft_84 (fun H locs hH => ?_)
  rw [hw13] at hH
  refine hl_aload_n hx hb dX13_takesDraft_87 rfl (lv_at hl 1 rfl) ?_
  refine lv_iconst (v := 0) hx hb dX13_takesDraft_88 (by decide) ?_
  obtain ⟨w14, hw14, hf⟩ := bnd hf
  replace hw14 := Option.some.inj hw14
  refine p13_10 (v := false) hx hb hts hown hKs hH rfl ho m6_192 dX13_takesDraft_89 (fun H locs hH => ?_)
  rw [hw14] at hH
  exact hw_vret hx hb hret hf hH hlocks dX13_takesDraft_92
end
