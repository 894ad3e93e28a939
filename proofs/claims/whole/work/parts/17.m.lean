def f_X13_laysDraft (K : Kd) (o : Nat) (a_1 : Int32) (a_2 : Int32) (w : Wd) : Option Wd :=
  (f_X13_fine K o w).bind fun q1 =>
  if (b2i q1.1) = 0 then
    (some q1.2)
  else
    ((cha K 20 (wR q1.2 1302 o)).bind fun a3 =>
    (ixa a_1 a3.2).bind fun j4 =>
    (some (tI q1.2 a3.1 j4 a_2)).bind fun w5 =>
    some w5)

def f_X13_nameHere_L7 (K : Kd) (o : Nat) (k : Int64 → Int32 → Wd → Option (Int64 × Wd)) : Nat → Int64 → Int32 → Wd → Option (Int64 × Wd)
  | 0, _, _, _ => none
  | n + 1, v1_7, v3_7, w =>
    if (wI w 1326 o) ≤ v3_7 then
      (k v1_7 v3_7 w)
    else
      ((cha K 21 (wR w 1323 o)).bind fun a3 =>
      (ixa v3_7 a3.2).bind fun j4 =>
      f_X13_nameHere_L7 K o k n (((27 * v1_7) + ((aI w a3.1 j4).toInt64)) - 96) (v3_7 + 1) w)

def f_X13_nameHere (K : Kd) (o : Nat) (w : Wd) : Option (Int64 × Wd) :=
  f_X13_nameHere_L7 K o (fun v1_7 v3_7 w1 =>
    some (v1_7, w1)) fu 0 (wI w 1327 o) w

def f_X13_placeOf_L3 (K : Kd) (k : Int64 → Option Nat → Int32 → Int32 → Wd → Option (Int32 × Wd)) : Nat → Int64 → Option Nat → Int32 → Int32 → Wd → Option (Int32 × Wd)
  | 0, _, _, _, _, _ => none
  | n + 1, v0_3, v2_3, v3_3, v4_3, w =>
    if v3_3 ≤ v4_3 then
      (k v0_3 v2_3 v3_3 v4_3 w)
    else
      ((cha K 23 v2_3).bind fun a3 =>
      (ixa v4_3 a3.2).bind fun j4 =>
      if (lg_cmp (aJ w a3.1 j4) v0_3) = 0 then
        (some (v4_3, w))
      else
        (f_X13_placeOf_L3 K k n v0_3 v2_3 v3_3 (v4_3 + 1) w))

def f_X13_placeOf (K : Kd) (a_0 : Int64) (a_2 : Option Nat) (a_3 : Int32) (w : Wd) : Option (Int32 × Wd) :=
  f_X13_placeOf_L3 K (fun v0_3 v2_3 v3_3 v4_3 w1 =>
    some ((-1), w1)) fu a_0 a_2 a_3 0 w

def f_X13_needsName (K : Kd) (o : Nat) (w : Wd) : Option Wd :=
  if (wI w 1328 o) = 1 then
    (if (wI w 1329 o) = (-1) then
      (if 8 < ((wI w 1326 o) - (wI w 1327 o)) then
        ((f_X13_needs K o false 1 w).bind fun q6 =>
        some q6)
      else
        ((f_X13_needs K o true 1 w).bind fun q7 =>
        some q7))
    else
      ((f_X13_needs K o false 1 w).bind fun q4 =>
      some q4))
  else
    ((f_X13_needs K o false 1 w).bind fun q2 =>
    some q2)

def f_X13_known (K : Kd) (o : Nat) (a_1 : Option Nat) (a_2 : Int32) (w : Wd) : Option (Int32 × Wd) :=
  (f_X13_needsName K o w).bind fun q1 =>
  (f_X13_fine K o q1).bind fun q2 =>
  if (b2i q2.1) = 0 then
    (some (0, q2.2))
  else
    ((f_X13_nameHere K o q2.2).bind fun q4 =>
    (f_X13_placeOf K q4.1 a_1 a_2 q4.2).bind fun q5 =>
    if q5.1 = (-1) then
      ((f_X13_needs K o false 3 q5.2).bind fun q7 =>
      some (q5.1, q7))
    else
      ((f_X13_needs K o true 3 q5.2).bind fun q8 =>
      some (q5.1, q8)))

def f_X13_errorCode (K : Kd) (o : Nat) (w : Wd) : Option (Int32 × Wd) :=
  (some (sI w 1300 o 0)).bind fun w1 =>
  some ((wI w1 1331 o), w1)

def f_X13_errorOffset (K : Kd) (o : Nat) (w : Wd) : Option (Int32 × Wd) :=
  (some (sI w 1300 o 0)).bind fun w1 =>
  some ((wI w1 1332 o), w1)

def f_X13_says (K : Kd) (o : Nat) (a_1 : Int32) (w : Wd) : Option Wd :=
  (cha K 21 (wR w 1337 o)).bind fun a1 =>
  (ixa (wI w 1338 o) a1.2).bind fun j2 =>
  (some (tI w a1.1 j2 (vp_nar .byte (a_1.toInt8.toInt32)))).bind fun w3 =>
  (some (sI w3 1338 o ((wI w3 1338 o) + 1))).bind fun w4 =>
  some w4

def f_X13_outputByte (K : Kd) (o : Nat) (a_1 : Int32) (w : Wd) : Option (Int32 × Wd) :=
  (some (sI w 1300 o 0)).bind fun w1 =>
  (f_X13_isIn K (a_1.toInt64) 0 (((wI w1 1338 o).toInt64) - 1) w1).bind fun q2 =>
  if (b2i q2.1) = 0 then
    (some ((-1), q2.2))
  else
    ((cha K 21 (wR q2.2 1337 o)).bind fun a4 =>
    (ixa a_1 a4.2).bind fun j5 =>
    some ((aI q2.2 a4.1 j5), q2.2))

def f_X1_isSpare_L3 (K : Kd) (o : Nat) (k : Int32 → Int32 → Int32 → Int32 → Wd → Option (Bool × Wd)) : Nat → Int32 → Int32 → Int32 → Int32 → Wd → Option (Bool × Wd)
  | 0, _, _, _, _, _ => none
  | n + 1, v1_3, v2_3, v3_3, v4_3, w =>
    if v1_3 ≤ v4_3 then
      (k v1_3 v2_3 v3_3 v4_3 w)
    else
      ((f_X12_has K v3_3 v1_3 w).bind fun q3 =>
      if (b2i q3.1) = 0 then
        ((cha K 20 (wR q3.2 101 o)).bind fun a5 =>
        (ixa v4_3 a5.2).bind fun j6 =>
        (ixa v1_3 a5.2).bind fun j7 =>
        (f_X12_has K v3_3 v4_3 q3.2).bind fun q8 =>
        if (b2i q8.1) = 0 then
          (if (((aI q3.2 a5.1 j6) ^^^ (aI q3.2 a5.1 j7)) &&& v2_3) = 0 then
            (some (true, q8.2))
          else
            (f_X1_isSpare_L3 K o k n v1_3 v2_3 v3_3 (v4_3 + 1) q8.2))
        else
          (f_X1_isSpare_L3 K o k n v1_3 v2_3 v3_3 (v4_3 + 1) q8.2))
      else
        (k v1_3 v2_3 v3_3 v4_3 q3.2))

def f_X1_isSpare (K : Kd) (o : Nat) (a_1 : Int32) (a_2 : Int32) (a_3 : Int32) (w : Wd) : Option (Bool × Wd) :=
  f_X1_isSpare_L3 K o (fun v1_3 v2_3 v3_3 v4_3 w1 =>
    some (false, w1)) fu a_1 a_2 a_3 0 w

def f_X1_giveTo_L9 (K : Kd) (o : Nat) (k : Int32 → Int32 → Int32 → Int32 → Int32 → Wd → Option Wd) : Nat → Int32 → Int32 → Int32 → Int32 → Int32 → Wd → Option Wd
  | 0, _, _, _, _, _, _ => none
  | n + 1, v1_9, v2_9, v3_9, v4_9, v5_9, w =>
    if (wI w 103 o) ≤ v5_9 then
      (k v1_9 v2_9 v3_9 v4_9 v5_9 w)
    else
      ((cha K 20 (wR w 100 o)).bind fun a3 =>
      (ixa v2_9 a3.2).bind fun j4 =>
      (f_X12_has K (aI w a3.1 j4) v5_9 w).bind fun q5 =>
      if (b2i q5.1) = 0 then
        ((cha K 20 (wR q5.2 102 o)).bind fun a7 =>
        (ixa (v4_9 + v5_9) a7.2).bind fun j8 =>
        (ixa ((v4_9 + 12) + v5_9) a7.2).bind fun j9 =>
        (some (tI q5.2 a7.1 j9 ((aI q5.2 a7.1 j8) &&& (0 ^^^ (-1))))).bind fun w10 =>
        f_X1_giveTo_L9 K o k n v1_9 v2_9 v3_9 v4_9 (v5_9 + 1) w10)
      else
        ((cha K 20 (wR q5.2 102 o)).bind fun a11 =>
        (ixa (v4_9 + v5_9) a11.2).bind fun j12 =>
        (ixa ((v4_9 + 12) + v5_9) a11.2).bind fun j13 =>
        (some (tI q5.2 a11.1 j13 ((aI q5.2 a11.1 j12) &&& ((1 <<< (v3_9 &&& 31)) ^^^ (-1))))).bind fun w14 =>
        f_X1_giveTo_L9 K o k n v1_9 v2_9 v3_9 v4_9 (v5_9 + 1) w14))

def f_X1_giveTo (K : Kd) (o : Nat) (a_1 : Int32) (a_2 : Int32) (a_3 : Int32) (w : Wd) : Option Wd :=
  f_X1_giveTo_L9 K o (fun v1_9 v2_9 v3_9 v4_9 v5_9 w1 =>
    some w1) fu a_1 a_2 a_3 (a_1 * 12) 0 w

def f_X2_contains (K : Kd) (o : Nat) (a_1 : Int32) (w : Wd) : Option (Bool × Wd) :=
  if a_1 < 0 then
    (some (false, w))
  else
    (if 600 ≤ a_1 then
      (some (false, w))
    else
      ((cha K 20 (wR w 200 o)).bind fun a3 =>
      (ixa (a_1 / 32) a3.2).bind fun j4 =>
      if ((ushr (aI w a3.1 j4) (a_1 - a_1 / 32 * 32)) &&& 1) = 0 then
        (some (false, w))
      else
        (some (true, w))))

def f_X2_add (K : Kd) (o : Nat) (a_1 : Int32) (w : Wd) : Option Wd :=
  if a_1 < 0 then
    (some w)
  else
    (if 600 ≤ a_1 then
      (some w)
    else
      ((f_X2_contains K o a_1 w).bind fun q3 =>
      if (b2i q3.1) = 0 then
        ((cha K 20 (wR q3.2 200 o)).bind fun a5 =>
        (ixa (a_1 / 32) a5.2).bind fun j6 =>
        (ixa (a_1 / 32) a5.2).bind fun j7 =>
        (some (tI q3.2 a5.1 j7 ((aI q3.2 a5.1 j6) ||| (1 <<< ((a_1 - a_1 / 32 * 32) &&& 31))))).bind fun w8 =>
        (some (sI w8 201 o ((wI w8 201 o) + 1))).bind fun w9 =>
        some w9)
      else
        (some q3.2)))

def f_X2_copyFrom (K : Kd) (o : Nat) (a_1 : Option Nat) (w : Wd) : Option Wd :=
  (chk K 1 a_1).bind fun a1 =>
  (cha K 20 (wR w 200 o)).bind fun a2 =>
  (cha K 20 (wR w 200 a1)).bind fun a3 =>
  (grd (¬ (0 : Int32) < 0 ∧ ¬ (0 : Int32) < 0 ∧ ¬ (nI a2.2) < 0 ∧ (0 : Int32).toNatClampNeg + (nI a2.2).toNatClampNeg ≤ a3.2 ∧ (0 : Int32).toNatClampNeg + (nI a2.2).toNatClampNeg ≤ a2.2)).bind fun _ =>
  (some (tA w a2.1 (va_cpy (aI w a3.1) (aI w a2.1) (0 : Int32).toNatClampNeg (0 : Int32).toNatClampNeg (nI a2.2).toNatClampNeg))).bind fun w5 =>
  (some (sI w5 201 o (wI w5 201 a1))).bind fun w6 =>
  some w6

def f_X3_clear (K : Kd) (o : Nat) (w : Wd) : Option Wd :=
  (some (sI w 300 o 0)).bind fun w1 =>
  (some (sI w1 301 o 1)).bind fun w2 =>
  (some (sI w2 302 o 1)).bind fun w3 =>
  (some (sZ w3 303 o false)).bind fun w4 =>
  (some (sI w4 304 o 0)).bind fun w5 =>
  (some (sI w5 305 o 0)).bind fun w6 =>
  (some (sI w6 306 o 0)).bind fun w7 =>
  some w7

def f_X4_isFull (K : Kd) (o : Nat) (w : Wd) : Option (Bool × Wd) :=
  (cha K 23 (wR w 400 o)).bind fun a1 =>
  if (wI w 401 o) < (nI a1.2) then
    (some (false, w))
  else
    (some (true, w))

def f_X4_add (K : Kd) (o : Nat) (a_1 : Int64) (w : Wd) : Option Wd :=
  (cha K 23 (wR w 400 o)).bind fun a1 =>
  if (nI a1.2) ≤ (wI w 401 o) then
    (some w)
  else
    ((ixa (wI w 401 o) a1.2).bind fun j3 =>
    (some (tJ w a1.1 j3 a_1)).bind fun w4 =>
    (some (sI w4 401 o ((wI w4 401 o) + 1))).bind fun w5 =>
    some w5)

def f_X4_indexOf_L2 (K : Kd) (o : Nat) (k : Int64 → Int32 → Wd → Option (Int32 × Wd)) : Nat → Int64 → Int32 → Wd → Option (Int32 × Wd)
  | 0, _, _, _ => none
  | n + 1, v1_2, v3_2, w =>
    if (wI w 401 o) ≤ v3_2 then
      (k v1_2 v3_2 w)
    else
      ((cha K 23 (wR w 400 o)).bind fun a3 =>
      (ixa v3_2 a3.2).bind fun j4 =>
      if (lg_cmp (aJ w a3.1 j4) v1_2) = 0 then
        (some (v3_2, w))
      else
        (f_X4_indexOf_L2 K o k n v1_2 (v3_2 + 1) w))

def f_X4_indexOf (K : Kd) (o : Nat) (a_1 : Int64) (w : Wd) : Option (Int32 × Wd) :=
  f_X4_indexOf_L2 K o (fun v1_2 v3_2 w1 =>
    some ((-1), w1)) fu a_1 0 w

def f_X4_at (K : Kd) (o : Nat) (a_1 : Int32) (w : Wd) : Option (Int64 × Wd) :=
  if a_1 < 0 then
    (some (0, w))
  else
    (if a_1 < (wI w 401 o) then
      ((cha K 23 (wR w 400 o)).bind fun a3 =>
      (ixa a_1 a3.2).bind fun j4 =>
      some ((aJ w a3.1 j4), w))
    else
      (some (0, w)))

def f_X5_exchange (K : Kd) (o : Nat) (a_1 : Option Nat) (w : Wd) : Option (Option Nat × Wd) :=
  (some (sR w 501 o a_1)).bind fun w1 =>
  some ((wR w 501 o), w1)

def f_X5_fail (K : Kd) (o : Nat) (a_1 : Int32) (w : Wd) : Option (Bool × Wd) :=
  (some (sI w 502 o a_1)).bind fun w1 =>
  (chk K 7 (wR w1 500 o)).bind fun a2 =>
  (some (sI w1 503 o (wI w1 802 a2))).bind fun w3 =>
  some (false, w3)

def f_X5_seesToldName (K : Kd) (o : Nat) (a_1 : Int32) (w : Wd) : Option (Bool × Wd) :=
  (chk K 7 (wR w 500 o)).bind fun a1 =>
  (grd (tkB (wR w 804 a1) = true)).bind fun _ =>
  if (wR w 804 a1) = (some 16) then
    ((chk K 8 (wR w 501 o)).bind fun a4 =>
    (cha K 26 (wR w 900 a4)).bind fun a5 =>
    (ixa a_1 a5.2).bind fun j6 =>
    (chk K 3 (aR w a5.1 j6)).bind fun a7 =>
    (f_X4_indexOf K a7 (wJ w 805 a1) w).bind fun q8 =>
    (some (sI q8.2 504 o q8.1)).bind fun w9 =>
    if (wI w9 504 o) = (-1) then
      ((f_X5_fail K o 3 w9).bind fun q11 =>
      if (b2i q11.1) = 0 then
        (some (false, q11.2))
      else
        (some (true, q11.2)))
    else
      (some (true, w9)))
  else
    ((f_X5_fail K o 1 w).bind fun q13 =>
    some (q13.1, q13.2))

def f_X5_seesNumber (K : Kd) (o : Nat) (a_1 : Int32) (a_2 : Int32) (w : Wd) : Option (Bool × Wd) :=
  (chk K 7 (wR w 500 o)).bind fun a1 =>
  (grd (tkB (wR w 804 a1) = true)).bind fun _ =>
  if (wR w 804 a1) = (some 17) then
    (if (wI w 806 a1) < a_1 then
      ((f_X5_fail K o 2 w).bind fun q5 =>
      if (b2i q5.1) = 0 then
        (some (false, q5.2))
      else
        (some (true, q5.2)))
    else
      (if (wI w 806 a1) ≤ a_2 then
        (some (true, w))
      else
        ((f_X5_fail K o 2 w).bind fun q8 =>
        if (b2i q8.1) = 0 then
          (some (false, q8.2))
        else
          (some (true, q8.2)))))
  else
    ((f_X5_fail K o 1 w).bind fun q10 =>
    some (q10.1, q10.2))

def f_X6_leastLoaded_L5 (K : Kd) (o : Nat) (k : Int32 → Int32 → Int32 → Int32 → Wd → Option (Int32 × Wd)) : Nat → Int32 → Int32 → Int32 → Int32 → Wd → Option (Int32 × Wd)
  | 0, _, _, _, _, _ => none
  | n + 1, v1_5, v2_5, v3_5, v4_5, w =>
    if v1_5 ≤ v4_5 then
      (k v1_5 v2_5 v3_5 v4_5 w)
    else
      ((f_X12_has K ((wI w 604 o) ||| (wI w 605 o)) v4_5 w).bind fun q3 =>
      if (b2i q3.1) = 0 then
        ((cha K 20 (wR q3.2 601 o)).bind fun a6 =>
        (ixa v4_5 a6.2).bind fun j7 =>
        if (v2_5 &&& (aI q3.2 a6.1 j7)) = 0 then
          (if v3_5 = (-1) then
            (f_X6_leastLoaded_L5 K o k n v1_5 v2_5 v4_5 (v4_5 + 1) q3.2)
          else
            ((cha K 20 (wR q3.2 602 o)).bind fun a12 =>
            (ixa v4_5 a12.2).bind fun j13 =>
            (ixa v3_5 a12.2).bind fun j14 =>
            if (aI q3.2 a12.1 j14) ≤ (aI q3.2 a12.1 j13) then
              (f_X6_leastLoaded_L5 K o k n v1_5 v2_5 v3_5 (v4_5 + 1) q3.2)
            else
              (f_X6_leastLoaded_L5 K o k n v1_5 v2_5 v4_5 (v4_5 + 1) q3.2)))
        else
          (f_X6_leastLoaded_L5 K o k n v1_5 v2_5 v3_5 (v4_5 + 1) q3.2))
      else
        (f_X6_leastLoaded_L5 K o k n v1_5 v2_5 v3_5 (v4_5 + 1) q3.2))

def f_X6_leastLoaded (K : Kd) (o : Nat) (a_1 : Int32) (a_2 : Int32) (w : Wd) : Option (Int32 × Wd) :=
  f_X6_leastLoaded_L5 K o (fun v1_5 v2_5 v3_5 v4_5 w1 =>
    some (v3_5, w1)) fu a_1 a_2 (-1) 0 w

def f_X6_take (K : Kd) (a_0 : Option Nat) (a_1 : Int32) (a_2 : Int32) (w : Wd) : Option Wd :=
  if a_1 < 0 then
    (some w)
  else
    ((cha K 20 a_0).bind fun a2 =>
    if (nI a2.2) ≤ a_1 then
      (some w)
    else
      ((ixa a_1 a2.2).bind fun j4 =>
      (ixa a_1 a2.2).bind fun j5 =>
      (some (tI w a2.1 j5 ((aI w a2.1 j4) ||| a_2))).bind fun w6 =>
      some w6))

def f_X7_copyFrom (K : Kd) (o : Nat) (a_1 : Option Nat) (w : Wd) : Option Wd :=
  (chk K 6 a_1).bind fun a1 =>
  (some (sI w 700 o (wI w 700 a1))).bind fun w2 =>
  (some (sI w2 701 o (wI w2 701 a1))).bind fun w3 =>
  (some (sI w3 702 o (wI w3 702 a1))).bind fun w4 =>
  (some (sI w4 703 o (wI w4 703 a1))).bind fun w5 =>
  (some (sI w5 704 o (wI w5 704 a1))).bind fun w6 =>
  (some (sI w6 705 o (wI w6 705 a1))).bind fun w7 =>
  (some (sI w7 706 o (wI w7 706 a1))).bind fun w8 =>
  (cha K 20 (wR w8 707 o)).bind fun a9 =>
  (cha K 20 (wR w8 707 a1)).bind fun a10 =>
  (grd (¬ (0 : Int32) < 0 ∧ ¬ (0 : Int32) < 0 ∧ ¬ (nI a9.2) < 0 ∧ (0 : Int32).toNatClampNeg + (nI a9.2).toNatClampNeg ≤ a10.2 ∧ (0 : Int32).toNatClampNeg + (nI a9.2).toNatClampNeg ≤ a9.2)).bind fun _ =>
  (some (tA w8 a9.1 (va_cpy (aI w8 a10.1) (aI w8 a9.1) (0 : Int32).toNatClampNeg (0 : Int32).toNatClampNeg (nI a9.2).toNatClampNeg))).bind fun w12 =>
  some w12

def f_X7_isOn (K : Kd) (o : Nat) (a_1 : Int32) (w : Wd) : Option (Bool × Wd) :=
  if (wI w 700 o) = 1 then
    (if (wI w 702 o) = a_1 then
      (some (true, w))
    else
      (some (false, w)))
  else
    (if (wI w 700 o) = 2 then
      (if (wI w 702 o) = a_1 then
        (some (true, w))
      else
        (some (false, w)))
    else
      (some (false, w)))

def f_X7_setHearing (K : Kd) (o : Nat) (a_1 : Int32) (a_2 : Int32) (a_3 : Int32) (a_4 : Int32) (w : Wd) : Option Wd :=
  (some (sI w 700 o 1)).bind fun w1 =>
  (some (sI w1 702 o a_1)).bind fun w2 =>
  (some (sI w2 703 o a_2)).bind fun w3 =>
  (some (sI w3 704 o a_3)).bind fun w4 =>
  (some (sI w4 705 o a_4)).bind fun w5 =>
  some w5
section
variable {p : Program} {l : Launch} {e : Env} {s : State} {m : MethodId} {args : Array Value} {below : List Frame} {meth : Method} {c : Code} {E : Ev} {K : Kd} {z : Nat}

theorem dX13_laysDraft_0 : decode cX13_laysDraft 0 = .ok (.aload_n 0, 1) := by decide +kernel
theorem dX13_laysDraft_1 : decode cX13_laysDraft 1 = .ok (.invokevirtual 379, 3) := by decide +kernel
theorem dX13_laysDraft_4 : decode cX13_laysDraft 4 = .ok (.ifCond .eq 10, 3) := by decide +kernel
theorem dX13_laysDraft_7 : decode cX13_laysDraft 7 = .ok (.aload_n 0, 1) := by decide +kernel
theorem dX13_laysDraft_8 : decode cX13_laysDraft 8 = .ok (.getfield 13, 3) := by decide +kernel
theorem dX13_laysDraft_11 : decode cX13_laysDraft 11 = .ok (.iload_n 1, 1) := by decide +kernel
theorem dX13_laysDraft_12 : decode cX13_laysDraft 12 = .ok (.iload_n 2, 1) := by decide +kernel
theorem dX13_laysDraft_13 : decode cX13_laysDraft 13 = .ok (.iastore, 1) := by decide +kernel
theorem dX13_laysDraft_14 : decode cX13_laysDraft 14 = .ok (.return_, 1) := by decide +kernel
theorem hd_X13_laysDraft : yX13_laysDraft.cls = RX13 ∧ yX13_laysDraft.cls ≠ "java/lang/invoke/MethodHandle" ∧ yX13_laysDraft.cls ≠ "java/lang/invoke/VarHandle" ∧ (parseMethodDescriptor yX13_laysDraft.desc).map (fun d => d.parameters.length) = some 2 := by decide +kernel
theorem hs_X13_laysDraft : yX13_laysDraft.cls ≠ "java/lang/invoke/MethodHandle" ∧ yX13_laysDraft.cls ≠ "java/lang/invoke/VarHandle" ∧ (parseMethodDescriptor yX13_laysDraft.desc).map (fun d => d.parameters.length) = some 2 := by decide +kernel
set_option maxHeartbeats 4000000 in
set_option maxRecDepth 100000 in
theorem k_X13_laysDraft (l : Launch) (E : Ev) (K : Kd) (z : Nat) (o : Nat) (a_1 : Int32) (a_2 : Int32) (w : Wd) (ho : K o = some (11, 0)) {w' : Wd} (hf : f_X13_laysDraft K o a_1 a_2 w = some w') : Met l yX13_laysDraft (Cond.code yX13_laysDraft cX13_laysDraft 3 (Option.none : Option Jvm.ClassFile.FieldType) :: bt) ({ frames := 1, cells := 0, slots := 0, locals := 20 } : Room) (va_Pc [rv E (some o), .int a_1, .int a_2] (HB E K w z)) (QV E K z w') 0 0 (hA E) := by
  refine Met.ofW (cc := cX13_laysDraft) (maxL := 3) (ret := (Option.none : Option Jvm.ClassFile.FieldType)) (by decide) rfl ?_
  intro p e s m args below meth c s₁ B hml hv
  obtain ⟨rfl, hz, hP, hKs, hT, hb0⟩ := hv
  have C : CX p l e s m _ meth c cX13_laysDraft 3 RX13 (Option.none : Option Jvm.ClassFile.FieldType) E := ⟨B.exec, B.bytes, hml, findClass_of_methodNamed B.named, fun w h => atoms_spec (ws := Cond.code yX13_laysDraft cX13_laysDraft 3 (Option.none : Option Jvm.ClassFile.FieldType) :: bt) B.pre w (List.mem_cons_of_mem _ h), hKs, hT, by rw [hz]; exact hb0, B.notSynchronized, B.returns⟩
  have hH : HQ E K z w s s.heap [] := ⟨hP, va_S.rf, hz⟩
  obtain ⟨hx, hb, hml, hown, hts, hKs, hT, hb0, hlocks, hret⟩ := id C
  have hl := lv_entry [rv E (some o), .int a_1, .int a_2] (n := 3) (by simp [lg_len_nil, lg_len_i, lg_len_j, lg_len_q])
  rw [lg_entry_eq]
  generalize (lg_sl [rv E (some o), .int a_1, .int a_2] ++ List.replicate (3 - (lg_sl [rv E (some o), .int a_1, .int a_2]).length) Slot.unset).toArray = ls at hl ⊢
  replace hl : lv_has ls 3 [(0, rv E (some o)), (1, .int a_1), (2, .int a_2)] := by simpa only [lv_args, cat_q, cat_i, cat_j, reduceIte, Nat.reduceEqDiff, Nat.reduceAdd, Nat.zero_add] using hl
  generalize s.heap = H at hH ⊢
  unfold f_X13_laysDraft at hf
  refine hl_aload_n hx hb dX13_laysDraft_0 rfl (lv_at hl 0 rfl) ?_
  obtain ⟨q1, hq1, hf⟩ := bnd hf
  refine hcV_i hx hb hml hown hts hKs hT hb0 hH (As := []) (rest := []) (k_X13_fine l E K H.size o w ho hq1) (gV m9_47 m9_49 ms_105 m1_16 m9_50) hd_X13_fine ⟨Nat.le_of_ble_eq_true rfl, Nat.le_of_ble_eq_true rfl, rfl, rfl⟩ rfl ho rfl rfl rfl hl.1 rfl rc0 rfl dX13_laysDraft_1 ⟨Nat.zero_le _, Nat.zero_le _⟩ (fun H locs hH => ?_)
  refine lv_if_eq (tgt := 14) hx hb dX13_laysDraft_4 (by decide) (fun c2 => ?_) (fun c2 => ?_)
  · replace hf := (if_pos c2).symm.trans hf
    exact hw_vret hx hb hret hf hH hlocks dX13_laysDraft_14
  · replace hf := (if_neg c2).symm.trans hf
    refine hl_aload_n hx hb dX13_laysDraft_7 rfl (lv_at hl 0 rfl) ?_
    refine g13_2 hx hb hts hown hKs hH rfl ho m6_184 dX13_laysDraft_8 ?_
    refine lv_iload_n hx hb dX13_laysDraft_11 rfl (lv_at hl 1 rfl) ?_
    refine lv_iload_n hx hb dX13_laysDraft_12 rfl (lv_at hl 2 rfl) ?_
    obtain ⟨a3, ha3, hf⟩ := bnd hf
    replace ha3 := cha_some ha3
    obtain ⟨j4, hj4, hf⟩ := bnd hf
    obtain ⟨w5, hw5, hf⟩ := bnd hf
    replace hw5 := Option.some.inj hw5
    refine hw_iast (x := a_2) hx hb hKs hH ha3.1 ha3.2 hj4 dX13_laysDraft_13 (fun H locs hH => ?_)
    rw [hw5] at hH
    exact hw_vret hx hb hret hf hH hlocks dX13_laysDraft_14

theorem dX13_nameHere_0 : decode cX13_nameHere 0 = .ok (.lconst 0, 1) := by decide +kernel
theorem dX13_nameHere_1 : decode cX13_nameHere 1 = .ok (.lstore_n 1, 1) := by decide +kernel
theorem dX13_nameHere_2 : decode cX13_nameHere 2 = .ok (.aload_n 0, 1) := by decide +kernel
theorem dX13_nameHere_3 : decode cX13_nameHere 3 = .ok (.getfield 343, 3) := by decide +kernel
theorem dX13_nameHere_6 : decode cX13_nameHere 6 = .ok (.istore_n 3, 1) := by decide +kernel
theorem dX13_nameHere_7 : decode cX13_nameHere 7 = .ok (.iload_n 3, 1) := by decide +kernel
theorem dX13_nameHere_8 : decode cX13_nameHere 8 = .ok (.aload_n 0, 1) := by decide +kernel
theorem dX13_nameHere_9 : decode cX13_nameHere 9 = .ok (.getfield 337, 3) := by decide +kernel
theorem dX13_nameHere_12 : decode cX13_nameHere 12 = .ok (.if_icmp .ge 27, 3) := by decide +kernel
theorem dX13_nameHere_15 : decode cX13_nameHere 15 = .ok (.ldc2_w 408, 3) := by decide +kernel
theorem dX13_nameHere_18 : decode cX13_nameHere 18 = .ok (.lload_n 1, 1) := by decide +kernel
theorem dX13_nameHere_19 : decode cX13_nameHere 19 = .ok (.lmul, 1) := by decide +kernel
theorem dX13_nameHere_20 : decode cX13_nameHere 20 = .ok (.aload_n 0, 1) := by decide +kernel
theorem dX13_nameHere_21 : decode cX13_nameHere 21 = .ok (.getfield 61, 3) := by decide +kernel
theorem dX13_nameHere_24 : decode cX13_nameHere 24 = .ok (.iload_n 3, 1) := by decide +kernel
theorem dX13_nameHere_25 : decode cX13_nameHere 25 = .ok (.baload, 1) := by decide +kernel
theorem dX13_nameHere_26 : decode cX13_nameHere 26 = .ok (.i2l, 1) := by decide +kernel
theorem dX13_nameHere_27 : decode cX13_nameHere 27 = .ok (.ladd, 1) := by decide +kernel
theorem dX13_nameHere_28 : decode cX13_nameHere 28 = .ok (.ldc2_w 410, 3) := by decide +kernel
theorem dX13_nameHere_31 : decode cX13_nameHere 31 = .ok (.lsub, 1) := by decide +kernel
theorem dX13_nameHere_32 : decode cX13_nameHere 32 = .ok (.lstore_n 1, 1) := by decide +kernel
theorem dX13_nameHere_33 : decode cX13_nameHere 33 = .ok (.iinc 3 1, 3) := by decide +kernel
theorem dX13_nameHere_36 : decode cX13_nameHere 36 = .ok (.goto (-29), 3) := by decide +kernel
theorem dX13_nameHere_39 : decode cX13_nameHere 39 = .ok (.lload_n 1, 1) := by decide +kernel
theorem dX13_nameHere_40 : decode cX13_nameHere 40 = .ok (.lreturn, 1) := by decide +kernel
theorem hd_X13_nameHere : yX13_nameHere.cls = RX13 ∧ yX13_nameHere.cls ≠ "java/lang/invoke/MethodHandle" ∧ yX13_nameHere.cls ≠ "java/lang/invoke/VarHandle" ∧ (parseMethodDescriptor yX13_nameHere.desc).map (fun d => d.parameters.length) = some 0 := by decide +kernel
theorem hs_X13_nameHere : yX13_nameHere.cls ≠ "java/lang/invoke/MethodHandle" ∧ yX13_nameHere.cls ≠ "java/lang/invoke/VarHandle" ∧ (parseMethodDescriptor yX13_nameHere.desc).map (fun d => d.parameters.length) = some 0 := by decide +kernel
set_option maxHeartbeats 4000000 in
set_option maxRecDepth 100000 in
theorem l_X13_nameHere_L7 (C : CX p l e s m args meth c cX13_nameHere 4 RX13 (Option.some Jvm.ClassFile.FieldType.long) E) {o : Nat} (ho : K o = some (11, 0)) {r : Int64} {w' : Wd} (k : Int64 → Int32 → Wd → Option (Int64 × Wd)) (hk : ∀ (v1_7 : Int64) (v3_7 : Int32) (w : Wd) (H : Heap) (locs : List Loc) (ls : Array Slot), HQ E K z w s H locs → lv_has ls 4 [(1, .long v1_7), (3, .int v3_7), (0, rv E (some o))] → k v1_7 v3_7 w = some (r, w') → W p l e ({ frames := 0, cells := 0, slots := 0, locals := 0 } : Room) s m args below meth c H locs 0 0 (MQ below (QL E K z w' r) args s 0 0 (hA E)) (F0 m 39 ls [])) : ∀ (n : Nat) (v1_7 : Int64) (v3_7 : Int32) (w : Wd) (H : Heap) (locs : List Loc) (ls : Array Slot), HQ E K z w s H locs → lv_has ls 4 [(1, .long v1_7), (3, .int v3_7), (0, rv E (some o))] → f_X13_nameHere_L7 K o k n v1_7 v3_7 w = some (r, w') → W p l e ({ frames := 0, cells := 0, slots := 0, locals := 0 } : Room) s m args below meth c H locs 0 0 (MQ below (QL E K z w' r) args s 0 0 (hA E)) (F0 m 7 ls []) := by
  obtain ⟨hx, hb, hml, hown, hts, hKs, hT, hb0, hlocks, hret⟩ := id C
  intro n
  induction n with
  | zero =>
    intro v1_7 v3_7 w H locs ls hH hl hf
    cases hf
  | succ n ih =>
    intro v1_7 v3_7 w H locs ls hH hl hf
    rw [f_X13_nameHere_L7] at hf
    refine lv_iload_n hx hb dX13_nameHere_7 rfl (lv_at hl 1 rfl) ?_
    refine hl_aload_n hx hb dX13_nameHere_8 rfl (lv_at hl 2 rfl) ?_
    refine g13_26 hx hb hts hown hKs hH rfl ho m6_208 dX13_nameHere_9 ?_
    refine lv_icmp_ge (tgt := 39) hx hb dX13_nameHere_12 (by decide) (fun c2 => ?_) (fun c2 => ?_)
    · replace hf := (if_pos c2).symm.trans hf
      exact hk v1_7 v3_7 _ _ _ _ hH (lv_sub hl [0, 1, 2] rfl) hf
    · replace hf := (if_neg c2).symm.trans hf
      refine lv_ldc2 (v := 27) hx hb hown (hts _ m9_95) dX13_nameHere_15 ?_
      refine lv_lload_n hx hb dX13_nameHere_18 rfl (lv_at hl 0 rfl) ?_
      refine lv_lmul hx hb dX13_nameHere_19 ?_
      refine hl_aload_n hx hb dX13_nameHere_20 rfl (lv_at hl 2 rfl) ?_
      refine g13_23 hx hb hts hown hKs hH rfl ho m6_205 dX13_nameHere_21 ?_
      refine lv_iload_n hx hb dX13_nameHere_24 rfl (lv_at hl 1 rfl) ?_
      obtain ⟨a3, ha3, hf⟩ := bnd hf
      replace ha3 := cha_some ha3
      obtain ⟨j4, hj4, hf⟩ := bnd hf
      refine hw_bald hx hb hKs hH ha3.1 ha3.2 hj4 dX13_nameHere_25 ?_
      refine lv_i2l (v := ((aI w a3.1 j4).toInt64)) hx hb dX13_nameHere_26 rfl ?_
      refine lv_ladd hx hb dX13_nameHere_27 ?_
      refine lv_ldc2 (v := 96) hx hb hown (hts _ m9_96) dX13_nameHere_28 ?_
      refine lv_lsub hx hb dX13_nameHere_31 ?_
      refine lv_lstore_n (lv' := [(1, .long (((27 * v1_7) + ((aI w a3.1 j4).toInt64)) - 96)), (3, .int v3_7), (0, rv E (some o))]) hx hb dX13_nameHere_32 rfl hl (by decide) rfl (fun ls hl => ?_)
      refine lv_iinc (v := (v3_7 + 1)) (lv' := [(3, .int ((v3_7 + 1))), (1, .long (((27 * v1_7) + ((aI w a3.1 j4).toInt64)) - 96)), (0, rv E (some o))]) hx hb dX13_nameHere_33 hl (k := 1) rfl rfl (by decide) rfl (fun ls hl => ?_)
      refine lv_goto (tgt := 7) hx hb dX13_nameHere_36 (by decide) ?_
      exact ih (((27 * v1_7) + ((aI w a3.1 j4).toInt64)) - 96) (v3_7 + 1) _ _ _ _ hH (lv_sub hl [1, 0, 2] rfl) hf
set_option maxHeartbeats 4000000 in
set_option maxRecDepth 100000 in
theorem k_X13_nameHere (l : Launch) (E : Ev) (K : Kd) (z : Nat) (o : Nat) (w : Wd) (ho : K o = some (11, 0)) {r : Int64} {w' : Wd} (hf : f_X13_nameHere K o w = some (r, w')) : Met l yX13_nameHere (Cond.code yX13_nameHere cX13_nameHere 4 (Option.some Jvm.ClassFile.FieldType.long) :: bt) ({ frames := 0, cells := 0, slots := 0, locals := 0 } : Room) (va_Pc [rv E (some o)] (HB E K w z)) (QL E K z w' r) 0 0 (hA E) := by
  refine Met.ofW (cc := cX13_nameHere) (maxL := 4) (ret := (Option.some Jvm.ClassFile.FieldType.long)) (by decide) rfl ?_
  intro p e s m args below meth c s₁ B hml hv
  obtain ⟨rfl, hz, hP, hKs, hT, hb0⟩ := hv
  have C : CX p l e s m _ meth c cX13_nameHere 4 RX13 (Option.some Jvm.ClassFile.FieldType.long) E := ⟨B.exec, B.bytes, hml, findClass_of_methodNamed B.named, fun w h => atoms_spec (ws := Cond.code yX13_nameHere cX13_nameHere 4 (Option.some Jvm.ClassFile.FieldType.long) :: bt) B.pre w (List.mem_cons_of_mem _ h), hKs, hT, by rw [hz]; exact hb0, B.notSynchronized, B.returns⟩
  have hH : HQ E K z w s s.heap [] := ⟨hP, va_S.rf, hz⟩
  obtain ⟨hx, hb, hml, hown, hts, hKs, hT, hb0, hlocks, hret⟩ := id C
  have hl := lv_entry [rv E (some o)] (n := 4) (by simp [lg_len_nil, lg_len_i, lg_len_j, lg_len_q])
  rw [lg_entry_eq]
  generalize (lg_sl [rv E (some o)] ++ List.replicate (4 - (lg_sl [rv E (some o)]).length) Slot.unset).toArray = ls at hl ⊢
  replace hl : lv_has ls 4 [(0, rv E (some o))] := by simpa only [lv_args, cat_q, cat_i, cat_j, reduceIte, Nat.reduceEqDiff, Nat.reduceAdd, Nat.zero_add] using hl
  generalize s.heap = H at hH ⊢
  unfold f_X13_nameHere at hf
  refine lv_lconst (v := 0) hx hb dX13_nameHere_0 rfl ?_
  refine lv_lstore_n (lv' := [(1, .long 0), (0, rv E (some o))]) hx hb dX13_nameHere_1 rfl hl (by decide) rfl (fun ls hl => ?_)
  refine hl_aload_n hx hb dX13_nameHere_2 rfl (lv_at hl 1 rfl) ?_
  refine g13_27 hx hb hts hown hKs hH rfl ho m6_209 dX13_nameHere_3 ?_
  refine lv_istore_n (lv' := [(3, .int ((wI w 1327 o))), (1, .long 0), (0, rv E (some o))]) hx hb dX13_nameHere_6 rfl hl (by decide) rfl (fun ls hl => ?_)
  refine l_X13_nameHere_L7  C ho _ (fun v1_7 v3_7 w1 H locs ls hH hl hf => ?_) fu 0 (wI w 1327 o) w _ _ _ hH (lv_sub hl [1, 0, 2] rfl) hf
  refine lv_lload_n hx hb dX13_nameHere_39 rfl (lv_at hl 0 rfl) ?_
  exact hw_lret hx hb hret hf hH hlocks dX13_nameHere_40

theorem dX13_placeOf_0 : decode cX13_placeOf 0 = .ok (.iconst 0, 1) := by decide +kernel
theorem dX13_placeOf_1 : decode cX13_placeOf 1 = .ok (.istore 4, 2) := by decide +kernel
theorem dX13_placeOf_3 : decode cX13_placeOf 3 = .ok (.iload 4, 2) := by decide +kernel
theorem dX13_placeOf_5 : decode cX13_placeOf 5 = .ok (.iload_n 3, 1) := by decide +kernel
theorem dX13_placeOf_6 : decode cX13_placeOf 6 = .ok (.if_icmp .ge 21, 3) := by decide +kernel
theorem dX13_placeOf_9 : decode cX13_placeOf 9 = .ok (.aload_n 2, 1) := by decide +kernel
theorem dX13_placeOf_10 : decode cX13_placeOf 10 = .ok (.iload 4, 2) := by decide +kernel
theorem dX13_placeOf_12 : decode cX13_placeOf 12 = .ok (.laload, 1) := by decide +kernel
theorem dX13_placeOf_13 : decode cX13_placeOf 13 = .ok (.lload_n 0, 1) := by decide +kernel
theorem dX13_placeOf_14 : decode cX13_placeOf 14 = .ok (.lcmp, 1) := by decide +kernel
theorem dX13_placeOf_15 : decode cX13_placeOf 15 = .ok (.ifCond .ne 6, 3) := by decide +kernel
theorem dX13_placeOf_18 : decode cX13_placeOf 18 = .ok (.iload 4, 2) := by decide +kernel
theorem dX13_placeOf_20 : decode cX13_placeOf 20 = .ok (.ireturn, 1) := by decide +kernel
theorem dX13_placeOf_21 : decode cX13_placeOf 21 = .ok (.iinc 4 1, 3) := by decide +kernel
theorem dX13_placeOf_24 : decode cX13_placeOf 24 = .ok (.goto (-21), 3) := by decide +kernel
theorem dX13_placeOf_27 : decode cX13_placeOf 27 = .ok (.iconst (-1), 1) := by decide +kernel
theorem dX13_placeOf_28 : decode cX13_placeOf 28 = .ok (.ireturn, 1) := by decide +kernel
theorem hs_X13_placeOf : yX13_placeOf.cls ≠ "java/lang/invoke/MethodHandle" ∧ yX13_placeOf.cls ≠ "java/lang/invoke/VarHandle" ∧ (parseMethodDescriptor yX13_placeOf.desc).map (fun d => d.parameters.length) = some 3 := by decide +kernel
set_option maxHeartbeats 4000000 in
set_option maxRecDepth 100000 in
theorem l_X13_placeOf_L3 (C : CX p l e s m args meth c cX13_placeOf 5 RX13 (Option.some Jvm.ClassFile.FieldType.int) E) {r : Int32} {w' : Wd} (k : Int64 → Option Nat → Int32 → Int32 → Wd → Option (Int32 × Wd)) (hk : ∀ (v0_3 : Int64) (v2_3 : Option Nat) (v3_3 : Int32) (v4_3 : Int32) (w : Wd) (H : Heap) (locs : List Loc) (ls : Array Slot), HQ E K z w s H locs → lv_has ls 5 [(0, .long v0_3), (2, rv E v2_3), (3, .int v3_3), (4, .int v4_3)] → k v0_3 v2_3 v3_3 v4_3 w = some (r, w') → W p l e ({ frames := 0, cells := 0, slots := 0, locals := 0 } : Room) s m args below meth c H locs 0 0 (MQ below (QI E K z w' r) args s 0 0 (hA E)) (F0 m 27 ls [])) : ∀ (n : Nat) (v0_3 : Int64) (v2_3 : Option Nat) (v3_3 : Int32) (v4_3 : Int32) (w : Wd) (H : Heap) (locs : List Loc) (ls : Array Slot), HQ E K z w s H locs → lv_has ls 5 [(0, .long v0_3), (2, rv E v2_3), (3, .int v3_3), (4, .int v4_3)] → f_X13_placeOf_L3 K k n v0_3 v2_3 v3_3 v4_3 w = some (r, w') → W p l e ({ frames := 0, cells := 0, slots := 0, locals := 0 } : Room) s m args below meth c H locs 0 0 (MQ below (QI E K z w' r) args s 0 0 (hA E)) (F0 m 3 ls []) := by
  obtain ⟨hx, hb, hml, hown, hts, hKs, hT, hb0, hlocks, hret⟩ := id C
  intro n
  induction n with
  | zero =>
    intro v0_3 v2_3 v3_3 v4_3 w H locs ls hH hl hf
    cases hf
  | succ n ih =>
    intro v0_3 v2_3 v3_3 v4_3 w H locs ls hH hl hf
    rw [f_X13_placeOf_L3] at hf
    refine lv_iload hx hb dX13_placeOf_3 (lv_at hl 3 rfl) ?_
    refine lv_iload_n hx hb dX13_placeOf_5 rfl (lv_at hl 2 rfl) ?_
    refine lv_icmp_ge (tgt := 27) hx hb dX13_placeOf_6 (by decide) (fun c2 => ?_) (fun c2 => ?_)
    · replace hf := (if_pos c2).symm.trans hf
      exact hk v0_3 v2_3 v3_3 v4_3 _ _ _ _ hH (lv_sub hl [0, 1, 2, 3] rfl) hf
    · replace hf := (if_neg c2).symm.trans hf
      refine hl_aload_n hx hb dX13_placeOf_9 rfl (lv_at hl 1 rfl) ?_
      refine lv_iload hx hb dX13_placeOf_10 (lv_at hl 3 rfl) ?_
      obtain ⟨a3, ha3, hf⟩ := bnd hf
      replace ha3 := cha_some ha3
      obtain ⟨j4, hj4, hf⟩ := bnd hf
      refine hw_lald hx hb hKs hH ha3.1 ha3.2 hj4 dX13_placeOf_12 ?_
      refine lv_lload_n hx hb dX13_placeOf_13 rfl (lv_at hl 0 rfl) ?_
      refine W.lcmp hx hb dX13_placeOf_14 ?_
      refine lv_if_ne (tgt := 21) hx hb dX13_placeOf_15 (by decide) (fun c5 => ?_) (fun c5 => ?_)
      · replace hf := (if_neg c5).symm.trans hf
        refine lv_iinc (v := (v4_3 + 1)) (lv' := [(4, .int ((v4_3 + 1))), (0, .long v0_3), (2, rv E v2_3), (3, .int v3_3)]) hx hb dX13_placeOf_21 hl (k := 3) rfl rfl (by decide) rfl (fun ls hl => ?_)
        refine lv_goto (tgt := 3) hx hb dX13_placeOf_24 (by decide) ?_
        exact ih v0_3 v2_3 v3_3 (v4_3 + 1) _ _ _ _ hH (lv_sub hl [1, 2, 3, 0] rfl) hf
      · replace hf := (if_pos c5).symm.trans hf
        refine lv_iload hx hb dX13_placeOf_18 (lv_at hl 3 rfl) ?_
        exact hw_iret hx hb hret hf hH hlocks dX13_placeOf_20
set_option maxHeartbeats 4000000 in
set_option maxRecDepth 100000 in
theorem k_X13_placeOf (l : Launch) (E : Ev) (K : Kd) (z : Nat) (a_0 : Int64) (a_2 : Option Nat) (a_3 : Int32) (w : Wd) {r : Int32} {w' : Wd} (hf : f_X13_placeOf K a_0 a_2 a_3 w = some (r, w')) : Met l yX13_placeOf (Cond.code yX13_placeOf cX13_placeOf 5 (Option.some Jvm.ClassFile.FieldType.int) :: bt) ({ frames := 0, cells := 0, slots := 0, locals := 0 } : Room) (va_Pc [.long a_0, rv E a_2, .int a_3] (HB E K w z)) (QI E K z w' r) 0 0 (hA E) := by
  refine Met.ofW (cc := cX13_placeOf) (maxL := 5) (ret := (Option.some Jvm.ClassFile.FieldType.int)) (by decide) rfl ?_
  intro p e s m args below meth c s₁ B hml hv
  obtain ⟨rfl, hz, hP, hKs, hT, hb0⟩ := hv
  have C : CX p l e s m _ meth c cX13_placeOf 5 RX13 (Option.some Jvm.ClassFile.FieldType.int) E := ⟨B.exec, B.bytes, hml, findClass_of_methodNamed B.named, fun w h => atoms_spec (ws := Cond.code yX13_placeOf cX13_placeOf 5 (Option.some Jvm.ClassFile.FieldType.int) :: bt) B.pre w (List.mem_cons_of_mem _ h), hKs, hT, by rw [hz]; exact hb0, B.notSynchronized, B.returns⟩
  have hH : HQ E K z w s s.heap [] := ⟨hP, va_S.rf, hz⟩
  obtain ⟨hx, hb, hml, hown, hts, hKs, hT, hb0, hlocks, hret⟩ := id C
  have hl := lv_entry [.long a_0, rv E a_2, .int a_3] (n := 5) (by simp [lg_len_nil, lg_len_i, lg_len_j, lg_len_q])
  rw [lg_entry_eq]
  generalize (lg_sl [.long a_0, rv E a_2, .int a_3] ++ List.replicate (5 - (lg_sl [.long a_0, rv E a_2, .int a_3]).length) Slot.unset).toArray = ls at hl ⊢
  replace hl : lv_has ls 5 [(0, .long a_0), (2, rv E a_2), (3, .int a_3)] := by simpa only [lv_args, cat_q, cat_i, cat_j, reduceIte, Nat.reduceEqDiff, Nat.reduceAdd, Nat.zero_add] using hl
  generalize s.heap = H at hH ⊢
  unfold f_X13_placeOf at hf
  refine lv_iconst (v := 0) hx hb dX13_placeOf_0 (by decide) ?_
  refine lv_istore (lv' := [(4, .int 0), (0, .long a_0), (2, rv E a_2), (3, .int a_3)]) hx hb dX13_placeOf_1 hl (by decide) rfl (fun ls hl => ?_)
  refine l_X13_placeOf_L3  C _ (fun v0_3 v2_3 v3_3 v4_3 w1 H locs ls hH hl hf => ?_) fu a_0 a_2 a_3 0 w _ _ _ hH (lv_sub hl [1, 2, 3, 0] rfl) hf
  refine lv_iconst (v := (-1)) hx hb dX13_placeOf_27 (by decide) ?_
  exact hw_iret hx hb hret hf hH hlocks dX13_placeOf_28

theorem dX13_needsName_0 : decode cX13_needsName 0 = .ok (.aload_n 0, 1) := by decide +kernel
theorem dX13_needsName_1 : decode cX13_needsName 1 = .ok (.aload_n 0, 1) := by decide +kernel
theorem dX13_needsName_2 : decode cX13_needsName 2 = .ok (.getfield 346, 3) := by decide +kernel
theorem dX13_needsName_5 : decode cX13_needsName 5 = .ok (.iconst 1, 1) := by decide +kernel
theorem dX13_needsName_6 : decode cX13_needsName 6 = .ok (.if_icmp .ne 29, 3) := by decide +kernel
theorem dX13_needsName_9 : decode cX13_needsName 9 = .ok (.aload_n 0, 1) := by decide +kernel
theorem dX13_needsName_10 : decode cX13_needsName 10 = .ok (.getfield 356, 3) := by decide +kernel
theorem dX13_needsName_13 : decode cX13_needsName 13 = .ok (.iconst (-1), 1) := by decide +kernel
theorem dX13_needsName_14 : decode cX13_needsName 14 = .ok (.if_icmp .ne 21, 3) := by decide +kernel
theorem dX13_needsName_17 : decode cX13_needsName 17 = .ok (.aload_n 0, 1) := by decide +kernel
theorem dX13_needsName_18 : decode cX13_needsName 18 = .ok (.getfield 337, 3) := by decide +kernel
theorem dX13_needsName_21 : decode cX13_needsName 21 = .ok (.aload_n 0, 1) := by decide +kernel
theorem dX13_needsName_22 : decode cX13_needsName 22 = .ok (.getfield 343, 3) := by decide +kernel
theorem dX13_needsName_25 : decode cX13_needsName 25 = .ok (.isub, 1) := by decide +kernel
theorem dX13_needsName_26 : decode cX13_needsName 26 = .ok (.bipush 8, 2) := by decide +kernel
theorem dX13_needsName_28 : decode cX13_needsName 28 = .ok (.if_icmp .gt 7, 3) := by decide +kernel
theorem dX13_needsName_31 : decode cX13_needsName 31 = .ok (.iconst 1, 1) := by decide +kernel
theorem dX13_needsName_32 : decode cX13_needsName 32 = .ok (.goto 4, 3) := by decide +kernel
theorem dX13_needsName_35 : decode cX13_needsName 35 = .ok (.iconst 0, 1) := by decide +kernel
theorem dX13_needsName_36 : decode cX13_needsName 36 = .ok (.iconst 1, 1) := by decide +kernel
theorem dX13_needsName_37 : decode cX13_needsName 37 = .ok (.invokevirtual 392, 3) := by decide +kernel
theorem dX13_needsName_40 : decode cX13_needsName 40 = .ok (.return_, 1) := by decide +kernel
theorem hd_X13_needsName : yX13_needsName.cls = RX13 ∧ yX13_needsName.cls ≠ "java/lang/invoke/MethodHandle" ∧ yX13_needsName.cls ≠ "java/lang/invoke/VarHandle" ∧ (parseMethodDescriptor yX13_needsName.desc).map (fun d => d.parameters.length) = some 0 := by decide +kernel
theorem hs_X13_needsName : yX13_needsName.cls ≠ "java/lang/invoke/MethodHandle" ∧ yX13_needsName.cls ≠ "java/lang/invoke/VarHandle" ∧ (parseMethodDescriptor yX13_needsName.desc).map (fun d => d.parameters.length) = some 0 := by decide +kernel
set_option maxHeartbeats 4000000 in
set_option maxRecDepth 100000 in
theorem k_X13_needsName (l : Launch) (E : Ev) (K : Kd) (z : Nat) (o : Nat) (w : Wd) (ho : K o = some (11, 0)) {w' : Wd} (hf : f_X13_needsName K o w = some w') : Met l yX13_needsName (Cond.code yX13_needsName cX13_needsName 1 (Option.none : Option Jvm.ClassFile.FieldType) :: bt) ({ frames := 1, cells := 0, slots := 0, locals := 22 } : Room) (va_Pc [rv E (some o)] (HB E K w z)) (QV E K z w') 0 0 (hA E) := by
  refine Met.ofW (cc := cX13_needsName) (maxL := 1) (ret := (Option.none : Option Jvm.ClassFile.FieldType)) (by decide) rfl ?_
  intro p e s m args below meth c s₁ B hml hv
  obtain ⟨rfl, hz, hP, hKs, hT, hb0⟩ := hv
  have C : CX p l e s m _ meth c cX13_needsName 1 RX13 (Option.none : Option Jvm.ClassFile.FieldType) E := ⟨B.exec, B.bytes, hml, findClass_of_methodNamed B.named, fun w h => atoms_spec (ws := Cond.code yX13_needsName cX13_needsName 1 (Option.none : Option Jvm.ClassFile.FieldType) :: bt) B.pre w (List.mem_cons_of_mem _ h), hKs, hT, by rw [hz]; exact hb0, B.notSynchronized, B.returns⟩
  have hH : HQ E K z w s s.heap [] := ⟨hP, va_S.rf, hz⟩
  obtain ⟨hx, hb, hml, hown, hts, hKs, hT, hb0, hlocks, hret⟩ := id C
  have hl := lv_entry [rv E (some o)] (n := 1) (by simp [lg_len_nil, lg_len_i, lg_len_j, lg_len_q])
  rw [lg_entry_eq]
  generalize (lg_sl [rv E (some o)] ++ List.replicate (1 - (lg_sl [rv E (some o)]).length) Slot.unset).toArray = ls at hl ⊢
  replace hl : lv_has ls 1 [(0, rv E (some o))] := by simpa only [lv_args, cat_q, cat_i, cat_j, reduceIte, Nat.reduceEqDiff, Nat.reduceAdd, Nat.zero_add] using hl
  generalize s.heap = H at hH ⊢
  unfold f_X13_needsName at hf
  refine hl_aload_n hx hb dX13_needsName_0 rfl (lv_at hl 0 rfl) ?_
  refine hl_aload_n hx hb dX13_needsName_1 rfl (lv_at hl 0 rfl) ?_
  refine g13_28 hx hb hts hown hKs hH rfl ho m6_210 dX13_needsName_2 ?_
  refine lv_iconst (v := 1) hx hb dX13_needsName_5 (by decide) ?_
  refine lv_icmp_ne (tgt := 35) hx hb dX13_needsName_6 (by decide) (fun c1 => ?_) (fun c1 => ?_)
  · replace hf := (if_neg c1).symm.trans hf
    refine lv_iconst (v := 0) hx hb dX13_needsName_35 (by decide) ?_
    refine lv_iconst (v := 1) hx hb dX13_needsName_36 (by decide) ?_
    obtain ⟨q2, hq2, hf⟩ := bnd hf
    refine hcV_v hx hb hml hown hts hKs hT hb0 hH (As := [.int 0, .int 1]) (rest := []) (k_X13_needs l E K H.size o false 1 w ho hq2) (gV m9_67 m9_69 ms_110 m1_16 m9_70) hd_X13_needs ⟨Nat.le_of_ble_eq_true rfl, Nat.le_of_ble_eq_true rfl, rfl, rfl⟩ rfl ho rfl rfl rfl hl.1 rfl rc0 rfl dX13_needsName_37 ⟨Nat.zero_le _, Nat.zero_le _⟩ (fun H locs hH => ?_)
    exact hw_vret hx hb hret hf hH hlocks dX13_needsName_40
  · replace hf := (if_pos c1).symm.trans hf
    refine hl_aload_n hx hb dX13_needsName_9 rfl (lv_at hl 0 rfl) ?_
    refine g13_29 hx hb hts hown hKs hH rfl ho m6_211 dX13_needsName_10 ?_
    refine lv_iconst (v := (-1)) hx hb dX13_needsName_13 (by decide) ?_
    refine lv_icmp_ne (tgt := 35) hx hb dX13_needsName_14 (by decide) (fun c3 => ?_) (fun c3 => ?_)
    · replace hf := (if_neg c3).symm.trans hf
      refine lv_iconst (v := 0) hx hb dX13_needsName_35 (by decide) ?_
      refine lv_iconst (v := 1) hx hb dX13_needsName_36 (by decide) ?_
      obtain ⟨q4, hq4, hf⟩ := bnd hf
      refine hcV_v hx hb hml hown hts hKs hT hb0 hH (As := [.int 0, .int 1]) (rest := []) (k_X13_needs l E K H.size o false 1 w ho hq4) (gV m9_67 m9_69 ms_110 m1_16 m9_70) hd_X13_needs ⟨Nat.le_of_ble_eq_true rfl, Nat.le_of_ble_eq_true rfl, rfl, rfl⟩ rfl ho rfl rfl rfl hl.1 rfl rc0 rfl dX13_needsName_37 ⟨Nat.zero_le _, Nat.zero_le _⟩ (fun H locs hH => ?_)
      exact hw_vret hx hb hret hf hH hlocks dX13_needsName_40
    · replace hf := (if_pos c3).symm.trans hf
      refine hl_aload_n hx hb dX13_needsName_17 rfl (lv_at hl 0 rfl) ?_
      refine g13_26 hx hb hts hown hKs hH rfl ho m6_208 dX13_needsName_18 ?_
      refine hl_aload_n hx hb dX13_needsName_21 rfl (lv_at hl 0 rfl) ?_
      refine g13_27 hx hb hts hown hKs hH rfl ho m6_209 dX13_needsName_22 ?_
      refine lv_isub hx hb dX13_needsName_25 ?_
      refine lv_bipush (v := 8) hx hb dX13_needsName_26 (by decide) ?_
      refine lv_icmp_gt (tgt := 35) hx hb dX13_needsName_28 (by decide) (fun c5 => ?_) (fun c5 => ?_)
      · replace hf := (if_pos c5).symm.trans hf
        refine lv_iconst (v := 0) hx hb dX13_needsName_35 (by decide) ?_
        refine lv_iconst (v := 1) hx hb dX13_needsName_36 (by decide) ?_
        obtain ⟨q6, hq6, hf⟩ := bnd hf
        refine hcV_v hx hb hml hown hts hKs hT hb0 hH (As := [.int 0, .int 1]) (rest := []) (k_X13_needs l E K H.size o false 1 w ho hq6) (gV m9_67 m9_69 ms_110 m1_16 m9_70) hd_X13_needs ⟨Nat.le_of_ble_eq_true rfl, Nat.le_of_ble_eq_true rfl, rfl, rfl⟩ rfl ho rfl rfl rfl hl.1 rfl rc0 rfl dX13_needsName_37 ⟨Nat.zero_le _, Nat.zero_le _⟩ (fun H locs hH => ?_)
        exact hw_vret hx hb hret hf hH hlocks dX13_needsName_40
      · replace hf := (if_neg c5).symm.trans hf
        refine lv_iconst (v := 1) hx hb dX13_needsName_31 (by decide) ?_
        refine lv_goto (tgt := 36) hx hb dX13_needsName_32 (by decide) ?_
        refine lv_iconst (v := 1) hx hb dX13_needsName_36 (by decide) ?_
        obtain ⟨q7, hq7, hf⟩ := bnd hf
        refine hcV_v hx hb hml hown hts hKs hT hb0 hH (As := [.int 1, .int 1]) (rest := []) (k_X13_needs l E K H.size o true 1 w ho hq7) (gV m9_67 m9_69 ms_110 m1_16 m9_70) hd_X13_needs ⟨Nat.le_of_ble_eq_true rfl, Nat.le_of_ble_eq_true rfl, rfl, rfl⟩ rfl ho rfl rfl rfl hl.1 rfl rc0 rfl dX13_needsName_37 ⟨Nat.zero_le _, Nat.zero_le _⟩ (fun H locs hH => ?_)
        exact hw_vret hx hb hret hf hH hlocks dX13_needsName_40

theorem dX13_known_0 : decode cX13_known 0 = .ok (.aload_n 0, 1) := by decide +kernel
theorem dX13_known_1 : decode cX13_known 1 = .ok (.invokevirtual 412, 3) := by decide +kernel
theorem dX13_known_4 : decode cX13_known 4 = .ok (.aload_n 0, 1) := by decide +kernel
theorem dX13_known_5 : decode cX13_known 5 = .ok (.invokevirtual 379, 3) := by decide +kernel
theorem dX13_known_8 : decode cX13_known 8 = .ok (.ifCond .ne 5, 3) := by decide +kernel
theorem dX13_known_11 : decode cX13_known 11 = .ok (.iconst 0, 1) := by decide +kernel
theorem dX13_known_12 : decode cX13_known 12 = .ok (.ireturn, 1) := by decide +kernel
theorem dX13_known_13 : decode cX13_known 13 = .ok (.aload_n 0, 1) := by decide +kernel
theorem dX13_known_14 : decode cX13_known 14 = .ok (.invokevirtual 415, 3) := by decide +kernel
theorem dX13_known_17 : decode cX13_known 17 = .ok (.aload_n 1, 1) := by decide +kernel
theorem dX13_known_18 : decode cX13_known 18 = .ok (.iload_n 2, 1) := by decide +kernel
theorem dX13_known_19 : decode cX13_known 19 = .ok (.invokestatic 419, 3) := by decide +kernel
theorem dX13_known_22 : decode cX13_known 22 = .ok (.istore_n 3, 1) := by decide +kernel
theorem dX13_known_23 : decode cX13_known 23 = .ok (.aload_n 0, 1) := by decide +kernel
theorem dX13_known_24 : decode cX13_known 24 = .ok (.iload_n 3, 1) := by decide +kernel
theorem dX13_known_25 : decode cX13_known 25 = .ok (.iconst (-1), 1) := by decide +kernel
theorem dX13_known_26 : decode cX13_known 26 = .ok (.if_icmp .eq 7, 3) := by decide +kernel
theorem dX13_known_29 : decode cX13_known 29 = .ok (.iconst 1, 1) := by decide +kernel
theorem dX13_known_30 : decode cX13_known 30 = .ok (.goto 4, 3) := by decide +kernel
theorem dX13_known_33 : decode cX13_known 33 = .ok (.iconst 0, 1) := by decide +kernel
theorem dX13_known_34 : decode cX13_known 34 = .ok (.iconst 3, 1) := by decide +kernel
theorem dX13_known_35 : decode cX13_known 35 = .ok (.invokevirtual 392, 3) := by decide +kernel
theorem dX13_known_38 : decode cX13_known 38 = .ok (.iload_n 3, 1) := by decide +kernel
theorem dX13_known_39 : decode cX13_known 39 = .ok (.ireturn, 1) := by decide +kernel
theorem hd_X13_known : yX13_known.cls = RX13 ∧ yX13_known.cls ≠ "java/lang/invoke/MethodHandle" ∧ yX13_known.cls ≠ "java/lang/invoke/VarHandle" ∧ (parseMethodDescriptor yX13_known.desc).map (fun d => d.parameters.length) = some 2 := by decide +kernel
theorem hs_X13_known : yX13_known.cls ≠ "java/lang/invoke/MethodHandle" ∧ yX13_known.cls ≠ "java/lang/invoke/VarHandle" ∧ (parseMethodDescriptor yX13_known.desc).map (fun d => d.parameters.length) = some 2 := by decide +kernel
set_option maxHeartbeats 4000000 in
set_option maxRecDepth 100000 in
theorem k_X13_known (l : Launch) (E : Ev) (K : Kd) (z : Nat) (o : Nat) (a_1 : Option Nat) (a_2 : Int32) (w : Wd) (ho : K o = some (11, 0)) {r : Int32} {w' : Wd} (hf : f_X13_known K o a_1 a_2 w = some (r, w')) : Met l yX13_known (Cond.code yX13_known cX13_known 4 (Option.some Jvm.ClassFile.FieldType.int) :: bt) ({ frames := 2, cells := 0, slots := 0, locals := 42 } : Room) (va_Pc [rv E (some o), rv E a_1, .int a_2] (HB E K w z)) (QI E K z w' r) 0 0 (hA E) := by
  refine Met.ofW (cc := cX13_known) (maxL := 4) (ret := (Option.some Jvm.ClassFile.FieldType.int)) (by decide) rfl ?_
  intro p e s m args below meth c s₁ B hml hv
  obtain ⟨rfl, hz, hP, hKs, hT, hb0⟩ := hv
  have C : CX p l e s m _ meth c cX13_known 4 RX13 (Option.some Jvm.ClassFile.FieldType.int) E := ⟨B.exec, B.bytes, hml, findClass_of_methodNamed B.named, fun w h => atoms_spec (ws := Cond.code yX13_known cX13_known 4 (Option.some Jvm.ClassFile.FieldType.int) :: bt) B.pre w (List.mem_cons_of_mem _ h), hKs, hT, by rw [hz]; exact hb0, B.notSynchronized, B.returns⟩
  have hH : HQ E K z w s s.heap [] := ⟨hP, va_S.rf, hz⟩
  obtain ⟨hx, hb, hml, hown, hts, hKs, hT, hb0, hlocks, hret⟩ := id C
  have hl := lv_entry [rv E (some o), rv E a_1, .int a_2] (n := 4) (by simp [lg_len_nil, lg_len_i, lg_len_j, lg_len_q])
  rw [lg_entry_eq]
  generalize (lg_sl [rv E (some o), rv E a_1, .int a_2] ++ List.replicate (4 - (lg_sl [rv E (some o), rv E a_1, .int a_2]).length) Slot.unset).toArray = ls at hl ⊢
  replace hl : lv_has ls 4 [(0, rv E (some o)), (1, rv E a_1), (2, .int a_2)] := by simpa only [lv_args, cat_q, cat_i, cat_j, reduceIte, Nat.reduceEqDiff, Nat.reduceAdd, Nat.zero_add] using hl
  generalize s.heap = H at hH ⊢
  unfold f_X13_known at hf
  refine hl_aload_n hx hb dX13_known_0 rfl (lv_at hl 0 rfl) ?_
  obtain ⟨q1, hq1, hf⟩ := bnd hf
  refine hcV_v hx hb hml hown hts hKs hT hb0 hH (As := []) (rest := []) (k_X13_needsName l E K H.size o w ho hq1) (gV m9_87 m9_89 ms_115 m1_16 m9_90) hd_X13_needsName ⟨Nat.le_of_ble_eq_true rfl, Nat.le_of_ble_eq_true rfl, rfl, rfl⟩ rfl ho rfl rfl rfl hl.1 rfl rc0 rfl dX13_known_1 ⟨Nat.zero_le _, Nat.zero_le _⟩ (fun H locs hH => ?_)
  refine hl_aload_n hx hb dX13_known_4 rfl (lv_at hl 0 rfl) ?_
  obtain ⟨q2, hq2, hf⟩ := bnd hf
  refine hcV_i hx hb hml hown hts hKs hT hb0 hH (As := []) (rest := []) (k_X13_fine l E K H.size o q1 ho hq2) (gV m9_47 m9_49 ms_105 m1_16 m9_50) hd_X13_fine ⟨Nat.le_of_ble_eq_true rfl, Nat.le_of_ble_eq_true rfl, rfl, rfl⟩ rfl ho rfl rfl rfl hl.1 rfl rc0 rfl dX13_known_5 ⟨Nat.zero_le _, Nat.zero_le _⟩ (fun H locs hH => ?_)
  refine lv_if_ne (tgt := 13) hx hb dX13_known_8 (by decide) (fun c3 => ?_) (fun c3 => ?_)
  · replace hf := (if_neg c3).symm.trans hf
    refine hl_aload_n hx hb dX13_known_13 rfl (lv_at hl 0 rfl) ?_
    obtain ⟨q4, hq4, hf⟩ := bnd hf
    refine hcV_l hx hb hml hown hts hKs hT hb0 hH (As := []) (rest := []) (k_X13_nameHere l E K H.size o q2.2 ho hq4) (gV m9_91 m9_93 ms_116 m1_16 m9_94) hd_X13_nameHere ⟨Nat.le_of_ble_eq_true rfl, Nat.le_of_ble_eq_true rfl, rfl, rfl⟩ rfl ho rfl rfl rfl hl.1 rfl rc0 rfl dX13_known_14 ⟨Nat.zero_le _, Nat.zero_le _⟩ (fun H locs hH => ?_)
    refine hl_aload_n hx hb dX13_known_17 rfl (lv_at hl 1 rfl) ?_
    refine lv_iload_n hx hb dX13_known_18 rfl (lv_at hl 2 rfl) ?_
    obtain ⟨q5, hq5, hf⟩ := bnd hf
    refine hcS_i hx hb hml hown hts hKs hT hb0 hH (As := [.long q4.1, rv E a_1, .int a_2]) (rest := []) (k_X13_placeOf l E K H.size q4.1 a_1 a_2 q4.2 hq5) (gS m9_97 m9_98 m1_16 m9_99) hs_X13_placeOf ⟨Nat.le_of_ble_eq_true rfl, Nat.le_of_ble_eq_true rfl, rfl, rfl⟩ hl.1 rfl rc0 rfl dX13_known_19 ⟨Nat.zero_le _, Nat.zero_le _⟩ (fun H locs hH => ?_)
    refine lv_istore_n (lv' := [(3, .int (q5.1)), (0, rv E (some o)), (1, rv E a_1), (2, .int a_2)]) hx hb dX13_known_22 rfl hl (by decide) rfl (fun ls hl => ?_)
    refine hl_aload_n hx hb dX13_known_23 rfl (lv_at hl 1 rfl) ?_
    refine lv_iload_n hx hb dX13_known_24 rfl (lv_at hl 0 rfl) ?_
    refine lv_iconst (v := (-1)) hx hb dX13_known_25 (by decide) ?_
    refine lv_icmp_eq (tgt := 33) hx hb dX13_known_26 (by decide) (fun c6 => ?_) (fun c6 => ?_)
    · replace hf := (if_pos c6).symm.trans hf
      refine lv_iconst (v := 0) hx hb dX13_known_33 (by decide) ?_
      refine lv_iconst (v := 3) hx hb dX13_known_34 (by decide) ?_
      obtain ⟨q7, hq7, hf⟩ := bnd hf
      refine hcV_v hx hb hml hown hts hKs hT hb0 hH (As := [.int 0, .int 3]) (rest := []) (k_X13_needs l E K H.size o false 3 q5.2 ho hq7) (gV m9_67 m9_69 ms_110 m1_16 m9_70) hd_X13_needs ⟨Nat.le_of_ble_eq_true rfl, Nat.le_of_ble_eq_true rfl, rfl, rfl⟩ rfl ho rfl rfl rfl hl.1 rfl rc0 rfl dX13_known_35 ⟨Nat.zero_le _, Nat.zero_le _⟩ (fun H locs hH => ?_)
      refine lv_iload_n hx hb dX13_known_38 rfl (lv_at hl 0 rfl) ?_
      exact hw_iret hx hb hret hf hH hlocks dX13_known_39
    · replace hf := (if_neg c6).symm.trans hf
      refine lv_iconst (v := 1) hx hb dX13_known_29 (by decide) ?_
      refine lv_goto (tgt := 34) hx hb dX13_known_30 (by decide) ?_
      refine lv_iconst (v := 3) hx hb dX13_known_34 (by decide) ?_
      obtain ⟨q8, hq8, hf⟩ := bnd hf
      refine hcV_v hx hb hml hown hts hKs hT hb0 hH (As := [.int 1, .int 3]) (rest := []) (k_X13_needs l E K H.size o true 3 q5.2 ho hq8) (gV m9_67 m9_69 ms_110 m1_16 m9_70) hd_X13_needs ⟨Nat.le_of_ble_eq_true rfl, Nat.le_of_ble_eq_true rfl, rfl, rfl⟩ rfl ho rfl rfl rfl hl.1 rfl rc0 rfl dX13_known_35 ⟨Nat.zero_le _, Nat.zero_le _⟩ (fun H locs hH => ?_)
      refine lv_iload_n hx hb dX13_known_38 rfl (lv_at hl 0 rfl) ?_
      exact hw_iret hx hb hret hf hH hlocks dX13_known_39
  · replace hf := (if_pos c3).symm.trans hf
    refine lv_iconst (v := 0) hx hb dX13_known_11 (by decide) ?_
    exact hw_iret hx hb hret hf hH hlocks dX13_known_12

theorem dX13_errorCode_0 : decode cX13_errorCode 0 = .ok (.aload_n 0, 1) := by decide +kernel
theorem dX13_errorCode_1 : decode cX13_errorCode 1 = .ok (.iconst 0, 1) := by decide +kernel
theorem dX13_errorCode_2 : decode cX13_errorCode 2 = .ok (.putfield 104, 3) := by decide +kernel
theorem dX13_errorCode_5 : decode cX13_errorCode 5 = .ok (.aload_n 0, 1) := by decide +kernel
theorem dX13_errorCode_6 : decode cX13_errorCode 6 = .ok (.getfield 376, 3) := by decide +kernel
theorem dX13_errorCode_9 : decode cX13_errorCode 9 = .ok (.ireturn, 1) := by decide +kernel
theorem hd_X13_errorCode : yX13_errorCode.cls = RX13 ∧ yX13_errorCode.cls ≠ "java/lang/invoke/MethodHandle" ∧ yX13_errorCode.cls ≠ "java/lang/invoke/VarHandle" ∧ (parseMethodDescriptor yX13_errorCode.desc).map (fun d => d.parameters.length) = some 0 := by decide +kernel
theorem hs_X13_errorCode : yX13_errorCode.cls ≠ "java/lang/invoke/MethodHandle" ∧ yX13_errorCode.cls ≠ "java/lang/invoke/VarHandle" ∧ (parseMethodDescriptor yX13_errorCode.desc).map (fun d => d.parameters.length) = some 0 := by decide +kernel
set_option maxHeartbeats 4000000 in
set_option maxRecDepth 100000 in
theorem k_X13_errorCode (l : Launch) (E : Ev) (K : Kd) (z : Nat) (o : Nat) (w : Wd) (ho : K o = some (11, 0)) {r : Int32} {w' : Wd} (hf : f_X13_errorCode K o w = some (r, w')) : Met l yX13_errorCode (Cond.code yX13_errorCode cX13_errorCode 1 (Option.some Jvm.ClassFile.FieldType.int) :: bt) ({ frames := 0, cells := 0, slots := 0, locals := 0 } : Room) (va_Pc [rv E (some o)] (HB E K w z)) (QI E K z w' r) 0 0 (hA E) := by
  refine Met.ofW (cc := cX13_errorCode) (maxL := 1) (ret := (Option.some Jvm.ClassFile.FieldType.int)) (by decide) rfl ?_
  intro p e s m args below meth c s₁ B hml hv
  obtain ⟨rfl, hz, hP, hKs, hT, hb0⟩ := hv
  have C : CX p l e s m _ meth c cX13_errorCode 1 RX13 (Option.some Jvm.ClassFile.FieldType.int) E := ⟨B.exec, B.bytes, hml, findClass_of_methodNamed B.named, fun w h => atoms_spec (ws := Cond.code yX13_errorCode cX13_errorCode 1 (Option.some Jvm.ClassFile.FieldType.int) :: bt) B.pre w (List.mem_cons_of_mem _ h), hKs, hT, by rw [hz]; exact hb0, B.notSynchronized, B.returns⟩
  have hH : HQ E K z w s s.heap [] := ⟨hP, va_S.rf, hz⟩
  obtain ⟨hx, hb, hml, hown, hts, hKs, hT, hb0, hlocks, hret⟩ := id C
  have hl := lv_entry [rv E (some o)] (n := 1) (by simp [lg_len_nil, lg_len_i, lg_len_j, lg_len_q])
  rw [lg_entry_eq]
  generalize (lg_sl [rv E (some o)] ++ List.replicate (1 - (lg_sl [rv E (some o)]).length) Slot.unset).toArray = ls at hl ⊢
  replace hl : lv_has ls 1 [(0, rv E (some o))] := by simpa only [lv_args, cat_q, cat_i, cat_j, reduceIte, Nat.reduceEqDiff, Nat.reduceAdd, Nat.zero_add] using hl
  generalize s.heap = H at hH ⊢
  unfold f_X13_errorCode at hf
  refine hl_aload_n hx hb dX13_errorCode_0 rfl (lv_at hl 0 rfl) ?_
  refine lv_iconst (v := 0) hx hb dX13_errorCode_1 (by decide) ?_
  obtain ⟨w1, hw1, hf⟩ := bnd hf
  replace hw1 := Option.some.inj hw1
  refine p13_0 (v := 0) hx hb hts hown hKs hH rfl ho m6_182 dX13_errorCode_2 (fun H locs hH => ?_)
  rw [hw1] at hH
  refine hl_aload_n hx hb dX13_errorCode_5 rfl (lv_at hl 0 rfl) ?_
  refine g13_31 hx hb hts hown hKs hH rfl ho m6_213 dX13_errorCode_6 ?_
  exact hw_iret hx hb hret hf hH hlocks dX13_errorCode_9

theorem dX13_errorOffset_0 : decode cX13_errorOffset 0 = .ok (.aload_n 0, 1) := by decide +kernel
theorem dX13_errorOffset_1 : decode cX13_errorOffset 1 = .ok (.iconst 0, 1) := by decide +kernel
theorem dX13_errorOffset_2 : decode cX13_errorOffset 2 = .ok (.putfield 104, 3) := by decide +kernel
theorem dX13_errorOffset_5 : decode cX13_errorOffset 5 = .ok (.aload_n 0, 1) := by decide +kernel
theorem dX13_errorOffset_6 : decode cX13_errorOffset 6 = .ok (.getfield 65, 3) := by decide +kernel
theorem dX13_errorOffset_9 : decode cX13_errorOffset 9 = .ok (.ireturn, 1) := by decide +kernel
theorem hd_X13_errorOffset : yX13_errorOffset.cls = RX13 ∧ yX13_errorOffset.cls ≠ "java/lang/invoke/MethodHandle" ∧ yX13_errorOffset.cls ≠ "java/lang/invoke/VarHandle" ∧ (parseMethodDescriptor yX13_errorOffset.desc).map (fun d => d.parameters.length) = some 0 := by decide +kernel
theorem hs_X13_errorOffset : yX13_errorOffset.cls ≠ "java/lang/invoke/MethodHandle" ∧ yX13_errorOffset.cls ≠ "java/lang/invoke/VarHandle" ∧ (parseMethodDescriptor yX13_errorOffset.desc).map (fun d => d.parameters.length) = some 0 := by decide +kernel
set_option maxHeartbeats 4000000 in
set_option maxRecDepth 100000 in
theorem k_X13_errorOffset (l : Launch) (E : Ev) (K : Kd) (z : Nat) (o : Nat) (w : Wd) (ho : K o = some (11, 0)) {r : Int32} {w' : Wd} (hf : f_X13_errorOffset K o w = some (r, w')) : Met l yX13_errorOffset (Cond.code yX13_errorOffset cX13_errorOffset 1 (Option.some Jvm.ClassFile.FieldType.int) :: bt) ({ frames := 0, cells := 0, slots := 0, locals := 0 } : Room) (va_Pc [rv E (some o)] (HB E K w z)) (QI E K z w' r) 0 0 (hA E) := by
  refine Met.ofW (cc := cX13_errorOffset) (maxL := 1) (ret := (Option.some Jvm.ClassFile.FieldType.int)) (by decide) rfl ?_
  intro p e s m args below meth c s₁ B hml hv
  obtain ⟨rfl, hz, hP, hKs, hT, hb0⟩ := hv
  have C : CX p l e s m _ meth c cX13_errorOffset 1 RX13 (Option.some Jvm.ClassFile.FieldType.int) E := ⟨B.exec, B.bytes, hml, findClass_of_methodNamed B.named, fun w h => atoms_spec (ws := Cond.code yX13_errorOffset cX13_errorOffset 1 (Option.some Jvm.ClassFile.FieldType.int) :: bt) B.pre w (List.mem_cons_of_mem _ h), hKs, hT, by rw [hz]; exact hb0, B.notSynchronized, B.returns⟩
  have hH : HQ E K z w s s.heap [] := ⟨hP, va_S.rf, hz⟩
  obtain ⟨hx, hb, hml, hown, hts, hKs, hT, hb0, hlocks, hret⟩ := id C
  have hl := lv_entry [rv E (some o)] (n := 1) (by simp [lg_len_nil, lg_len_i, lg_len_j, lg_len_q])
  rw [lg_entry_eq]
  generalize (lg_sl [rv E (some o)] ++ List.replicate (1 - (lg_sl [rv E (some o)]).length) Slot.unset).toArray = ls at hl ⊢
  replace hl : lv_has ls 1 [(0, rv E (some o))] := by simpa only [lv_args, cat_q, cat_i, cat_j, reduceIte, Nat.reduceEqDiff, Nat.reduceAdd, Nat.zero_add] using hl
  generalize s.heap = H at hH ⊢
  unfold f_X13_errorOffset at hf
  refine hl_aload_n hx hb dX13_errorOffset_0 rfl (lv_at hl 0 rfl) ?_
  refine lv_iconst (v := 0) hx hb dX13_errorOffset_1 (by decide) ?_
  obtain ⟨w1, hw1, hf⟩ := bnd hf
  replace hw1 := Option.some.inj hw1
  refine p13_0 (v := 0) hx hb hts hown hKs hH rfl ho m6_182 dX13_errorOffset_2 (fun H locs hH => ?_)
  rw [hw1] at hH
  refine hl_aload_n hx hb dX13_errorOffset_5 rfl (lv_at hl 0 rfl) ?_
  refine g13_32 hx hb hts hown hKs hH rfl ho m6_214 dX13_errorOffset_6 ?_
  exact hw_iret hx hb hret hf hH hlocks dX13_errorOffset_9

theorem dX13_says_0 : decode cX13_says 0 = .ok (.aload_n 0, 1) := by decide +kernel
theorem dX13_says_1 : decode cX13_says 1 = .ok (.getfield 80, 3) := by decide +kernel
theorem dX13_says_4 : decode cX13_says 4 = .ok (.aload_n 0, 1) := by decide +kernel
theorem dX13_says_5 : decode cX13_says 5 = .ok (.getfield 477, 3) := by decide +kernel
theorem dX13_says_8 : decode cX13_says 8 = .ok (.iload_n 1, 1) := by decide +kernel
theorem dX13_says_9 : decode cX13_says 9 = .ok (.i2b, 1) := by decide +kernel
theorem dX13_says_10 : decode cX13_says 10 = .ok (.bastore, 1) := by decide +kernel
theorem dX13_says_11 : decode cX13_says 11 = .ok (.aload_n 0, 1) := by decide +kernel
theorem dX13_says_12 : decode cX13_says 12 = .ok (.aload_n 0, 1) := by decide +kernel
theorem dX13_says_13 : decode cX13_says 13 = .ok (.getfield 477, 3) := by decide +kernel
theorem dX13_says_16 : decode cX13_says 16 = .ok (.iconst 1, 1) := by decide +kernel
theorem dX13_says_17 : decode cX13_says 17 = .ok (.iadd, 1) := by decide +kernel
theorem dX13_says_18 : decode cX13_says 18 = .ok (.putfield 477, 3) := by decide +kernel
theorem dX13_says_21 : decode cX13_says 21 = .ok (.return_, 1) := by decide +kernel
theorem hd_X13_says : yX13_says.cls = RX13 ∧ yX13_says.cls ≠ "java/lang/invoke/MethodHandle" ∧ yX13_says.cls ≠ "java/lang/invoke/VarHandle" ∧ (parseMethodDescriptor yX13_says.desc).map (fun d => d.parameters.length) = some 1 := by decide +kernel
theorem hs_X13_says : yX13_says.cls ≠ "java/lang/invoke/MethodHandle" ∧ yX13_says.cls ≠ "java/lang/invoke/VarHandle" ∧ (parseMethodDescriptor yX13_says.desc).map (fun d => d.parameters.length) = some 1 := by decide +kernel
set_option maxHeartbeats 4000000 in
set_option maxRecDepth 100000 in
theorem k_X13_says (l : Launch) (E : Ev) (K : Kd) (z : Nat) (o : Nat) (a_1 : Int32) (w : Wd) (ho : K o = some (11, 0)) {w' : Wd} (hf : f_X13_says K o a_1 w = some w') : Met l yX13_says (Cond.code yX13_says cX13_says 2 (Option.none : Option Jvm.ClassFile.FieldType) :: bt) ({ frames := 0, cells := 0, slots := 0, locals := 0 } : Room) (va_Pc [rv E (some o), .int a_1] (HB E K w z)) (QV E K z w') 0 0 (hA E) := by
  refine Met.ofW (cc := cX13_says) (maxL := 2) (ret := (Option.none : Option Jvm.ClassFile.FieldType)) (by decide) rfl ?_
  intro p e s m args below meth c s₁ B hml hv
  obtain ⟨rfl, hz, hP, hKs, hT, hb0⟩ := hv
  have C : CX p l e s m _ meth c cX13_says 2 RX13 (Option.none : Option Jvm.ClassFile.FieldType) E := ⟨B.exec, B.bytes, hml, findClass_of_methodNamed B.named, fun w h => atoms_spec (ws := Cond.code yX13_says cX13_says 2 (Option.none : Option Jvm.ClassFile.FieldType) :: bt) B.pre w (List.mem_cons_of_mem _ h), hKs, hT, by rw [hz]; exact hb0, B.notSynchronized, B.returns⟩
  have hH : HQ E K z w s s.heap [] := ⟨hP, va_S.rf, hz⟩
  obtain ⟨hx, hb, hml, hown, hts, hKs, hT, hb0, hlocks, hret⟩ := id C
  have hl := lv_entry [rv E (some o), .int a_1] (n := 2) (by simp [lg_len_nil, lg_len_i, lg_len_j, lg_len_q])
  rw [lg_entry_eq]
  generalize (lg_sl [rv E (some o), .int a_1] ++ List.replicate (2 - (lg_sl [rv E (some o), .int a_1]).length) Slot.unset).toArray = ls at hl ⊢
  replace hl : lv_has ls 2 [(0, rv E (some o)), (1, .int a_1)] := by simpa only [lv_args, cat_q, cat_i, cat_j, reduceIte, Nat.reduceEqDiff, Nat.reduceAdd, Nat.zero_add] using hl
  generalize s.heap = H at hH ⊢
  unfold f_X13_says at hf
  refine hl_aload_n hx hb dX13_says_0 rfl (lv_at hl 0 rfl) ?_
  refine g13_37 hx hb hts hown hKs hH rfl ho m6_219 dX13_says_1 ?_
  refine hl_aload_n hx hb dX13_says_4 rfl (lv_at hl 0 rfl) ?_
  refine g13_38 hx hb hts hown hKs hH rfl ho m6_220 dX13_says_5 ?_
  refine lv_iload_n hx hb dX13_says_8 rfl (lv_at hl 1 rfl) ?_
  refine lv_i2b (v := (a_1.toInt8.toInt32)) hx hb dX13_says_9 rfl ?_
  obtain ⟨a1, ha1, hf⟩ := bnd hf
  replace ha1 := cha_some ha1
  obtain ⟨j2, hj2, hf⟩ := bnd hf
  obtain ⟨w3, hw3, hf⟩ := bnd hf
  replace hw3 := Option.some.inj hw3
  refine hw_bast (x := (a_1.toInt8.toInt32)) hx hb hKs hH ha1.1 ha1.2 hj2 dX13_says_10 (fun H locs hH => ?_)
  rw [hw3] at hH
  refine hl_aload_n hx hb dX13_says_11 rfl (lv_at hl 0 rfl) ?_
  refine hl_aload_n hx hb dX13_says_12 rfl (lv_at hl 0 rfl) ?_
  refine g13_38 hx hb hts hown hKs hH rfl ho m6_220 dX13_says_13 ?_
  refine lv_iconst (v := 1) hx hb dX13_says_16 (by decide) ?_
  refine lv_iadd hx hb dX13_says_17 ?_
  obtain ⟨w4, hw4, hf⟩ := bnd hf
  replace hw4 := Option.some.inj hw4
  refine p13_38 (v := ((wI w3 1338 o) + 1)) hx hb hts hown hKs hH rfl ho m6_220 dX13_says_18 (fun H locs hH => ?_)
  rw [hw4] at hH
  exact hw_vret hx hb hret hf hH hlocks dX13_says_21

theorem dX13_outputByte_0 : decode cX13_outputByte 0 = .ok (.aload_n 0, 1) := by decide +kernel
theorem dX13_outputByte_1 : decode cX13_outputByte 1 = .ok (.iconst 0, 1) := by decide +kernel
theorem dX13_outputByte_2 : decode cX13_outputByte 2 = .ok (.putfield 104, 3) := by decide +kernel
theorem dX13_outputByte_5 : decode cX13_outputByte 5 = .ok (.iload_n 1, 1) := by decide +kernel
theorem dX13_outputByte_6 : decode cX13_outputByte 6 = .ok (.i2l, 1) := by decide +kernel
theorem dX13_outputByte_7 : decode cX13_outputByte 7 = .ok (.lconst 0, 1) := by decide +kernel
theorem dX13_outputByte_8 : decode cX13_outputByte 8 = .ok (.aload_n 0, 1) := by decide +kernel
theorem dX13_outputByte_9 : decode cX13_outputByte 9 = .ok (.getfield 477, 3) := by decide +kernel
theorem dX13_outputByte_12 : decode cX13_outputByte 12 = .ok (.i2l, 1) := by decide +kernel
theorem dX13_outputByte_13 : decode cX13_outputByte 13 = .ok (.lconst 1, 1) := by decide +kernel
theorem dX13_outputByte_14 : decode cX13_outputByte 14 = .ok (.lsub, 1) := by decide +kernel
theorem dX13_outputByte_15 : decode cX13_outputByte 15 = .ok (.invokestatic 123, 3) := by decide +kernel
theorem dX13_outputByte_18 : decode cX13_outputByte 18 = .ok (.ifCond .eq 12, 3) := by decide +kernel
theorem dX13_outputByte_21 : decode cX13_outputByte 21 = .ok (.aload_n 0, 1) := by decide +kernel
theorem dX13_outputByte_22 : decode cX13_outputByte 22 = .ok (.getfield 80, 3) := by decide +kernel
theorem dX13_outputByte_25 : decode cX13_outputByte 25 = .ok (.iload_n 1, 1) := by decide +kernel
theorem dX13_outputByte_26 : decode cX13_outputByte 26 = .ok (.baload, 1) := by decide +kernel
theorem dX13_outputByte_27 : decode cX13_outputByte 27 = .ok (.goto 4, 3) := by decide +kernel
theorem dX13_outputByte_30 : decode cX13_outputByte 30 = .ok (.iconst (-1), 1) := by decide +kernel
theorem dX13_outputByte_31 : decode cX13_outputByte 31 = .ok (.ireturn, 1) := by decide +kernel
theorem hd_X13_outputByte : yX13_outputByte.cls = RX13 ∧ yX13_outputByte.cls ≠ "java/lang/invoke/MethodHandle" ∧ yX13_outputByte.cls ≠ "java/lang/invoke/VarHandle" ∧ (parseMethodDescriptor yX13_outputByte.desc).map (fun d => d.parameters.length) = some 1 := by decide +kernel
theorem hs_X13_outputByte : yX13_outputByte.cls ≠ "java/lang/invoke/MethodHandle" ∧ yX13_outputByte.cls ≠ "java/lang/invoke/VarHandle" ∧ (parseMethodDescriptor yX13_outputByte.desc).map (fun d => d.parameters.length) = some 1 := by decide +kernel
set_option maxHeartbeats 4000000 in
set_option maxRecDepth 100000 in
theorem k_X13_outputByte (l : Launch) (E : Ev) (K : Kd) (z : Nat) (o : Nat) (a_1 : Int32) (w : Wd) (ho : K o = some (11, 0)) {r : Int32} {w' : Wd} (hf : f_X13_outputByte K o a_1 w = some (r, w')) : Met l yX13_outputByte (Cond.code yX13_outputByte cX13_outputByte 2 (Option.some Jvm.ClassFile.FieldType.int) :: bt) ({ frames := 1, cells := 0, slots := 0, locals := 25 } : Room) (va_Pc [rv E (some o), .int a_1] (HB E K w z)) (QI E K z w' r) 0 0 (hA E) := by
  refine Met.ofW (cc := cX13_outputByte) (maxL := 2) (ret := (Option.some Jvm.ClassFile.FieldType.int)) (by decide) rfl ?_
  intro p e s m args below meth c s₁ B hml hv
  obtain ⟨rfl, hz, hP, hKs, hT, hb0⟩ := hv
  have C : CX p l e s m _ meth c cX13_outputByte 2 RX13 (Option.some Jvm.ClassFile.FieldType.int) E := ⟨B.exec, B.bytes, hml, findClass_of_methodNamed B.named, fun w h => atoms_spec (ws := Cond.code yX13_outputByte cX13_outputByte 2 (Option.some Jvm.ClassFile.FieldType.int) :: bt) B.pre w (List.mem_cons_of_mem _ h), hKs, hT, by rw [hz]; exact hb0, B.notSynchronized, B.returns⟩
  have hH : HQ E K z w s s.heap [] := ⟨hP, va_S.rf, hz⟩
  obtain ⟨hx, hb, hml, hown, hts, hKs, hT, hb0, hlocks, hret⟩ := id C
  have hl := lv_entry [rv E (some o), .int a_1] (n := 2) (by simp [lg_len_nil, lg_len_i, lg_len_j, lg_len_q])
  rw [lg_entry_eq]
  generalize (lg_sl [rv E (some o), .int a_1] ++ List.replicate (2 - (lg_sl [rv E (some o), .int a_1]).length) Slot.unset).toArray = ls at hl ⊢
  replace hl : lv_has ls 2 [(0, rv E (some o)), (1, .int a_1)] := by simpa only [lv_args, cat_q, cat_i, cat_j, reduceIte, Nat.reduceEqDiff, Nat.reduceAdd, Nat.zero_add] using hl
  generalize s.heap = H at hH ⊢
  unfold f_X13_outputByte at hf
  refine hl_aload_n hx hb dX13_outputByte_0 rfl (lv_at hl 0 rfl) ?_
  refine lv_iconst (v := 0) hx hb dX13_outputByte_1 (by decide) ?_
  obtain ⟨w1, hw1, hf⟩ := bnd hf
  replace hw1 := Option.some.inj hw1
  refine p13_0 (v := 0) hx hb hts hown hKs hH rfl ho m6_182 dX13_outputByte_2 (fun H locs hH => ?_)
  rw [hw1] at hH
  refine lv_iload_n hx hb dX13_outputByte_5 rfl (lv_at hl 1 rfl) ?_
  refine lv_i2l (v := (a_1.toInt64)) hx hb dX13_outputByte_6 rfl ?_
  refine lv_lconst (v := 0) hx hb dX13_outputByte_7 rfl ?_
  refine hl_aload_n hx hb dX13_outputByte_8 rfl (lv_at hl 0 rfl) ?_
  refine g13_38 hx hb hts hown hKs hH rfl ho m6_220 dX13_outputByte_9 ?_
  refine lv_i2l (v := ((wI w1 1338 o).toInt64)) hx hb dX13_outputByte_12 rfl ?_
  refine lv_lconst (v := 1) hx hb dX13_outputByte_13 rfl ?_
  refine lv_lsub hx hb dX13_outputByte_14 ?_
  obtain ⟨q2, hq2, hf⟩ := bnd hf
  refine hcS_i hx hb hml hown hts hKs hT hb0 hH (As := [.long (a_1.toInt64), .long 0, .long (((wI w1 1338 o).toInt64) - 1)]) (rest := []) (k_X13_isIn l E K H.size (a_1.toInt64) 0 (((wI w1 1338 o).toInt64) - 1) w1 hq2) (gS m7_89 m7_90 m1_16 m7_91) hs_X13_isIn ⟨Nat.le_of_ble_eq_true rfl, Nat.le_of_ble_eq_true rfl, rfl, rfl⟩ hl.1 rfl rc0 rfl dX13_outputByte_15 ⟨Nat.zero_le _, Nat.zero_le _⟩ (fun H locs hH => ?_)
  refine lv_if_eq (tgt := 30) hx hb dX13_outputByte_18 (by decide) (fun c3 => ?_) (fun c3 => ?_)
  · replace hf := (if_pos c3).symm.trans hf
    refine lv_iconst (v := (-1)) hx hb dX13_outputByte_30 (by decide) ?_
    exact hw_iret hx hb hret hf hH hlocks dX13_outputByte_31
  · replace hf := (if_neg c3).symm.trans hf
    refine hl_aload_n hx hb dX13_outputByte_21 rfl (lv_at hl 0 rfl) ?_
    refine g13_37 hx hb hts hown hKs hH rfl ho m6_219 dX13_outputByte_22 ?_
    refine lv_iload_n hx hb dX13_outputByte_25 rfl (lv_at hl 1 rfl) ?_
    obtain ⟨a4, ha4, hf⟩ := bnd hf
    replace ha4 := cha_some ha4
    obtain ⟨j5, hj5, hf⟩ := bnd hf
    refine hw_bald hx hb hKs hH ha4.1 ha4.2 hj5 dX13_outputByte_26 ?_
    refine lv_goto (tgt := 31) hx hb dX13_outputByte_27 (by decide) ?_
    exact hw_iret hx hb hret hf hH hlocks dX13_outputByte_31

theorem dX1_isSpare_0 : decode cX1_isSpare 0 = .ok (.iconst 0, 1) := by decide +kernel
theorem dX1_isSpare_1 : decode cX1_isSpare 1 = .ok (.istore 4, 2) := by decide +kernel
theorem dX1_isSpare_3 : decode cX1_isSpare 3 = .ok (.iload 4, 2) := by decide +kernel
theorem dX1_isSpare_5 : decode cX1_isSpare 5 = .ok (.iload_n 1, 1) := by decide +kernel
theorem dX1_isSpare_6 : decode cX1_isSpare 6 = .ok (.if_icmp .ge 51, 3) := by decide +kernel
theorem dX1_isSpare_9 : decode cX1_isSpare 9 = .ok (.iload_n 3, 1) := by decide +kernel
theorem dX1_isSpare_10 : decode cX1_isSpare 10 = .ok (.iload_n 1, 1) := by decide +kernel
theorem dX1_isSpare_11 : decode cX1_isSpare 11 = .ok (.invokestatic 68, 3) := by decide +kernel
theorem dX1_isSpare_14 : decode cX1_isSpare 14 = .ok (.ifCond .ne 43, 3) := by decide +kernel
theorem dX1_isSpare_17 : decode cX1_isSpare 17 = .ok (.aload_n 0, 1) := by decide +kernel
theorem dX1_isSpare_18 : decode cX1_isSpare 18 = .ok (.getfield 15, 3) := by decide +kernel
theorem dX1_isSpare_21 : decode cX1_isSpare 21 = .ok (.iload 4, 2) := by decide +kernel
theorem dX1_isSpare_23 : decode cX1_isSpare 23 = .ok (.iaload, 1) := by decide +kernel
theorem dX1_isSpare_24 : decode cX1_isSpare 24 = .ok (.aload_n 0, 1) := by decide +kernel
theorem dX1_isSpare_25 : decode cX1_isSpare 25 = .ok (.getfield 15, 3) := by decide +kernel
theorem dX1_isSpare_28 : decode cX1_isSpare 28 = .ok (.iload_n 1, 1) := by decide +kernel
theorem dX1_isSpare_29 : decode cX1_isSpare 29 = .ok (.iaload, 1) := by decide +kernel
theorem dX1_isSpare_30 : decode cX1_isSpare 30 = .ok (.ixor, 1) := by decide +kernel
theorem dX1_isSpare_31 : decode cX1_isSpare 31 = .ok (.iload_n 2, 1) := by decide +kernel
theorem dX1_isSpare_32 : decode cX1_isSpare 32 = .ok (.iand, 1) := by decide +kernel
theorem dX1_isSpare_33 : decode cX1_isSpare 33 = .ok (.istore 5, 2) := by decide +kernel
theorem dX1_isSpare_35 : decode cX1_isSpare 35 = .ok (.iload_n 3, 1) := by decide +kernel
theorem dX1_isSpare_36 : decode cX1_isSpare 36 = .ok (.iload 4, 2) := by decide +kernel
theorem dX1_isSpare_38 : decode cX1_isSpare 38 = .ok (.invokestatic 68, 3) := by decide +kernel
theorem dX1_isSpare_41 : decode cX1_isSpare 41 = .ok (.ifCond .ne 10, 3) := by decide +kernel
theorem dX1_isSpare_44 : decode cX1_isSpare 44 = .ok (.iload 5, 2) := by decide +kernel
theorem dX1_isSpare_46 : decode cX1_isSpare 46 = .ok (.ifCond .ne 5, 3) := by decide +kernel
theorem dX1_isSpare_49 : decode cX1_isSpare 49 = .ok (.iconst 1, 1) := by decide +kernel
theorem dX1_isSpare_50 : decode cX1_isSpare 50 = .ok (.ireturn, 1) := by decide +kernel
theorem dX1_isSpare_51 : decode cX1_isSpare 51 = .ok (.iinc 4 1, 3) := by decide +kernel
theorem dX1_isSpare_54 : decode cX1_isSpare 54 = .ok (.goto (-51), 3) := by decide +kernel
theorem dX1_isSpare_57 : decode cX1_isSpare 57 = .ok (.iconst 0, 1) := by decide +kernel
theorem dX1_isSpare_58 : decode cX1_isSpare 58 = .ok (.ireturn, 1) := by decide +kernel
theorem hd_X1_isSpare : yX1_isSpare.cls = RX1 ∧ yX1_isSpare.cls ≠ "java/lang/invoke/MethodHandle" ∧ yX1_isSpare.cls ≠ "java/lang/invoke/VarHandle" ∧ (parseMethodDescriptor yX1_isSpare.desc).map (fun d => d.parameters.length) = some 3 := by decide +kernel
theorem hs_X1_isSpare : yX1_isSpare.cls ≠ "java/lang/invoke/MethodHandle" ∧ yX1_isSpare.cls ≠ "java/lang/invoke/VarHandle" ∧ (parseMethodDescriptor yX1_isSpare.desc).map (fun d => d.parameters.length) = some 3 := by decide +kernel
set_option maxHeartbeats 4000000 in
set_option maxRecDepth 100000 in
theorem l_X1_isSpare_L3 (C : CX p l e s m args meth c cX1_isSpare 6 RX1 (Option.some Jvm.ClassFile.FieldType.boolean) E) {o : Nat} (ho : K o = some (0, 0)) {r : Bool} {w' : Wd} (k : Int32 → Int32 → Int32 → Int32 → Wd → Option (Bool × Wd)) (hk : ∀ (v1_3 : Int32) (v2_3 : Int32) (v3_3 : Int32) (v4_3 : Int32) (w : Wd) (H : Heap) (locs : List Loc) (ls : Array Slot), HQ E K z w s H locs → lv_has ls 6 [(1, .int v1_3), (2, .int v2_3), (3, .int v3_3), (4, .int v4_3), (0, rv E (some o))] → k v1_3 v2_3 v3_3 v4_3 w = some (r, w') → W p l e ({ frames := 1, cells := 0, slots := 0, locals := 21 } : Room) s m args below meth c H locs 0 0 (MQ below (QI E K z w' (b2i r)) args s 0 0 (hA E)) (F0 m 57 ls [])) : ∀ (n : Nat) (v1_3 : Int32) (v2_3 : Int32) (v3_3 : Int32) (v4_3 : Int32) (w : Wd) (H : Heap) (locs : List Loc) (ls : Array Slot), HQ E K z w s H locs → lv_has ls 6 [(1, .int v1_3), (2, .int v2_3), (3, .int v3_3), (4, .int v4_3), (0, rv E (some o))] → f_X1_isSpare_L3 K o k n v1_3 v2_3 v3_3 v4_3 w = some (r, w') → W p l e ({ frames := 1, cells := 0, slots := 0, locals := 21 } : Room) s m args below meth c H locs 0 0 (MQ below (QI E K z w' (b2i r)) args s 0 0 (hA E)) (F0 m 3 ls []) := by
  obtain ⟨hx, hb, hml, hown, hts, hKs, hT, hb0, hlocks, hret⟩ := id C
  intro n
  induction n with
  | zero =>
    intro v1_3 v2_3 v3_3 v4_3 w H locs ls hH hl hf
    cases hf
  | succ n ih =>
    intro v1_3 v2_3 v3_3 v4_3 w H locs ls hH hl hf
    rw [f_X1_isSpare_L3] at hf
    refine lv_iload hx hb dX1_isSpare_3 (lv_at hl 3 rfl) ?_
    refine lv_iload_n hx hb dX1_isSpare_5 rfl (lv_at hl 0 rfl) ?_
    refine lv_icmp_ge (tgt := 57) hx hb dX1_isSpare_6 (by decide) (fun c2 => ?_) (fun c2 => ?_)
    · replace hf := (if_pos c2).symm.trans hf
      exact hk v1_3 v2_3 v3_3 v4_3 _ _ _ _ hH (lv_sub hl [0, 1, 2, 3, 4] rfl) hf
    · replace hf := (if_neg c2).symm.trans hf
      refine lv_iload_n hx hb dX1_isSpare_9 rfl (lv_at hl 2 rfl) ?_
      refine lv_iload_n hx hb dX1_isSpare_10 rfl (lv_at hl 0 rfl) ?_
      obtain ⟨q3, hq3, hf⟩ := bnd hf
      refine hcM_i hx hb hml hown hts hKs hT hb0 hH (As := [.int v3_3, .int v1_3]) (rest := []) (k_X12_has l E K H.size v3_3 v1_3 w hq3) m4_40 m3_194 m1_1 m3_195 hs_X12_has ⟨Nat.le_of_ble_eq_true rfl, Nat.le_of_ble_eq_true rfl, rfl, rfl⟩ hl.1 rfl rc0 rfl dX1_isSpare_11 ⟨Nat.zero_le _, Nat.zero_le _⟩ (fun H locs hH => ?_)
      refine lv_if_ne (tgt := 57) hx hb dX1_isSpare_14 (by decide) (fun c4 => ?_) (fun c4 => ?_)
      · replace hf := (if_neg c4).symm.trans hf
        exact hk v1_3 v2_3 v3_3 v4_3 _ _ _ _ hH (lv_sub hl [0, 1, 2, 3, 4] rfl) hf
      · replace hf := (if_pos c4).symm.trans hf
        refine hl_aload_n hx hb dX1_isSpare_17 rfl (lv_at hl 4 rfl) ?_
        refine g1_1 hx hb hts hown hKs hH rfl ho m2_204 dX1_isSpare_18 ?_
        refine lv_iload hx hb dX1_isSpare_21 (lv_at hl 3 rfl) ?_
        obtain ⟨a5, ha5, hf⟩ := bnd hf
        replace ha5 := cha_some ha5
        obtain ⟨j6, hj6, hf⟩ := bnd hf
        refine hw_iald hx hb hKs hH ha5.1 ha5.2 hj6 dX1_isSpare_23 ?_
        refine hl_aload_n hx hb dX1_isSpare_24 rfl (lv_at hl 4 rfl) ?_
        refine g1_1 hx hb hts hown hKs hH rfl ho m2_204 dX1_isSpare_25 ?_
        refine lv_iload_n hx hb dX1_isSpare_28 rfl (lv_at hl 0 rfl) ?_
        obtain ⟨j7, hj7, hf⟩ := bnd hf
        refine hw_iald hx hb hKs hH ha5.1 ha5.2 hj7 dX1_isSpare_29 ?_
        refine lv_ixor hx hb dX1_isSpare_30 ?_
        refine lv_iload_n hx hb dX1_isSpare_31 rfl (lv_at hl 1 rfl) ?_
        refine lv_iand hx hb dX1_isSpare_32 ?_
        refine lv_istore (lv' := [(5, .int ((((aI q3.2 a5.1 j6) ^^^ (aI q3.2 a5.1 j7)) &&& v2_3))), (1, .int v1_3), (2, .int v2_3), (3, .int v3_3), (4, .int v4_3), (0, rv E (some o))]) hx hb dX1_isSpare_33 hl (by decide) rfl (fun ls hl => ?_)
        refine lv_iload_n hx hb dX1_isSpare_35 rfl (lv_at hl 3 rfl) ?_
        refine lv_iload hx hb dX1_isSpare_36 (lv_at hl 4 rfl) ?_
        obtain ⟨q8, hq8, hf⟩ := bnd hf
        refine hcM_i hx hb hml hown hts hKs hT hb0 hH (As := [.int v3_3, .int v4_3]) (rest := []) (k_X12_has l E K H.size v3_3 v4_3 q3.2 hq8) m4_40 m3_194 m1_1 m3_195 hs_X12_has ⟨Nat.le_of_ble_eq_true rfl, Nat.le_of_ble_eq_true rfl, rfl, rfl⟩ hl.1 rfl rc0 rfl dX1_isSpare_38 ⟨Nat.zero_le _, Nat.zero_le _⟩ (fun H locs hH => ?_)
        refine lv_if_ne (tgt := 51) hx hb dX1_isSpare_41 (by decide) (fun c9 => ?_) (fun c9 => ?_)
        · replace hf := (if_neg c9).symm.trans hf
          refine lv_iinc (v := (v4_3 + 1)) (lv' := [(4, .int ((v4_3 + 1))), (5, .int ((((aI q3.2 a5.1 j6) ^^^ (aI q3.2 a5.1 j7)) &&& v2_3))), (1, .int v1_3), (2, .int v2_3), (3, .int v3_3), (0, rv E (some o))]) hx hb dX1_isSpare_51 hl (k := 4) rfl rfl (by decide) rfl (fun ls hl => ?_)
          refine lv_goto (tgt := 3) hx hb dX1_isSpare_54 (by decide) ?_
          exact ih v1_3 v2_3 v3_3 (v4_3 + 1) _ _ _ _ hH (lv_sub hl [2, 3, 4, 0, 5] rfl) hf
        · replace hf := (if_pos c9).symm.trans hf
          refine lv_iload hx hb dX1_isSpare_44 (lv_at hl 0 rfl) ?_
          refine lv_if_ne (tgt := 51) hx hb dX1_isSpare_46 (by decide) (fun c10 => ?_) (fun c10 => ?_)
          · replace hf := (if_neg c10).symm.trans hf
            refine lv_iinc (v := (v4_3 + 1)) (lv' := [(4, .int ((v4_3 + 1))), (5, .int ((((aI q3.2 a5.1 j6) ^^^ (aI q3.2 a5.1 j7)) &&& v2_3))), (1, .int v1_3), (2, .int v2_3), (3, .int v3_3), (0, rv E (some o))]) hx hb dX1_isSpare_51 hl (k := 4) rfl rfl (by decide) rfl (fun ls hl => ?_)
            refine lv_goto (tgt := 3) hx hb dX1_isSpare_54 (by decide) ?_
            exact ih v1_3 v2_3 v3_3 (v4_3 + 1) _ _ _ _ hH (lv_sub hl [2, 3, 4, 0, 5] rfl) hf
          · replace hf := (if_pos c10).symm.trans hf
            refine lv_iconst (v := 1) hx hb dX1_isSpare_49 (by decide) ?_
            exact hw_zret hx hb hret rfl hf hH hlocks dX1_isSpare_50
set_option maxHeartbeats 4000000 in
set_option maxRecDepth 100000 in
theorem k_X1_isSpare (l : Launch) (E : Ev) (K : Kd) (z : Nat) (o : Nat) (a_1 : Int32) (a_2 : Int32) (a_3 : Int32) (w : Wd) (ho : K o = some (0, 0)) {r : Bool} {w' : Wd} (hf : f_X1_isSpare K o a_1 a_2 a_3 w = some (r, w')) : Met l yX1_isSpare (Cond.code yX1_isSpare cX1_isSpare 6 (Option.some Jvm.ClassFile.FieldType.boolean) :: bt) ({ frames := 1, cells := 0, slots := 0, locals := 21 } : Room) (va_Pc [rv E (some o), .int a_1, .int a_2, .int a_3] (HB E K w z)) (QI E K z w' (b2i r)) 0 0 (hA E) := by
  refine Met.ofW (cc := cX1_isSpare) (maxL := 6) (ret := (Option.some Jvm.ClassFile.FieldType.boolean)) (by decide) rfl ?_
  intro p e s m args below meth c s₁ B hml hv
  obtain ⟨rfl, hz, hP, hKs, hT, hb0⟩ := hv
  have C : CX p l e s m _ meth c cX1_isSpare 6 RX1 (Option.some Jvm.ClassFile.FieldType.boolean) E := ⟨B.exec, B.bytes, hml, findClass_of_methodNamed B.named, fun w h => atoms_spec (ws := Cond.code yX1_isSpare cX1_isSpare 6 (Option.some Jvm.ClassFile.FieldType.boolean) :: bt) B.pre w (List.mem_cons_of_mem _ h), hKs, hT, by rw [hz]; exact hb0, B.notSynchronized, B.returns⟩
  have hH : HQ E K z w s s.heap [] := ⟨hP, va_S.rf, hz⟩
  obtain ⟨hx, hb, hml, hown, hts, hKs, hT, hb0, hlocks, hret⟩ := id C
  have hl := lv_entry [rv E (some o), .int a_1, .int a_2, .int a_3] (n := 6) (by simp [lg_len_nil, lg_len_i, lg_len_j, lg_len_q])
  rw [lg_entry_eq]
  generalize (lg_sl [rv E (some o), .int a_1, .int a_2, .int a_3] ++ List.replicate (6 - (lg_sl [rv E (some o), .int a_1, .int a_2, .int a_3]).length) Slot.unset).toArray = ls at hl ⊢
  replace hl : lv_has ls 6 [(0, rv E (some o)), (1, .int a_1), (2, .int a_2), (3, .int a_3)] := by simpa only [lv_args, cat_q, cat_i, cat_j, reduceIte, Nat.reduceEqDiff, Nat.reduceAdd, Nat.zero_add] using hl
  generalize s.heap = H at hH ⊢
  unfold f_X1_isSpare at hf
  refine lv_iconst (v := 0) hx hb dX1_isSpare_0 (by decide) ?_
  refine lv_istore (lv' := [(4, .int 0), (0, rv E (some o)), (1, .int a_1), (2, .int a_2), (3, .int a_3)]) hx hb dX1_isSpare_1 hl (by decide) rfl (fun ls hl => ?_)
  refine l_X1_isSpare_L3  C ho _ (fun v1_3 v2_3 v3_3 v4_3 w1 H locs ls hH hl hf => ?_) fu a_1 a_2 a_3 0 w _ _ _ hH (lv_sub hl [2, 3, 4, 0, 1] rfl) hf
  refine lv_iconst (v := 0) hx hb dX1_isSpare_57 (by decide) ?_
  exact hw_zret hx hb hret rfl hf hH hlocks dX1_isSpare_58

theorem dX1_giveTo_0 : decode cX1_giveTo 0 = .ok (.iload_n 1, 1) := by decide +kernel
theorem dX1_giveTo_1 : decode cX1_giveTo 1 = .ok (.bipush 12, 2) := by decide +kernel
theorem dX1_giveTo_3 : decode cX1_giveTo 3 = .ok (.imul, 1) := by decide +kernel
theorem dX1_giveTo_4 : decode cX1_giveTo 4 = .ok (.istore 4, 2) := by decide +kernel
theorem dX1_giveTo_6 : decode cX1_giveTo 6 = .ok (.iconst 0, 1) := by decide +kernel
theorem dX1_giveTo_7 : decode cX1_giveTo 7 = .ok (.istore 5, 2) := by decide +kernel
theorem dX1_giveTo_9 : decode cX1_giveTo 9 = .ok (.iload 5, 2) := by decide +kernel
theorem dX1_giveTo_11 : decode cX1_giveTo 11 = .ok (.aload_n 0, 1) := by decide +kernel
theorem dX1_giveTo_12 : decode cX1_giveTo 12 = .ok (.getfield 29, 3) := by decide +kernel
theorem dX1_giveTo_15 : decode cX1_giveTo 15 = .ok (.if_icmp .ge 60, 3) := by decide +kernel
theorem dX1_giveTo_18 : decode cX1_giveTo 18 = .ok (.aload_n 0, 1) := by decide +kernel
theorem dX1_giveTo_19 : decode cX1_giveTo 19 = .ok (.getfield 9, 3) := by decide +kernel
theorem dX1_giveTo_22 : decode cX1_giveTo 22 = .ok (.iload_n 2, 1) := by decide +kernel
theorem dX1_giveTo_23 : decode cX1_giveTo 23 = .ok (.iaload, 1) := by decide +kernel
theorem dX1_giveTo_24 : decode cX1_giveTo 24 = .ok (.iload 5, 2) := by decide +kernel
theorem dX1_giveTo_26 : decode cX1_giveTo 26 = .ok (.invokestatic 68, 3) := by decide +kernel
theorem dX1_giveTo_29 : decode cX1_giveTo 29 = .ok (.ifCond .eq 9, 3) := by decide +kernel
theorem dX1_giveTo_32 : decode cX1_giveTo 32 = .ok (.iconst 1, 1) := by decide +kernel
theorem dX1_giveTo_33 : decode cX1_giveTo 33 = .ok (.iload_n 3, 1) := by decide +kernel
theorem dX1_giveTo_34 : decode cX1_giveTo 34 = .ok (.ishl, 1) := by decide +kernel
theorem dX1_giveTo_35 : decode cX1_giveTo 35 = .ok (.goto 4, 3) := by decide +kernel
theorem dX1_giveTo_38 : decode cX1_giveTo 38 = .ok (.iconst 0, 1) := by decide +kernel
theorem dX1_giveTo_39 : decode cX1_giveTo 39 = .ok (.istore 6, 2) := by decide +kernel
theorem dX1_giveTo_41 : decode cX1_giveTo 41 = .ok (.aload_n 0, 1) := by decide +kernel
theorem dX1_giveTo_42 : decode cX1_giveTo 42 = .ok (.getfield 18, 3) := by decide +kernel
theorem dX1_giveTo_45 : decode cX1_giveTo 45 = .ok (.iload 4, 2) := by decide +kernel
theorem dX1_giveTo_47 : decode cX1_giveTo 47 = .ok (.bipush 12, 2) := by decide +kernel
theorem dX1_giveTo_49 : decode cX1_giveTo 49 = .ok (.iadd, 1) := by decide +kernel
theorem dX1_giveTo_50 : decode cX1_giveTo 50 = .ok (.iload 5, 2) := by decide +kernel
theorem dX1_giveTo_52 : decode cX1_giveTo 52 = .ok (.iadd, 1) := by decide +kernel
theorem dX1_giveTo_53 : decode cX1_giveTo 53 = .ok (.aload_n 0, 1) := by decide +kernel
theorem dX1_giveTo_54 : decode cX1_giveTo 54 = .ok (.getfield 18, 3) := by decide +kernel
theorem dX1_giveTo_57 : decode cX1_giveTo 57 = .ok (.iload 4, 2) := by decide +kernel
theorem dX1_giveTo_59 : decode cX1_giveTo 59 = .ok (.iload 5, 2) := by decide +kernel
theorem dX1_giveTo_61 : decode cX1_giveTo 61 = .ok (.iadd, 1) := by decide +kernel
theorem dX1_giveTo_62 : decode cX1_giveTo 62 = .ok (.iaload, 1) := by decide +kernel
theorem dX1_giveTo_63 : decode cX1_giveTo 63 = .ok (.iload 6, 2) := by decide +kernel
theorem dX1_giveTo_65 : decode cX1_giveTo 65 = .ok (.iconst (-1), 1) := by decide +kernel
theorem dX1_giveTo_66 : decode cX1_giveTo 66 = .ok (.ixor, 1) := by decide +kernel
theorem dX1_giveTo_67 : decode cX1_giveTo 67 = .ok (.iand, 1) := by decide +kernel
theorem dX1_giveTo_68 : decode cX1_giveTo 68 = .ok (.iastore, 1) := by decide +kernel
theorem dX1_giveTo_69 : decode cX1_giveTo 69 = .ok (.iinc 5 1, 3) := by decide +kernel
theorem dX1_giveTo_72 : decode cX1_giveTo 72 = .ok (.goto (-63), 3) := by decide +kernel
theorem dX1_giveTo_75 : decode cX1_giveTo 75 = .ok (.return_, 1) := by decide +kernel
theorem hd_X1_giveTo : yX1_giveTo.cls = RX1 ∧ yX1_giveTo.cls ≠ "java/lang/invoke/MethodHandle" ∧ yX1_giveTo.cls ≠ "java/lang/invoke/VarHandle" ∧ (parseMethodDescriptor yX1_giveTo.desc).map (fun d => d.parameters.length) = some 3 := by decide +kernel
theorem hs_X1_giveTo : yX1_giveTo.cls ≠ "java/lang/invoke/MethodHandle" ∧ yX1_giveTo.cls ≠ "java/lang/invoke/VarHandle" ∧ (parseMethodDescriptor yX1_giveTo.desc).map (fun d => d.parameters.length) = some 3 := by decide +kernel
set_option maxHeartbeats 4000000 in
set_option maxRecDepth 100000 in
theorem l_X1_giveTo_L9 (C : CX p l e s m args meth c cX1_giveTo 7 RX1 (Option.none : Option Jvm.ClassFile.FieldType) E) {o : Nat} (ho : K o = some (0, 0)) {w' : Wd} (k : Int32 → Int32 → Int32 → Int32 → Int32 → Wd → Option Wd) (hk : ∀ (v1_9 : Int32) (v2_9 : Int32) (v3_9 : Int32) (v4_9 : Int32) (v5_9 : Int32) (w : Wd) (H : Heap) (locs : List Loc) (ls : Array Slot), HQ E K z w s H locs → lv_has ls 7 [(1, .int v1_9), (2, .int v2_9), (3, .int v3_9), (4, .int v4_9), (5, .int v5_9), (0, rv E (some o))] → k v1_9 v2_9 v3_9 v4_9 v5_9 w = some w' → W p l e ({ frames := 1, cells := 0, slots := 0, locals := 21 } : Room) s m args below meth c H locs 0 0 (MQ below (QV E K z w') args s 0 0 (hA E)) (F0 m 75 ls [])) : ∀ (n : Nat) (v1_9 : Int32) (v2_9 : Int32) (v3_9 : Int32) (v4_9 : Int32) (v5_9 : Int32) (w : Wd) (H : Heap) (locs : List Loc) (ls : Array Slot), HQ E K z w s H locs → lv_has ls 7 [(1, .int v1_9), (2, .int v2_9), (3, .int v3_9), (4, .int v4_9), (5, .int v5_9), (0, rv E (some o))] → f_X1_giveTo_L9 K o k n v1_9 v2_9 v3_9 v4_9 v5_9 w = some w' → W p l e ({ frames := 1, cells := 0, slots := 0, locals := 21 } : Room) s m args below meth c H locs 0 0 (MQ below (QV E K z w') args s 0 0 (hA E)) (F0 m 9 ls []) := by
  obtain ⟨hx, hb, hml, hown, hts, hKs, hT, hb0, hlocks, hret⟩ := id C
  intro n
  induction n with
  | zero =>
    intro v1_9 v2_9 v3_9 v4_9 v5_9 w H locs ls hH hl hf
    cases hf
  | succ n ih =>
    intro v1_9 v2_9 v3_9 v4_9 v5_9 w H locs ls hH hl hf
    rw [f_X1_giveTo_L9] at hf
    refine lv_iload hx hb dX1_giveTo_9 (lv_at hl 4 rfl) ?_
    refine hl_aload_n hx hb dX1_giveTo_11 rfl (lv_at hl 5 rfl) ?_
    refine g1_3 hx hb hts hown hKs hH rfl ho m2_206 dX1_giveTo_12 ?_
    refine lv_icmp_ge (tgt := 75) hx hb dX1_giveTo_15 (by decide) (fun c2 => ?_) (fun c2 => ?_)
    · replace hf := (if_pos c2).symm.trans hf
      exact hk v1_9 v2_9 v3_9 v4_9 v5_9 _ _ _ _ hH (lv_sub hl [0, 1, 2, 3, 4, 5] rfl) hf
    · replace hf := (if_neg c2).symm.trans hf
      refine hl_aload_n hx hb dX1_giveTo_18 rfl (lv_at hl 5 rfl) ?_
      refine g1_0 hx hb hts hown hKs hH rfl ho m2_203 dX1_giveTo_19 ?_
      refine lv_iload_n hx hb dX1_giveTo_22 rfl (lv_at hl 1 rfl) ?_
      obtain ⟨a3, ha3, hf⟩ := bnd hf
      replace ha3 := cha_some ha3
      obtain ⟨j4, hj4, hf⟩ := bnd hf
      refine hw_iald hx hb hKs hH ha3.1 ha3.2 hj4 dX1_giveTo_23 ?_
      refine lv_iload hx hb dX1_giveTo_24 (lv_at hl 4 rfl) ?_
      obtain ⟨q5, hq5, hf⟩ := bnd hf
      refine hcM_i hx hb hml hown hts hKs hT hb0 hH (As := [.int ((aI w a3.1 j4)), .int v5_9]) (rest := []) (k_X12_has l E K H.size (aI w a3.1 j4) v5_9 w hq5) m4_40 m3_194 m1_1 m3_195 hs_X12_has ⟨Nat.le_of_ble_eq_true rfl, Nat.le_of_ble_eq_true rfl, rfl, rfl⟩ hl.1 rfl rc0 rfl dX1_giveTo_26 ⟨Nat.zero_le _, Nat.zero_le _⟩ (fun H locs hH => ?_)
      refine lv_if_eq (tgt := 38) hx hb dX1_giveTo_29 (by decide) (fun c6 => ?_) (fun c6 => ?_)
      · replace hf := (if_pos c6).symm.trans hf
        refine lv_iconst (v := 0) hx hb dX1_giveTo_38 (by decide) ?_
        refine lv_istore (lv' := [(6, .int 0), (1, .int v1_9), (2, .int v2_9), (3, .int v3_9), (4, .int v4_9), (5, .int v5_9), (0, rv E (some o))]) hx hb dX1_giveTo_39 hl (by decide) rfl (fun ls hl => ?_)
        refine hl_aload_n hx hb dX1_giveTo_41 rfl (lv_at hl 6 rfl) ?_
        refine g1_2 hx hb hts hown hKs hH rfl ho m2_205 dX1_giveTo_42 ?_
        refine lv_iload hx hb dX1_giveTo_45 (lv_at hl 4 rfl) ?_
        refine lv_bipush (v := 12) hx hb dX1_giveTo_47 (by decide) ?_
        refine lv_iadd hx hb dX1_giveTo_49 ?_
        refine lv_iload hx hb dX1_giveTo_50 (lv_at hl 5 rfl) ?_
        refine lv_iadd hx hb dX1_giveTo_52 ?_
        refine hl_aload_n hx hb dX1_giveTo_53 rfl (lv_at hl 6 rfl) ?_
        refine g1_2 hx hb hts hown hKs hH rfl ho m2_205 dX1_giveTo_54 ?_
        refine lv_iload hx hb dX1_giveTo_57 (lv_at hl 4 rfl) ?_
        refine lv_iload hx hb dX1_giveTo_59 (lv_at hl 5 rfl) ?_
        refine lv_iadd hx hb dX1_giveTo_61 ?_
        obtain ⟨a7, ha7, hf⟩ := bnd hf
        replace ha7 := cha_some ha7
        obtain ⟨j8, hj8, hf⟩ := bnd hf
        refine hw_iald hx hb hKs hH ha7.1 ha7.2 hj8 dX1_giveTo_62 ?_
        refine lv_iload hx hb dX1_giveTo_63 (lv_at hl 0 rfl) ?_
        refine lv_iconst (v := (-1)) hx hb dX1_giveTo_65 (by decide) ?_
        refine lv_ixor hx hb dX1_giveTo_66 ?_
        refine lv_iand hx hb dX1_giveTo_67 ?_
        obtain ⟨j9, hj9, hf⟩ := bnd hf
        obtain ⟨w10, hw10, hf⟩ := bnd hf
        replace hw10 := Option.some.inj hw10
        refine hw_iast (x := ((aI q5.2 a7.1 j8) &&& (0 ^^^ (-1)))) hx hb hKs hH ha7.1 ha7.2 hj9 dX1_giveTo_68 (fun H locs hH => ?_)
        rw [hw10] at hH
        refine lv_iinc (v := (v5_9 + 1)) (lv' := [(5, .int ((v5_9 + 1))), (6, .int 0), (1, .int v1_9), (2, .int v2_9), (3, .int v3_9), (4, .int v4_9), (0, rv E (some o))]) hx hb dX1_giveTo_69 hl (k := 5) rfl rfl (by decide) rfl (fun ls hl => ?_)
        refine lv_goto (tgt := 9) hx hb dX1_giveTo_72 (by decide) ?_
        exact ih v1_9 v2_9 v3_9 v4_9 (v5_9 + 1) _ _ _ _ hH (lv_sub hl [2, 3, 4, 5, 0, 6] rfl) hf
      · replace hf := (if_neg c6).symm.trans hf
        refine lv_iconst (v := 1) hx hb dX1_giveTo_32 (by decide) ?_
        refine lv_iload_n hx hb dX1_giveTo_33 rfl (lv_at hl 2 rfl) ?_
        refine lv_ishl hx hb dX1_giveTo_34 ?_
        refine lv_goto (tgt := 39) hx hb dX1_giveTo_35 (by decide) ?_
        refine lv_istore (lv' := [(6, .int ((1 <<< (v3_9 &&& 31)))), (1, .int v1_9), (2, .int v2_9), (3, .int v3_9), (4, .int v4_9), (5, .int v5_9), (0, rv E (some o))]) hx hb dX1_giveTo_39 hl (by decide) rfl (fun ls hl => ?_)
        refine hl_aload_n hx hb dX1_giveTo_41 rfl (lv_at hl 6 rfl) ?_
        refine g1_2 hx hb hts hown hKs hH rfl ho m2_205 dX1_giveTo_42 ?_
        refine lv_iload hx hb dX1_giveTo_45 (lv_at hl 4 rfl) ?_
        refine lv_bipush (v := 12) hx hb dX1_giveTo_47 (by decide) ?_
        refine lv_iadd hx hb dX1_giveTo_49 ?_
        refine lv_iload hx hb dX1_giveTo_50 (lv_at hl 5 rfl) ?_
        refine lv_iadd hx hb dX1_giveTo_52 ?_
        refine hl_aload_n hx hb dX1_giveTo_53 rfl (lv_at hl 6 rfl) ?_
        refine g1_2 hx hb hts hown hKs hH rfl ho m2_205 dX1_giveTo_54 ?_
        refine lv_iload hx hb dX1_giveTo_57 (lv_at hl 4 rfl) ?_
        refine lv_iload hx hb dX1_giveTo_59 (lv_at hl 5 rfl) ?_
        refine lv_iadd hx hb dX1_giveTo_61 ?_
        obtain ⟨a11, ha11, hf⟩ := bnd hf
        replace ha11 := cha_some ha11
        obtain ⟨j12, hj12, hf⟩ := bnd hf
        refine hw_iald hx hb hKs hH ha11.1 ha11.2 hj12 dX1_giveTo_62 ?_
        refine lv_iload hx hb dX1_giveTo_63 (lv_at hl 0 rfl) ?_
        refine lv_iconst (v := (-1)) hx hb dX1_giveTo_65 (by decide) ?_
        refine lv_ixor hx hb dX1_giveTo_66 ?_
        refine lv_iand hx hb dX1_giveTo_67 ?_
        obtain ⟨j13, hj13, hf⟩ := bnd hf
        obtain ⟨w14, hw14, hf⟩ := bnd hf
        replace hw14 := Option.some.inj hw14
        refine hw_iast (x := ((aI q5.2 a11.1 j12) &&& ((1 <<< (v3_9 &&& 31)) ^^^ (-1)))) hx hb hKs hH ha11.1 ha11.2 hj13 dX1_giveTo_68 (fun H locs hH => ?_)
        rw [hw14] at hH
        refine lv_iinc (v := (v5_9 + 1)) (lv' := [(5, .int ((v5_9 + 1))), (6, .int ((1 <<< (v3_9 &&& 31)))), (1, .int v1_9), (2, .int v2_9), (3, .int v3_9), (4, .int v4_9), (0, rv E (some o))]) hx hb dX1_giveTo_69 hl (k := 5) rfl rfl (by decide) rfl (fun ls hl => ?_)
        refine lv_goto (tgt := 9) hx hb dX1_giveTo_72 (by decide) ?_
        exact ih v1_9 v2_9 v3_9 v4_9 (v5_9 + 1) _ _ _ _ hH (lv_sub hl [2, 3, 4, 5, 0, 6] rfl) hf
set_option maxHeartbeats 4000000 in
set_option maxRecDepth 100000 in
theorem k_X1_giveTo (l : Launch) (E : Ev) (K : Kd) (z : Nat) (o : Nat) (a_1 : Int32) (a_2 : Int32) (a_3 : Int32) (w : Wd) (ho : K o = some (0, 0)) {w' : Wd} (hf : f_X1_giveTo K o a_1 a_2 a_3 w = some w') : Met l yX1_giveTo (Cond.code yX1_giveTo cX1_giveTo 7 (Option.none : Option Jvm.ClassFile.FieldType) :: bt) ({ frames := 1, cells := 0, slots := 0, locals := 21 } : Room) (va_Pc [rv E (some o), .int a_1, .int a_2, .int a_3] (HB E K w z)) (QV E K z w') 0 0 (hA E) := by
  refine Met.ofW (cc := cX1_giveTo) (maxL := 7) (ret := (Option.none : Option Jvm.ClassFile.FieldType)) (by decide) rfl ?_
  intro p e s m args below meth c s₁ B hml hv
  obtain ⟨rfl, hz, hP, hKs, hT, hb0⟩ := hv
  have C : CX p l e s m _ meth c cX1_giveTo 7 RX1 (Option.none : Option Jvm.ClassFile.FieldType) E := ⟨B.exec, B.bytes, hml, findClass_of_methodNamed B.named, fun w h => atoms_spec (ws := Cond.code yX1_giveTo cX1_giveTo 7 (Option.none : Option Jvm.ClassFile.FieldType) :: bt) B.pre w (List.mem_cons_of_mem _ h), hKs, hT, by rw [hz]; exact hb0, B.notSynchronized, B.returns⟩
  have hH : HQ E K z w s s.heap [] := ⟨hP, va_S.rf, hz⟩
  obtain ⟨hx, hb, hml, hown, hts, hKs, hT, hb0, hlocks, hret⟩ := id C
  have hl := lv_entry [rv E (some o), .int a_1, .int a_2, .int a_3] (n := 7) (by simp [lg_len_nil, lg_len_i, lg_len_j, lg_len_q])
  rw [lg_entry_eq]
  generalize (lg_sl [rv E (some o), .int a_1, .int a_2, .int a_3] ++ List.replicate (7 - (lg_sl [rv E (some o), .int a_1, .int a_2, .int a_3]).length) Slot.unset).toArray = ls at hl ⊢
  replace hl : lv_has ls 7 [(0, rv E (some o)), (1, .int a_1), (2, .int a_2), (3, .int a_3)] := by simpa only [lv_args, cat_q, cat_i, cat_j, reduceIte, Nat.reduceEqDiff, Nat.reduceAdd, Nat.zero_add] using hl
  generalize s.heap = H at hH ⊢
  unfold f_X1_giveTo at hf
  refine lv_iload_n hx hb dX1_giveTo_0 rfl (lv_at hl 1 rfl) ?_
  refine lv_bipush (v := 12) hx hb dX1_giveTo_1 (by decide) ?_
  refine lv_imul hx hb dX1_giveTo_3 ?_
  refine lv_istore (lv' := [(4, .int ((a_1 * 12))), (0, rv E (some o)), (1, .int a_1), (2, .int a_2), (3, .int a_3)]) hx hb dX1_giveTo_4 hl (by decide) rfl (fun ls hl => ?_)
  refine lv_iconst (v := 0) hx hb dX1_giveTo_6 (by decide) ?_
  refine lv_istore (lv' := [(5, .int 0), (4, .int ((a_1 * 12))), (0, rv E (some o)), (1, .int a_1), (2, .int a_2), (3, .int a_3)]) hx hb dX1_giveTo_7 hl (by decide) rfl (fun ls hl => ?_)
  refine l_X1_giveTo_L9  C ho _ (fun v1_9 v2_9 v3_9 v4_9 v5_9 w1 H locs ls hH hl hf => ?_) fu a_1 a_2 a_3 (a_1 * 12) 0 w _ _ _ hH (lv_sub hl [3, 4, 5, 1, 0, 2] rfl) hf
  exact hw_vret hx hb hret hf hH hlocks dX1_giveTo_75

theorem dX2_contains_0 : decode cX2_contains 0 = .ok (.iload_n 1, 1) := by decide +kernel
theorem dX2_contains_1 : decode cX2_contains 1 = .ok (.ifCond .lt 33, 3) := by decide +kernel
theorem dX2_contains_4 : decode cX2_contains 4 = .ok (.iload_n 1, 1) := by decide +kernel
theorem dX2_contains_5 : decode cX2_contains 5 = .ok (.sipush 600, 3) := by decide +kernel
theorem dX2_contains_8 : decode cX2_contains 8 = .ok (.if_icmp .ge 26, 3) := by decide +kernel
theorem dX2_contains_11 : decode cX2_contains 11 = .ok (.aload_n 0, 1) := by decide +kernel
theorem dX2_contains_12 : decode cX2_contains 12 = .ok (.getfield 9, 3) := by decide +kernel
theorem dX2_contains_15 : decode cX2_contains 15 = .ok (.iload_n 1, 1) := by decide +kernel
theorem dX2_contains_16 : decode cX2_contains 16 = .ok (.bipush 32, 2) := by decide +kernel
theorem dX2_contains_18 : decode cX2_contains 18 = .ok (.idiv, 1) := by decide +kernel
theorem dX2_contains_19 : decode cX2_contains 19 = .ok (.iaload, 1) := by decide +kernel
theorem dX2_contains_20 : decode cX2_contains 20 = .ok (.iload_n 1, 1) := by decide +kernel
theorem dX2_contains_21 : decode cX2_contains 21 = .ok (.bipush 32, 2) := by decide +kernel
theorem dX2_contains_23 : decode cX2_contains 23 = .ok (.irem, 1) := by decide +kernel
theorem dX2_contains_24 : decode cX2_contains 24 = .ok (.iushr, 1) := by decide +kernel
theorem dX2_contains_25 : decode cX2_contains 25 = .ok (.iconst 1, 1) := by decide +kernel
theorem dX2_contains_26 : decode cX2_contains 26 = .ok (.iand, 1) := by decide +kernel
theorem dX2_contains_27 : decode cX2_contains 27 = .ok (.ifCond .eq 7, 3) := by decide +kernel
theorem dX2_contains_30 : decode cX2_contains 30 = .ok (.iconst 1, 1) := by decide +kernel
theorem dX2_contains_31 : decode cX2_contains 31 = .ok (.goto 4, 3) := by decide +kernel
theorem dX2_contains_34 : decode cX2_contains 34 = .ok (.iconst 0, 1) := by decide +kernel
theorem dX2_contains_35 : decode cX2_contains 35 = .ok (.ireturn, 1) := by decide +kernel
theorem hd_X2_contains : yX2_contains.cls = RX2 ∧ yX2_contains.cls ≠ "java/lang/invoke/MethodHandle" ∧ yX2_contains.cls ≠ "java/lang/invoke/VarHandle" ∧ (parseMethodDescriptor yX2_contains.desc).map (fun d => d.parameters.length) = some 1 := by decide +kernel
theorem hs_X2_contains : yX2_contains.cls ≠ "java/lang/invoke/MethodHandle" ∧ yX2_contains.cls ≠ "java/lang/invoke/VarHandle" ∧ (parseMethodDescriptor yX2_contains.desc).map (fun d => d.parameters.length) = some 1 := by decide +kernel
set_option maxHeartbeats 4000000 in
set_option maxRecDepth 100000 in
theorem k_X2_contains (l : Launch) (E : Ev) (K : Kd) (z : Nat) (o : Nat) (a_1 : Int32) (w : Wd) (ho : K o = some (1, 0)) {r : Bool} {w' : Wd} (hf : f_X2_contains K o a_1 w = some (r, w')) : Met l yX2_contains (Cond.code yX2_contains cX2_contains 2 (Option.some Jvm.ClassFile.FieldType.boolean) :: bt) ({ frames := 0, cells := 0, slots := 0, locals := 0 } : Room) (va_Pc [rv E (some o), .int a_1] (HB E K w z)) (QI E K z w' (b2i r)) 0 0 (hA E) := by
  refine Met.ofW (cc := cX2_contains) (maxL := 2) (ret := (Option.some Jvm.ClassFile.FieldType.boolean)) (by decide) rfl ?_
  intro p e s m args below meth c s₁ B hml hv
  obtain ⟨rfl, hz, hP, hKs, hT, hb0⟩ := hv
  have C : CX p l e s m _ meth c cX2_contains 2 RX2 (Option.some Jvm.ClassFile.FieldType.boolean) E := ⟨B.exec, B.bytes, hml, findClass_of_methodNamed B.named, fun w h => atoms_spec (ws := Cond.code yX2_contains cX2_contains 2 (Option.some Jvm.ClassFile.FieldType.boolean) :: bt) B.pre w (List.mem_cons_of_mem _ h), hKs, hT, by rw [hz]; exact hb0, B.notSynchronized, B.returns⟩
  have hH : HQ E K z w s s.heap [] := ⟨hP, va_S.rf, hz⟩
  obtain ⟨hx, hb, hml, hown, hts, hKs, hT, hb0, hlocks, hret⟩ := id C
  have hl := lv_entry [rv E (some o), .int a_1] (n := 2) (by simp [lg_len_nil, lg_len_i, lg_len_j, lg_len_q])
  rw [lg_entry_eq]
  generalize (lg_sl [rv E (some o), .int a_1] ++ List.replicate (2 - (lg_sl [rv E (some o), .int a_1]).length) Slot.unset).toArray = ls at hl ⊢
  replace hl : lv_has ls 2 [(0, rv E (some o)), (1, .int a_1)] := by simpa only [lv_args, cat_q, cat_i, cat_j, reduceIte, Nat.reduceEqDiff, Nat.reduceAdd, Nat.zero_add] using hl
  generalize s.heap = H at hH ⊢
  unfold f_X2_contains at hf
  refine lv_iload_n hx hb dX2_contains_0 rfl (lv_at hl 1 rfl) ?_
  refine lv_if_lt (tgt := 34) hx hb dX2_contains_1 (by decide) (fun c1 => ?_) (fun c1 => ?_)
  · replace hf := (if_pos c1).symm.trans hf
    refine lv_iconst (v := 0) hx hb dX2_contains_34 (by decide) ?_
    exact hw_zret hx hb hret rfl hf hH hlocks dX2_contains_35
  · replace hf := (if_neg c1).symm.trans hf
    refine lv_iload_n hx hb dX2_contains_4 rfl (lv_at hl 1 rfl) ?_
    refine lv_sipush (v := 600) hx hb dX2_contains_5 (by decide) ?_
    refine lv_icmp_ge (tgt := 34) hx hb dX2_contains_8 (by decide) (fun c2 => ?_) (fun c2 => ?_)
    · replace hf := (if_pos c2).symm.trans hf
      refine lv_iconst (v := 0) hx hb dX2_contains_34 (by decide) ?_
      exact hw_zret hx hb hret rfl hf hH hlocks dX2_contains_35
    · replace hf := (if_neg c2).symm.trans hf
      refine hl_aload_n hx hb dX2_contains_11 rfl (lv_at hl 0 rfl) ?_
      refine g2_0 hx hb hts hown hKs hH rfl ho m1_55 dX2_contains_12 ?_
      refine lv_iload_n hx hb dX2_contains_15 rfl (lv_at hl 1 rfl) ?_
      refine lv_bipush (v := 32) hx hb dX2_contains_16 (by decide) ?_
      refine lv_idiv hx hb dX2_contains_18 (by decide) ?_
      obtain ⟨a3, ha3, hf⟩ := bnd hf
      replace ha3 := cha_some ha3
      obtain ⟨j4, hj4, hf⟩ := bnd hf
      refine hw_iald hx hb hKs hH ha3.1 ha3.2 hj4 dX2_contains_19 ?_
      refine lv_iload_n hx hb dX2_contains_20 rfl (lv_at hl 1 rfl) ?_
      refine lv_bipush (v := 32) hx hb dX2_contains_21 (by decide) ?_
      refine lv_irem hx hb dX2_contains_23 (by decide) ?_
      refine lv_iushr (v := (ushr (aI w a3.1 j4) (a_1 - a_1 / 32 * 32))) hx hb dX2_contains_24 rfl ?_
      refine lv_iconst (v := 1) hx hb dX2_contains_25 (by decide) ?_
      refine lv_iand hx hb dX2_contains_26 ?_
      refine lv_if_eq (tgt := 34) hx hb dX2_contains_27 (by decide) (fun c5 => ?_) (fun c5 => ?_)
      · replace hf := (if_pos c5).symm.trans hf
        refine lv_iconst (v := 0) hx hb dX2_contains_34 (by decide) ?_
        exact hw_zret hx hb hret rfl hf hH hlocks dX2_contains_35
      · replace hf := (if_neg c5).symm.trans hf
        refine lv_iconst (v := 1) hx hb dX2_contains_30 (by decide) ?_
        refine lv_goto (tgt := 35) hx hb dX2_contains_31 (by decide) ?_
        exact hw_zret hx hb hret rfl hf hH hlocks dX2_contains_35

theorem dX2_add_0 : decode cX2_add 0 = .ok (.iload_n 1, 1) := by decide +kernel
theorem dX2_add_1 : decode cX2_add 1 = .ok (.ifCond .lt 46, 3) := by decide +kernel
theorem dX2_add_4 : decode cX2_add 4 = .ok (.iload_n 1, 1) := by decide +kernel
theorem dX2_add_5 : decode cX2_add 5 = .ok (.sipush 600, 3) := by decide +kernel
theorem dX2_add_8 : decode cX2_add 8 = .ok (.if_icmp .ge 39, 3) := by decide +kernel
theorem dX2_add_11 : decode cX2_add 11 = .ok (.aload_n 0, 1) := by decide +kernel
theorem dX2_add_12 : decode cX2_add 12 = .ok (.iload_n 1, 1) := by decide +kernel
theorem dX2_add_13 : decode cX2_add 13 = .ok (.invokevirtual 15, 3) := by decide +kernel
theorem dX2_add_16 : decode cX2_add 16 = .ok (.ifCond .ne 31, 3) := by decide +kernel
theorem dX2_add_19 : decode cX2_add 19 = .ok (.aload_n 0, 1) := by decide +kernel
theorem dX2_add_20 : decode cX2_add 20 = .ok (.getfield 9, 3) := by decide +kernel
theorem dX2_add_23 : decode cX2_add 23 = .ok (.iload_n 1, 1) := by decide +kernel
theorem dX2_add_24 : decode cX2_add 24 = .ok (.bipush 32, 2) := by decide +kernel
theorem dX2_add_26 : decode cX2_add 26 = .ok (.idiv, 1) := by decide +kernel
theorem dX2_add_27 : decode cX2_add 27 = .ok (.dup2, 1) := by decide +kernel
theorem dX2_add_28 : decode cX2_add 28 = .ok (.iaload, 1) := by decide +kernel
theorem dX2_add_29 : decode cX2_add 29 = .ok (.iconst 1, 1) := by decide +kernel
theorem dX2_add_30 : decode cX2_add 30 = .ok (.iload_n 1, 1) := by decide +kernel
theorem dX2_add_31 : decode cX2_add 31 = .ok (.bipush 32, 2) := by decide +kernel
theorem dX2_add_33 : decode cX2_add 33 = .ok (.irem, 1) := by decide +kernel
theorem dX2_add_34 : decode cX2_add 34 = .ok (.ishl, 1) := by decide +kernel
theorem dX2_add_35 : decode cX2_add 35 = .ok (.ior, 1) := by decide +kernel
theorem dX2_add_36 : decode cX2_add 36 = .ok (.iastore, 1) := by decide +kernel
theorem dX2_add_37 : decode cX2_add 37 = .ok (.aload_n 0, 1) := by decide +kernel
theorem dX2_add_38 : decode cX2_add 38 = .ok (.dup, 1) := by decide +kernel
theorem dX2_add_39 : decode cX2_add 39 = .ok (.getfield 19, 3) := by decide +kernel
theorem dX2_add_42 : decode cX2_add 42 = .ok (.iconst 1, 1) := by decide +kernel
theorem dX2_add_43 : decode cX2_add 43 = .ok (.iadd, 1) := by decide +kernel
theorem dX2_add_44 : decode cX2_add 44 = .ok (.putfield 19, 3) := by decide +kernel
theorem dX2_add_47 : decode cX2_add 47 = .ok (.return_, 1) := by decide +kernel
theorem hd_X2_add : yX2_add.cls = RX2 ∧ yX2_add.cls ≠ "java/lang/invoke/MethodHandle" ∧ yX2_add.cls ≠ "java/lang/invoke/VarHandle" ∧ (parseMethodDescriptor yX2_add.desc).map (fun d => d.parameters.length) = some 1 := by decide +kernel
theorem hs_X2_add : yX2_add.cls ≠ "java/lang/invoke/MethodHandle" ∧ yX2_add.cls ≠ "java/lang/invoke/VarHandle" ∧ (parseMethodDescriptor yX2_add.desc).map (fun d => d.parameters.length) = some 1 := by decide +kernel
set_option maxHeartbeats 4000000 in
set_option maxRecDepth 100000 in
theorem k_X2_add (l : Launch) (E : Ev) (K : Kd) (z : Nat) (o : Nat) (a_1 : Int32) (w : Wd) (ho : K o = some (1, 0)) {w' : Wd} (hf : f_X2_add K o a_1 w = some w') : Met l yX2_add (Cond.code yX2_add cX2_add 2 (Option.none : Option Jvm.ClassFile.FieldType) :: bt) ({ frames := 1, cells := 0, slots := 0, locals := 21 } : Room) (va_Pc [rv E (some o), .int a_1] (HB E K w z)) (QV E K z w') 0 0 (hA E) := by
  refine Met.ofW (cc := cX2_add) (maxL := 2) (ret := (Option.none : Option Jvm.ClassFile.FieldType)) (by decide) rfl ?_
  intro p e s m args below meth c s₁ B hml hv
  obtain ⟨rfl, hz, hP, hKs, hT, hb0⟩ := hv
  have C : CX p l e s m _ meth c cX2_add 2 RX2 (Option.none : Option Jvm.ClassFile.FieldType) E := ⟨B.exec, B.bytes, hml, findClass_of_methodNamed B.named, fun w h => atoms_spec (ws := Cond.code yX2_add cX2_add 2 (Option.none : Option Jvm.ClassFile.FieldType) :: bt) B.pre w (List.mem_cons_of_mem _ h), hKs, hT, by rw [hz]; exact hb0, B.notSynchronized, B.returns⟩
  have hH : HQ E K z w s s.heap [] := ⟨hP, va_S.rf, hz⟩
  obtain ⟨hx, hb, hml, hown, hts, hKs, hT, hb0, hlocks, hret⟩ := id C
  have hl := lv_entry [rv E (some o), .int a_1] (n := 2) (by simp [lg_len_nil, lg_len_i, lg_len_j, lg_len_q])
  rw [lg_entry_eq]
  generalize (lg_sl [rv E (some o), .int a_1] ++ List.replicate (2 - (lg_sl [rv E (some o), .int a_1]).length) Slot.unset).toArray = ls at hl ⊢
  replace hl : lv_has ls 2 [(0, rv E (some o)), (1, .int a_1)] := by simpa only [lv_args, cat_q, cat_i, cat_j, reduceIte, Nat.reduceEqDiff, Nat.reduceAdd, Nat.zero_add] using hl
  generalize s.heap = H at hH ⊢
  unfold f_X2_add at hf
  refine lv_iload_n hx hb dX2_add_0 rfl (lv_at hl 1 rfl) ?_
  refine lv_if_lt (tgt := 47) hx hb dX2_add_1 (by decide) (fun c1 => ?_) (fun c1 => ?_)
  · replace hf := (if_pos c1).symm.trans hf
    exact hw_vret hx hb hret hf hH hlocks dX2_add_47
  · replace hf := (if_neg c1).symm.trans hf
    refine lv_iload_n hx hb dX2_add_4 rfl (lv_at hl 1 rfl) ?_
    refine lv_sipush (v := 600) hx hb dX2_add_5 (by decide) ?_
    refine lv_icmp_ge (tgt := 47) hx hb dX2_add_8 (by decide) (fun c2 => ?_) (fun c2 => ?_)
    · replace hf := (if_pos c2).symm.trans hf
      exact hw_vret hx hb hret hf hH hlocks dX2_add_47
    · replace hf := (if_neg c2).symm.trans hf
      refine hl_aload_n hx hb dX2_add_11 rfl (lv_at hl 0 rfl) ?_
      refine lv_iload_n hx hb dX2_add_12 rfl (lv_at hl 1 rfl) ?_
      obtain ⟨q3, hq3, hf⟩ := bnd hf
      refine hcV_i hx hb hml hown hts hKs hT hb0 hH (As := [.int a_1]) (rest := []) (k_X2_contains l E K H.size o a_1 w ho hq3) (gV m3_114 m3_107 m3_108 m1_3 m3_109) hd_X2_contains ⟨Nat.le_of_ble_eq_true rfl, Nat.le_of_ble_eq_true rfl, rfl, rfl⟩ rfl ho rfl rfl rfl hl.1 rfl rc0 rfl dX2_add_13 ⟨Nat.zero_le _, Nat.zero_le _⟩ (fun H locs hH => ?_)
      refine lv_if_ne (tgt := 47) hx hb dX2_add_16 (by decide) (fun c4 => ?_) (fun c4 => ?_)
      · replace hf := (if_neg c4).symm.trans hf
        exact hw_vret hx hb hret hf hH hlocks dX2_add_47
      · replace hf := (if_pos c4).symm.trans hf
        refine hl_aload_n hx hb dX2_add_19 rfl (lv_at hl 0 rfl) ?_
        refine g2_0 hx hb hts hown hKs hH rfl ho m1_55 dX2_add_20 ?_
        refine lv_iload_n hx hb dX2_add_23 rfl (lv_at hl 1 rfl) ?_
        refine lv_bipush (v := 32) hx hb dX2_add_24 (by decide) ?_
        refine lv_idiv hx hb dX2_add_26 (by decide) ?_
        refine lv_dup2_11 hx hb dX2_add_27 rfl rv_cat ?_
        obtain ⟨a5, ha5, hf⟩ := bnd hf
        replace ha5 := cha_some ha5
        obtain ⟨j6, hj6, hf⟩ := bnd hf
        refine hw_iald hx hb hKs hH ha5.1 ha5.2 hj6 dX2_add_28 ?_
        refine lv_iconst (v := 1) hx hb dX2_add_29 (by decide) ?_
        refine lv_iload_n hx hb dX2_add_30 rfl (lv_at hl 1 rfl) ?_
        refine lv_bipush (v := 32) hx hb dX2_add_31 (by decide) ?_
        refine lv_irem hx hb dX2_add_33 (by decide) ?_
        refine lv_ishl hx hb dX2_add_34 ?_
        refine lv_ior hx hb dX2_add_35 ?_
        obtain ⟨j7, hj7, hf⟩ := bnd hf
        obtain ⟨w8, hw8, hf⟩ := bnd hf
        replace hw8 := Option.some.inj hw8
        refine hw_iast (x := ((aI q3.2 a5.1 j6) ||| (1 <<< ((a_1 - a_1 / 32 * 32) &&& 31)))) hx hb hKs hH ha5.1 ha5.2 hj7 dX2_add_36 (fun H locs hH => ?_)
        rw [hw8] at hH
        refine hl_aload_n hx hb dX2_add_37 rfl (lv_at hl 0 rfl) ?_
        refine lv_dup hx hb dX2_add_38 rv_cat ?_
        refine g2_1 hx hb hts hown hKs hH rfl ho m1_56 dX2_add_39 ?_
        refine lv_iconst (v := 1) hx hb dX2_add_42 (by decide) ?_
        refine lv_iadd hx hb dX2_add_43 ?_
        obtain ⟨w9, hw9, hf⟩ := bnd hf
        replace hw9 := Option.some.inj hw9
        refine p2_1 (v := ((wI w8 201 o) + 1)) hx hb hts hown hKs hH rfl ho m1_56 dX2_add_44 (fun H locs hH => ?_)
        rw [hw9] at hH
        exact hw_vret hx hb hret hf hH hlocks dX2_add_47

theorem dX2_copyFrom_0 : decode cX2_copyFrom 0 = .ok (.aload_n 1, 1) := by decide +kernel
theorem dX2_copyFrom_1 : decode cX2_copyFrom 1 = .ok (.getfield 9, 3) := by decide +kernel
theorem dX2_copyFrom_4 : decode cX2_copyFrom 4 = .ok (.iconst 0, 1) := by decide +kernel
theorem dX2_copyFrom_5 : decode cX2_copyFrom 5 = .ok (.aload_n 0, 1) := by decide +kernel
theorem dX2_copyFrom_6 : decode cX2_copyFrom 6 = .ok (.getfield 9, 3) := by decide +kernel
theorem dX2_copyFrom_9 : decode cX2_copyFrom 9 = .ok (.iconst 0, 1) := by decide +kernel
theorem dX2_copyFrom_10 : decode cX2_copyFrom 10 = .ok (.aload_n 0, 1) := by decide +kernel
theorem dX2_copyFrom_11 : decode cX2_copyFrom 11 = .ok (.getfield 9, 3) := by decide +kernel
theorem dX2_copyFrom_14 : decode cX2_copyFrom 14 = .ok (.arraylength, 1) := by decide +kernel
theorem dX2_copyFrom_15 : decode cX2_copyFrom 15 = .ok (.invokestatic 29, 3) := by decide +kernel
theorem dX2_copyFrom_18 : decode cX2_copyFrom 18 = .ok (.aload_n 0, 1) := by decide +kernel
theorem dX2_copyFrom_19 : decode cX2_copyFrom 19 = .ok (.aload_n 1, 1) := by decide +kernel
theorem dX2_copyFrom_20 : decode cX2_copyFrom 20 = .ok (.getfield 19, 3) := by decide +kernel
theorem dX2_copyFrom_23 : decode cX2_copyFrom 23 = .ok (.putfield 19, 3) := by decide +kernel
theorem dX2_copyFrom_26 : decode cX2_copyFrom 26 = .ok (.return_, 1) := by decide +kernel
theorem hd_X2_copyFrom : yX2_copyFrom.cls = RX2 ∧ yX2_copyFrom.cls ≠ "java/lang/invoke/MethodHandle" ∧ yX2_copyFrom.cls ≠ "java/lang/invoke/VarHandle" ∧ (parseMethodDescriptor yX2_copyFrom.desc).map (fun d => d.parameters.length) = some 1 := by decide +kernel
theorem hs_X2_copyFrom : yX2_copyFrom.cls ≠ "java/lang/invoke/MethodHandle" ∧ yX2_copyFrom.cls ≠ "java/lang/invoke/VarHandle" ∧ (parseMethodDescriptor yX2_copyFrom.desc).map (fun d => d.parameters.length) = some 1 := by decide +kernel
set_option maxHeartbeats 4000000 in
set_option maxRecDepth 100000 in
theorem k_X2_copyFrom (l : Launch) (E : Ev) (K : Kd) (z : Nat) (o : Nat) (a_1 : Option Nat) (w : Wd) (ho : K o = some (1, 0)) {w' : Wd} (hf : f_X2_copyFrom K o a_1 w = some w') : Met l yX2_copyFrom (Cond.code yX2_copyFrom cX2_copyFrom 2 (Option.none : Option Jvm.ClassFile.FieldType) :: bt) ({ frames := 1, cells := 0, slots := 0, locals := 60 } : Room) (va_Pc [rv E (some o), rv E a_1] (HB E K w z)) (QV E K z w') 0 0 (hA E) := by
  refine Met.ofW (cc := cX2_copyFrom) (maxL := 2) (ret := (Option.none : Option Jvm.ClassFile.FieldType)) (by decide) rfl ?_
  intro p e s m args below meth c s₁ B hml hv
  obtain ⟨rfl, hz, hP, hKs, hT, hb0⟩ := hv
  have C : CX p l e s m _ meth c cX2_copyFrom 2 RX2 (Option.none : Option Jvm.ClassFile.FieldType) E := ⟨B.exec, B.bytes, hml, findClass_of_methodNamed B.named, fun w h => atoms_spec (ws := Cond.code yX2_copyFrom cX2_copyFrom 2 (Option.none : Option Jvm.ClassFile.FieldType) :: bt) B.pre w (List.mem_cons_of_mem _ h), hKs, hT, by rw [hz]; exact hb0, B.notSynchronized, B.returns⟩
  have hH : HQ E K z w s s.heap [] := ⟨hP, va_S.rf, hz⟩
  obtain ⟨hx, hb, hml, hown, hts, hKs, hT, hb0, hlocks, hret⟩ := id C
  have hl := lv_entry [rv E (some o), rv E a_1] (n := 2) (by simp [lg_len_nil, lg_len_i, lg_len_j, lg_len_q])
  rw [lg_entry_eq]
  generalize (lg_sl [rv E (some o), rv E a_1] ++ List.replicate (2 - (lg_sl [rv E (some o), rv E a_1]).length) Slot.unset).toArray = ls at hl ⊢
  replace hl : lv_has ls 2 [(0, rv E (some o)), (1, rv E a_1)] := by simpa only [lv_args, cat_q, cat_i, cat_j, reduceIte, Nat.reduceEqDiff, Nat.reduceAdd, Nat.zero_add] using hl
  generalize s.heap = H at hH ⊢
  unfold f_X2_copyFrom at hf
  refine hl_aload_n hx hb dX2_copyFrom_0 rfl (lv_at hl 1 rfl) ?_
  obtain ⟨a1, ha1, hf⟩ := bnd hf
  replace ha1 := chk_some ha1
  refine g2_0 hx hb hts hown hKs hH ha1.1 ha1.2 m1_55 dX2_copyFrom_1 ?_
  refine lv_iconst (v := 0) hx hb dX2_copyFrom_4 (by decide) ?_
  refine hl_aload_n hx hb dX2_copyFrom_5 rfl (lv_at hl 0 rfl) ?_
  refine g2_0 hx hb hts hown hKs hH rfl ho m1_55 dX2_copyFrom_6 ?_
  refine lv_iconst (v := 0) hx hb dX2_copyFrom_9 (by decide) ?_
  refine hl_aload_n hx hb dX2_copyFrom_10 rfl (lv_at hl 0 rfl) ?_
  refine g2_0 hx hb hts hown hKs hH rfl ho m1_55 dX2_copyFrom_11 ?_
  obtain ⟨a2, ha2, hf⟩ := bnd hf
  replace ha2 := cha_some ha2
  refine hw_alen20 hx hb hKs hH ha2.1 ha2.2 dX2_copyFrom_14 ?_
  obtain ⟨a3, ha3, hf⟩ := bnd hf
  replace ha3 := cha_some ha3
  obtain ⟨_, hg4, hf⟩ := bnd hf
  replace hg4 := grd_some hg4
  obtain ⟨w5, hw5, hf⟩ := bnd hf
  replace hw5 := Option.some.inj hw5
  refine hw_copy hx hb (hml.trans hl.1.symm) hown (hts _ m3_225) (hts _ m3_227) (hts _ m3_226) (hts _ m1_18) hKs hH ha3.1 ha3.2 ha2.1 ha2.2 hg4.1 hg4.2.1 hg4.2.2.1 hg4.2.2.2.1 hg4.2.2.2.2 (Nat.le_of_ble_eq_true rfl) (by decide) dX2_copyFrom_15 (fun H locs hH => ?_)
  rw [hw5] at hH
  refine hl_aload_n hx hb dX2_copyFrom_18 rfl (lv_at hl 0 rfl) ?_
  refine hl_aload_n hx hb dX2_copyFrom_19 rfl (lv_at hl 1 rfl) ?_
  refine g2_1 hx hb hts hown hKs hH ha1.1 ha1.2 m1_56 dX2_copyFrom_20 ?_
  obtain ⟨w6, hw6, hf⟩ := bnd hf
  replace hw6 := Option.some.inj hw6
  refine p2_1 (v := (wI w5 201 a1)) hx hb hts hown hKs hH rfl ho m1_56 dX2_copyFrom_23 (fun H locs hH => ?_)
  rw [hw6] at hH
  exact hw_vret hx hb hret hf hH hlocks dX2_copyFrom_26

theorem dX3_clear_0 : decode cX3_clear 0 = .ok (.aload_n 0, 1) := by decide +kernel
theorem dX3_clear_1 : decode cX3_clear 1 = .ok (.iconst 0, 1) := by decide +kernel
theorem dX3_clear_2 : decode cX3_clear 2 = .ok (.putfield 7, 3) := by decide +kernel
theorem dX3_clear_5 : decode cX3_clear 5 = .ok (.aload_n 0, 1) := by decide +kernel
theorem dX3_clear_6 : decode cX3_clear 6 = .ok (.iconst 1, 1) := by decide +kernel
theorem dX3_clear_7 : decode cX3_clear 7 = .ok (.putfield 13, 3) := by decide +kernel
theorem dX3_clear_10 : decode cX3_clear 10 = .ok (.aload_n 0, 1) := by decide +kernel
theorem dX3_clear_11 : decode cX3_clear 11 = .ok (.iconst 1, 1) := by decide +kernel
theorem dX3_clear_12 : decode cX3_clear 12 = .ok (.putfield 16, 3) := by decide +kernel
theorem dX3_clear_15 : decode cX3_clear 15 = .ok (.aload_n 0, 1) := by decide +kernel
theorem dX3_clear_16 : decode cX3_clear 16 = .ok (.iconst 0, 1) := by decide +kernel
theorem dX3_clear_17 : decode cX3_clear 17 = .ok (.putfield 19, 3) := by decide +kernel
theorem dX3_clear_20 : decode cX3_clear 20 = .ok (.aload_n 0, 1) := by decide +kernel
theorem dX3_clear_21 : decode cX3_clear 21 = .ok (.iconst 0, 1) := by decide +kernel
theorem dX3_clear_22 : decode cX3_clear 22 = .ok (.putfield 23, 3) := by decide +kernel
theorem dX3_clear_25 : decode cX3_clear 25 = .ok (.aload_n 0, 1) := by decide +kernel
theorem dX3_clear_26 : decode cX3_clear 26 = .ok (.iconst 0, 1) := by decide +kernel
theorem dX3_clear_27 : decode cX3_clear 27 = .ok (.putfield 26, 3) := by decide +kernel
theorem dX3_clear_30 : decode cX3_clear 30 = .ok (.aload_n 0, 1) := by decide +kernel
theorem dX3_clear_31 : decode cX3_clear 31 = .ok (.iconst 0, 1) := by decide +kernel
theorem dX3_clear_32 : decode cX3_clear 32 = .ok (.putfield 29, 3) := by decide +kernel
theorem dX3_clear_35 : decode cX3_clear 35 = .ok (.return_, 1) := by decide +kernel
theorem hd_X3_clear : yX3_clear.cls = RX3 ∧ yX3_clear.cls ≠ "java/lang/invoke/MethodHandle" ∧ yX3_clear.cls ≠ "java/lang/invoke/VarHandle" ∧ (parseMethodDescriptor yX3_clear.desc).map (fun d => d.parameters.length) = some 0 := by decide +kernel
theorem hs_X3_clear : yX3_clear.cls ≠ "java/lang/invoke/MethodHandle" ∧ yX3_clear.cls ≠ "java/lang/invoke/VarHandle" ∧ (parseMethodDescriptor yX3_clear.desc).map (fun d => d.parameters.length) = some 0 := by decide +kernel
set_option maxHeartbeats 4000000 in
set_option maxRecDepth 100000 in
theorem k_X3_clear (l : Launch) (E : Ev) (K : Kd) (z : Nat) (o : Nat) (w : Wd) (ho : K o = some (2, 0)) {w' : Wd} (hf : f_X3_clear K o w = some w') : Met l yX3_clear (Cond.code yX3_clear cX3_clear 1 (Option.none : Option Jvm.ClassFile.FieldType) :: bt) ({ frames := 0, cells := 0, slots := 0, locals := 0 } : Room) (va_Pc [rv E (some o)] (HB E K w z)) (QV E K z w') 0 0 (hA E) := by
  refine Met.ofW (cc := cX3_clear) (maxL := 1) (ret := (Option.none : Option Jvm.ClassFile.FieldType)) (by decide) rfl ?_
  intro p e s m args below meth c s₁ B hml hv
  obtain ⟨rfl, hz, hP, hKs, hT, hb0⟩ := hv
  have C : CX p l e s m _ meth c cX3_clear 1 RX3 (Option.none : Option Jvm.ClassFile.FieldType) E := ⟨B.exec, B.bytes, hml, findClass_of_methodNamed B.named, fun w h => atoms_spec (ws := Cond.code yX3_clear cX3_clear 1 (Option.none : Option Jvm.ClassFile.FieldType) :: bt) B.pre w (List.mem_cons_of_mem _ h), hKs, hT, by rw [hz]; exact hb0, B.notSynchronized, B.returns⟩
  have hH : HQ E K z w s s.heap [] := ⟨hP, va_S.rf, hz⟩
  obtain ⟨hx, hb, hml, hown, hts, hKs, hT, hb0, hlocks, hret⟩ := id C
  have hl := lv_entry [rv E (some o)] (n := 1) (by simp [lg_len_nil, lg_len_i, lg_len_j, lg_len_q])
  rw [lg_entry_eq]
  generalize (lg_sl [rv E (some o)] ++ List.replicate (1 - (lg_sl [rv E (some o)]).length) Slot.unset).toArray = ls at hl ⊢
  replace hl : lv_has ls 1 [(0, rv E (some o))] := by simpa only [lv_args, cat_q, cat_i, cat_j, reduceIte, Nat.reduceEqDiff, Nat.reduceAdd, Nat.zero_add] using hl
  generalize s.heap = H at hH ⊢
  unfold f_X3_clear at hf
  refine hl_aload_n hx hb dX3_clear_0 rfl (lv_at hl 0 rfl) ?_
  refine lv_iconst (v := 0) hx hb dX3_clear_1 (by decide) ?_
  obtain ⟨w1, hw1, hf⟩ := bnd hf
  replace hw1 := Option.some.inj hw1
  refine p3_0 (v := 0) hx hb hts hown hKs hH rfl ho m1_87 dX3_clear_2 (fun H locs hH => ?_)
  rw [hw1] at hH
  refine hl_aload_n hx hb dX3_clear_5 rfl (lv_at hl 0 rfl) ?_
  refine lv_iconst (v := 1) hx hb dX3_clear_6 (by decide) ?_
  obtain ⟨w2, hw2, hf⟩ := bnd hf
  replace hw2 := Option.some.inj hw2
  refine p3_1 (v := 1) hx hb hts hown hKs hH rfl ho m1_92 dX3_clear_7 (fun H locs hH => ?_)
  rw [hw2] at hH
  refine hl_aload_n hx hb dX3_clear_10 rfl (lv_at hl 0 rfl) ?_
  refine lv_iconst (v := 1) hx hb dX3_clear_11 (by decide) ?_
  obtain ⟨w3, hw3, hf⟩ := bnd hf
  replace hw3 := Option.some.inj hw3
  refine p3_2 (v := 1) hx hb hts hown hKs hH rfl ho m1_97 dX3_clear_12 (fun H locs hH => ?_)
  rw [hw3] at hH
  refine hl_aload_n hx hb dX3_clear_15 rfl (lv_at hl 0 rfl) ?_
  refine lv_iconst (v := 0) hx hb dX3_clear_16 (by decide) ?_
  obtain ⟨w4, hw4, hf⟩ := bnd hf
  replace hw4 := Option.some.inj hw4
  refine p3_3 (v := false) hx hb hts hown hKs hH rfl ho m1_101 dX3_clear_17 (fun H locs hH => ?_)
  rw [hw4] at hH
  refine hl_aload_n hx hb dX3_clear_20 rfl (lv_at hl 0 rfl) ?_
  refine lv_iconst (v := 0) hx hb dX3_clear_21 (by decide) ?_
  obtain ⟨w5, hw5, hf⟩ := bnd hf
  replace hw5 := Option.some.inj hw5
  refine p3_4 (v := 0) hx hb hts hown hKs hH rfl ho m1_105 dX3_clear_22 (fun H locs hH => ?_)
  rw [hw5] at hH
  refine hl_aload_n hx hb dX3_clear_25 rfl (lv_at hl 0 rfl) ?_
  refine lv_iconst (v := 0) hx hb dX3_clear_26 (by decide) ?_
  obtain ⟨w6, hw6, hf⟩ := bnd hf
  replace hw6 := Option.some.inj hw6
  refine p3_5 (v := 0) hx hb hts hown hKs hH rfl ho m1_110 dX3_clear_27 (fun H locs hH => ?_)
  rw [hw6] at hH
  refine hl_aload_n hx hb dX3_clear_30 rfl (lv_at hl 0 rfl) ?_
  refine lv_iconst (v := 0) hx hb dX3_clear_31 (by decide) ?_
  obtain ⟨w7, hw7, hf⟩ := bnd hf
  replace hw7 := Option.some.inj hw7
  refine p3_6 (v := 0) hx hb hts hown hKs hH rfl ho m1_116 dX3_clear_32 (fun H locs hH => ?_)
  rw [hw7] at hH
  exact hw_vret hx hb hret hf hH hlocks dX3_clear_35

theorem dX4_isFull_0 : decode cX4_isFull 0 = .ok (.aload_n 0, 1) := by decide +kernel
theorem dX4_isFull_1 : decode cX4_isFull 1 = .ok (.getfield 21, 3) := by decide +kernel
theorem dX4_isFull_4 : decode cX4_isFull 4 = .ok (.aload_n 0, 1) := by decide +kernel
theorem dX4_isFull_5 : decode cX4_isFull 5 = .ok (.getfield 15, 3) := by decide +kernel
theorem dX4_isFull_8 : decode cX4_isFull 8 = .ok (.arraylength, 1) := by decide +kernel
theorem dX4_isFull_9 : decode cX4_isFull 9 = .ok (.if_icmp .lt 7, 3) := by decide +kernel
theorem dX4_isFull_12 : decode cX4_isFull 12 = .ok (.iconst 1, 1) := by decide +kernel
theorem dX4_isFull_13 : decode cX4_isFull 13 = .ok (.goto 4, 3) := by decide +kernel
theorem dX4_isFull_16 : decode cX4_isFull 16 = .ok (.iconst 0, 1) := by decide +kernel
theorem dX4_isFull_17 : decode cX4_isFull 17 = .ok (.ireturn, 1) := by decide +kernel
theorem hd_X4_isFull : yX4_isFull.cls = RX4 ∧ yX4_isFull.cls ≠ "java/lang/invoke/MethodHandle" ∧ yX4_isFull.cls ≠ "java/lang/invoke/VarHandle" ∧ (parseMethodDescriptor yX4_isFull.desc).map (fun d => d.parameters.length) = some 0 := by decide +kernel
theorem hs_X4_isFull : yX4_isFull.cls ≠ "java/lang/invoke/MethodHandle" ∧ yX4_isFull.cls ≠ "java/lang/invoke/VarHandle" ∧ (parseMethodDescriptor yX4_isFull.desc).map (fun d => d.parameters.length) = some 0 := by decide +kernel
set_option maxHeartbeats 4000000 in
set_option maxRecDepth 100000 in
theorem k_X4_isFull (l : Launch) (E : Ev) (K : Kd) (z : Nat) (o : Nat) (w : Wd) (ho : K o = some (3, 0)) {r : Bool} {w' : Wd} (hf : f_X4_isFull K o w = some (r, w')) : Met l yX4_isFull (Cond.code yX4_isFull cX4_isFull 1 (Option.some Jvm.ClassFile.FieldType.boolean) :: bt) ({ frames := 0, cells := 0, slots := 0, locals := 0 } : Room) (va_Pc [rv E (some o)] (HB E K w z)) (QI E K z w' (b2i r)) 0 0 (hA E) := by
  refine Met.ofW (cc := cX4_isFull) (maxL := 1) (ret := (Option.some Jvm.ClassFile.FieldType.boolean)) (by decide) rfl ?_
  intro p e s m args below meth c s₁ B hml hv
  obtain ⟨rfl, hz, hP, hKs, hT, hb0⟩ := hv
  have C : CX p l e s m _ meth c cX4_isFull 1 RX4 (Option.some Jvm.ClassFile.FieldType.boolean) E := ⟨B.exec, B.bytes, hml, findClass_of_methodNamed B.named, fun w h => atoms_spec (ws := Cond.code yX4_isFull cX4_isFull 1 (Option.some Jvm.ClassFile.FieldType.boolean) :: bt) B.pre w (List.mem_cons_of_mem _ h), hKs, hT, by rw [hz]; exact hb0, B.notSynchronized, B.returns⟩
  have hH : HQ E K z w s s.heap [] := ⟨hP, va_S.rf, hz⟩
  obtain ⟨hx, hb, hml, hown, hts, hKs, hT, hb0, hlocks, hret⟩ := id C
  have hl := lv_entry [rv E (some o)] (n := 1) (by simp [lg_len_nil, lg_len_i, lg_len_j, lg_len_q])
  rw [lg_entry_eq]
  generalize (lg_sl [rv E (some o)] ++ List.replicate (1 - (lg_sl [rv E (some o)]).length) Slot.unset).toArray = ls at hl ⊢
  replace hl : lv_has ls 1 [(0, rv E (some o))] := by simpa only [lv_args, cat_q, cat_i, cat_j, reduceIte, Nat.reduceEqDiff, Nat.reduceAdd, Nat.zero_add] using hl
  generalize s.heap = H at hH ⊢
  unfold f_X4_isFull at hf
  refine hl_aload_n hx hb dX4_isFull_0 rfl (lv_at hl 0 rfl) ?_
  refine g4_1 hx hb hts hown hKs hH rfl ho m1_74 dX4_isFull_1 ?_
  refine hl_aload_n hx hb dX4_isFull_4 rfl (lv_at hl 0 rfl) ?_
  refine g4_0 hx hb hts hown hKs hH rfl ho m1_73 dX4_isFull_5 ?_
  obtain ⟨a1, ha1, hf⟩ := bnd hf
  replace ha1 := cha_some ha1
  refine hw_alen23 hx hb hKs hH ha1.1 ha1.2 dX4_isFull_8 ?_
  refine lv_icmp_lt (tgt := 16) hx hb dX4_isFull_9 (by decide) (fun c2 => ?_) (fun c2 => ?_)
  · replace hf := (if_pos c2).symm.trans hf
    refine lv_iconst (v := 0) hx hb dX4_isFull_16 (by decide) ?_
    exact hw_zret hx hb hret rfl hf hH hlocks dX4_isFull_17
  · replace hf := (if_neg c2).symm.trans hf
    refine lv_iconst (v := 1) hx hb dX4_isFull_12 (by decide) ?_
    refine lv_goto (tgt := 17) hx hb dX4_isFull_13 (by decide) ?_
    exact hw_zret hx hb hret rfl hf hH hlocks dX4_isFull_17

theorem dX4_add_0 : decode cX4_add 0 = .ok (.aload_n 0, 1) := by decide +kernel
theorem dX4_add_1 : decode cX4_add 1 = .ok (.getfield 21, 3) := by decide +kernel
theorem dX4_add_4 : decode cX4_add 4 = .ok (.aload_n 0, 1) := by decide +kernel
theorem dX4_add_5 : decode cX4_add 5 = .ok (.getfield 15, 3) := by decide +kernel
theorem dX4_add_8 : decode cX4_add 8 = .ok (.arraylength, 1) := by decide +kernel
theorem dX4_add_9 : decode cX4_add 9 = .ok (.if_icmp .ge 23, 3) := by decide +kernel
theorem dX4_add_12 : decode cX4_add 12 = .ok (.aload_n 0, 1) := by decide +kernel
theorem dX4_add_13 : decode cX4_add 13 = .ok (.getfield 15, 3) := by decide +kernel
theorem dX4_add_16 : decode cX4_add 16 = .ok (.aload_n 0, 1) := by decide +kernel
theorem dX4_add_17 : decode cX4_add 17 = .ok (.getfield 21, 3) := by decide +kernel
theorem dX4_add_20 : decode cX4_add 20 = .ok (.lload_n 1, 1) := by decide +kernel
theorem dX4_add_21 : decode cX4_add 21 = .ok (.lastore, 1) := by decide +kernel
theorem dX4_add_22 : decode cX4_add 22 = .ok (.aload_n 0, 1) := by decide +kernel
theorem dX4_add_23 : decode cX4_add 23 = .ok (.dup, 1) := by decide +kernel
theorem dX4_add_24 : decode cX4_add 24 = .ok (.getfield 21, 3) := by decide +kernel
theorem dX4_add_27 : decode cX4_add 27 = .ok (.iconst 1, 1) := by decide +kernel
theorem dX4_add_28 : decode cX4_add 28 = .ok (.iadd, 1) := by decide +kernel
theorem dX4_add_29 : decode cX4_add 29 = .ok (.putfield 21, 3) := by decide +kernel
theorem dX4_add_32 : decode cX4_add 32 = .ok (.return_, 1) := by decide +kernel
theorem hd_X4_add : yX4_add.cls = RX4 ∧ yX4_add.cls ≠ "java/lang/invoke/MethodHandle" ∧ yX4_add.cls ≠ "java/lang/invoke/VarHandle" ∧ (parseMethodDescriptor yX4_add.desc).map (fun d => d.parameters.length) = some 1 := by decide +kernel
theorem hs_X4_add : yX4_add.cls ≠ "java/lang/invoke/MethodHandle" ∧ yX4_add.cls ≠ "java/lang/invoke/VarHandle" ∧ (parseMethodDescriptor yX4_add.desc).map (fun d => d.parameters.length) = some 1 := by decide +kernel
set_option maxHeartbeats 4000000 in
set_option maxRecDepth 100000 in
theorem k_X4_add (l : Launch) (E : Ev) (K : Kd) (z : Nat) (o : Nat) (a_1 : Int64) (w : Wd) (ho : K o = some (3, 0)) {w' : Wd} (hf : f_X4_add K o a_1 w = some w') : Met l yX4_add (Cond.code yX4_add cX4_add 3 (Option.none : Option Jvm.ClassFile.FieldType) :: bt) ({ frames := 0, cells := 0, slots := 0, locals := 0 } : Room) (va_Pc [rv E (some o), .long a_1] (HB E K w z)) (QV E K z w') 0 0 (hA E) := by
  refine Met.ofW (cc := cX4_add) (maxL := 3) (ret := (Option.none : Option Jvm.ClassFile.FieldType)) (by decide) rfl ?_
  intro p e s m args below meth c s₁ B hml hv
  obtain ⟨rfl, hz, hP, hKs, hT, hb0⟩ := hv
  have C : CX p l e s m _ meth c cX4_add 3 RX4 (Option.none : Option Jvm.ClassFile.FieldType) E := ⟨B.exec, B.bytes, hml, findClass_of_methodNamed B.named, fun w h => atoms_spec (ws := Cond.code yX4_add cX4_add 3 (Option.none : Option Jvm.ClassFile.FieldType) :: bt) B.pre w (List.mem_cons_of_mem _ h), hKs, hT, by rw [hz]; exact hb0, B.notSynchronized, B.returns⟩
  have hH : HQ E K z w s s.heap [] := ⟨hP, va_S.rf, hz⟩
  obtain ⟨hx, hb, hml, hown, hts, hKs, hT, hb0, hlocks, hret⟩ := id C
  have hl := lv_entry [rv E (some o), .long a_1] (n := 3) (by simp [lg_len_nil, lg_len_i, lg_len_j, lg_len_q])
  rw [lg_entry_eq]
  generalize (lg_sl [rv E (some o), .long a_1] ++ List.replicate (3 - (lg_sl [rv E (some o), .long a_1]).length) Slot.unset).toArray = ls at hl ⊢
  replace hl : lv_has ls 3 [(0, rv E (some o)), (1, .long a_1)] := by simpa only [lv_args, cat_q, cat_i, cat_j, reduceIte, Nat.reduceEqDiff, Nat.reduceAdd, Nat.zero_add] using hl
  generalize s.heap = H at hH ⊢
  unfold f_X4_add at hf
  refine hl_aload_n hx hb dX4_add_0 rfl (lv_at hl 0 rfl) ?_
  refine g4_1 hx hb hts hown hKs hH rfl ho m1_74 dX4_add_1 ?_
  refine hl_aload_n hx hb dX4_add_4 rfl (lv_at hl 0 rfl) ?_
  refine g4_0 hx hb hts hown hKs hH rfl ho m1_73 dX4_add_5 ?_
  obtain ⟨a1, ha1, hf⟩ := bnd hf
  replace ha1 := cha_some ha1
  refine hw_alen23 hx hb hKs hH ha1.1 ha1.2 dX4_add_8 ?_
  refine lv_icmp_ge (tgt := 32) hx hb dX4_add_9 (by decide) (fun c2 => ?_) (fun c2 => ?_)
  · replace hf := (if_pos c2).symm.trans hf
    exact hw_vret hx hb hret hf hH hlocks dX4_add_32
  · replace hf := (if_neg c2).symm.trans hf
    refine hl_aload_n hx hb dX4_add_12 rfl (lv_at hl 0 rfl) ?_
    refine g4_0 hx hb hts hown hKs hH rfl ho m1_73 dX4_add_13 ?_
    refine hl_aload_n hx hb dX4_add_16 rfl (lv_at hl 0 rfl) ?_
    refine g4_1 hx hb hts hown hKs hH rfl ho m1_74 dX4_add_17 ?_
    refine lv_lload_n hx hb dX4_add_20 rfl (lv_at hl 1 rfl) ?_
    obtain ⟨j3, hj3, hf⟩ := bnd hf
    obtain ⟨w4, hw4, hf⟩ := bnd hf
    replace hw4 := Option.some.inj hw4
    refine hw_last (x := a_1) hx hb hKs hH ha1.1 ha1.2 hj3 dX4_add_21 (fun H locs hH => ?_)
    rw [hw4] at hH
    refine hl_aload_n hx hb dX4_add_22 rfl (lv_at hl 0 rfl) ?_
    refine lv_dup hx hb dX4_add_23 rv_cat ?_
    refine g4_1 hx hb hts hown hKs hH rfl ho m1_74 dX4_add_24 ?_
    refine lv_iconst (v := 1) hx hb dX4_add_27 (by decide) ?_
    refine lv_iadd hx hb dX4_add_28 ?_
    obtain ⟨w5, hw5, hf⟩ := bnd hf
    replace hw5 := Option.some.inj hw5
    refine p4_1 (v := ((wI w4 401 o) + 1)) hx hb hts hown hKs hH rfl ho m1_74 dX4_add_29 (fun H locs hH => ?_)
    rw [hw5] at hH
    exact hw_vret hx hb hret hf hH hlocks dX4_add_32

theorem dX4_indexOf_0 : decode cX4_indexOf 0 = .ok (.iconst 0, 1) := by decide +kernel
theorem dX4_indexOf_1 : decode cX4_indexOf 1 = .ok (.istore_n 3, 1) := by decide +kernel
theorem dX4_indexOf_2 : decode cX4_indexOf 2 = .ok (.iload_n 3, 1) := by decide +kernel
theorem dX4_indexOf_3 : decode cX4_indexOf 3 = .ok (.aload_n 0, 1) := by decide +kernel
theorem dX4_indexOf_4 : decode cX4_indexOf 4 = .ok (.getfield 21, 3) := by decide +kernel
theorem dX4_indexOf_7 : decode cX4_indexOf 7 = .ok (.if_icmp .ge 22, 3) := by decide +kernel
theorem dX4_indexOf_10 : decode cX4_indexOf 10 = .ok (.aload_n 0, 1) := by decide +kernel
theorem dX4_indexOf_11 : decode cX4_indexOf 11 = .ok (.getfield 15, 3) := by decide +kernel
theorem dX4_indexOf_14 : decode cX4_indexOf 14 = .ok (.iload_n 3, 1) := by decide +kernel
theorem dX4_indexOf_15 : decode cX4_indexOf 15 = .ok (.laload, 1) := by decide +kernel
theorem dX4_indexOf_16 : decode cX4_indexOf 16 = .ok (.lload_n 1, 1) := by decide +kernel
theorem dX4_indexOf_17 : decode cX4_indexOf 17 = .ok (.lcmp, 1) := by decide +kernel
theorem dX4_indexOf_18 : decode cX4_indexOf 18 = .ok (.ifCond .ne 5, 3) := by decide +kernel
theorem dX4_indexOf_21 : decode cX4_indexOf 21 = .ok (.iload_n 3, 1) := by decide +kernel
theorem dX4_indexOf_22 : decode cX4_indexOf 22 = .ok (.ireturn, 1) := by decide +kernel
theorem dX4_indexOf_23 : decode cX4_indexOf 23 = .ok (.iinc 3 1, 3) := by decide +kernel
theorem dX4_indexOf_26 : decode cX4_indexOf 26 = .ok (.goto (-24), 3) := by decide +kernel
theorem dX4_indexOf_29 : decode cX4_indexOf 29 = .ok (.iconst (-1), 1) := by decide +kernel
theorem dX4_indexOf_30 : decode cX4_indexOf 30 = .ok (.ireturn, 1) := by decide +kernel
theorem hd_X4_indexOf : yX4_indexOf.cls = RX4 ∧ yX4_indexOf.cls ≠ "java/lang/invoke/MethodHandle" ∧ yX4_indexOf.cls ≠ "java/lang/invoke/VarHandle" ∧ (parseMethodDescriptor yX4_indexOf.desc).map (fun d => d.parameters.length) = some 1 := by decide +kernel
theorem hs_X4_indexOf : yX4_indexOf.cls ≠ "java/lang/invoke/MethodHandle" ∧ yX4_indexOf.cls ≠ "java/lang/invoke/VarHandle" ∧ (parseMethodDescriptor yX4_indexOf.desc).map (fun d => d.parameters.length) = some 1 := by decide +kernel
set_option maxHeartbeats 4000000 in
set_option maxRecDepth 100000 in
theorem l_X4_indexOf_L2 (C : CX p l e s m args meth c cX4_indexOf 4 RX4 (Option.some Jvm.ClassFile.FieldType.int) E) {o : Nat} (ho : K o = some (3, 0)) {r : Int32} {w' : Wd} (k : Int64 → Int32 → Wd → Option (Int32 × Wd)) (hk : ∀ (v1_2 : Int64) (v3_2 : Int32) (w : Wd) (H : Heap) (locs : List Loc) (ls : Array Slot), HQ E K z w s H locs → lv_has ls 4 [(1, .long v1_2), (3, .int v3_2), (0, rv E (some o))] → k v1_2 v3_2 w = some (r, w') → W p l e ({ frames := 0, cells := 0, slots := 0, locals := 0 } : Room) s m args below meth c H locs 0 0 (MQ below (QI E K z w' r) args s 0 0 (hA E)) (F0 m 29 ls [])) : ∀ (n : Nat) (v1_2 : Int64) (v3_2 : Int32) (w : Wd) (H : Heap) (locs : List Loc) (ls : Array Slot), HQ E K z w s H locs → lv_has ls 4 [(1, .long v1_2), (3, .int v3_2), (0, rv E (some o))] → f_X4_indexOf_L2 K o k n v1_2 v3_2 w = some (r, w') → W p l e ({ frames := 0, cells := 0, slots := 0, locals := 0 } : Room) s m args below meth c H locs 0 0 (MQ below (QI E K z w' r) args s 0 0 (hA E)) (F0 m 2 ls []) := by
  obtain ⟨hx, hb, hml, hown, hts, hKs, hT, hb0, hlocks, hret⟩ := id C
  intro n
  induction n with
  | zero =>
    intro v1_2 v3_2 w H locs ls hH hl hf
    cases hf
  | succ n ih =>
    intro v1_2 v3_2 w H locs ls hH hl hf
    rw [f_X4_indexOf_L2] at hf
    refine lv_iload_n hx hb dX4_indexOf_2 rfl (lv_at hl 1 rfl) ?_
    refine hl_aload_n hx hb dX4_indexOf_3 rfl (lv_at hl 2 rfl) ?_
    refine g4_1 hx hb hts hown hKs hH rfl ho m1_74 dX4_indexOf_4 ?_
    refine lv_icmp_ge (tgt := 29) hx hb dX4_indexOf_7 (by decide) (fun c2 => ?_) (fun c2 => ?_)
    · replace hf := (if_pos c2).symm.trans hf
      exact hk v1_2 v3_2 _ _ _ _ hH (lv_sub hl [0, 1, 2] rfl) hf
    · replace hf := (if_neg c2).symm.trans hf
      refine hl_aload_n hx hb dX4_indexOf_10 rfl (lv_at hl 2 rfl) ?_
      refine g4_0 hx hb hts hown hKs hH rfl ho m1_73 dX4_indexOf_11 ?_
      refine lv_iload_n hx hb dX4_indexOf_14 rfl (lv_at hl 1 rfl) ?_
      obtain ⟨a3, ha3, hf⟩ := bnd hf
      replace ha3 := cha_some ha3
      obtain ⟨j4, hj4, hf⟩ := bnd hf
      refine hw_lald hx hb hKs hH ha3.1 ha3.2 hj4 dX4_indexOf_15 ?_
      refine lv_lload_n hx hb dX4_indexOf_16 rfl (lv_at hl 0 rfl) ?_
      refine W.lcmp hx hb dX4_indexOf_17 ?_
      refine lv_if_ne (tgt := 23) hx hb dX4_indexOf_18 (by decide) (fun c5 => ?_) (fun c5 => ?_)
      · replace hf := (if_neg c5).symm.trans hf
        refine lv_iinc (v := (v3_2 + 1)) (lv' := [(3, .int ((v3_2 + 1))), (1, .long v1_2), (0, rv E (some o))]) hx hb dX4_indexOf_23 hl (k := 1) rfl rfl (by decide) rfl (fun ls hl => ?_)
        refine lv_goto (tgt := 2) hx hb dX4_indexOf_26 (by decide) ?_
        exact ih v1_2 (v3_2 + 1) _ _ _ _ hH (lv_sub hl [1, 0, 2] rfl) hf
      · replace hf := (if_pos c5).symm.trans hf
        refine lv_iload_n hx hb dX4_indexOf_21 rfl (lv_at hl 1 rfl) ?_
        exact hw_iret hx hb hret hf hH hlocks dX4_indexOf_22
set_option maxHeartbeats 4000000 in
set_option maxRecDepth 100000 in
theorem k_X4_indexOf (l : Launch) (E : Ev) (K : Kd) (z : Nat) (o : Nat) (a_1 : Int64) (w : Wd) (ho : K o = some (3, 0)) {r : Int32} {w' : Wd} (hf : f_X4_indexOf K o a_1 w = some (r, w')) : Met l yX4_indexOf (Cond.code yX4_indexOf cX4_indexOf 4 (Option.some Jvm.ClassFile.FieldType.int) :: bt) ({ frames := 0, cells := 0, slots := 0, locals := 0 } : Room) (va_Pc [rv E (some o), .long a_1] (HB E K w z)) (QI E K z w' r) 0 0 (hA E) := by
  refine Met.ofW (cc := cX4_indexOf) (maxL := 4) (ret := (Option.some Jvm.ClassFile.FieldType.int)) (by decide) rfl ?_
  intro p e s m args below meth c s₁ B hml hv
  obtain ⟨rfl, hz, hP, hKs, hT, hb0⟩ := hv
  have C : CX p l e s m _ meth c cX4_indexOf 4 RX4 (Option.some Jvm.ClassFile.FieldType.int) E := ⟨B.exec, B.bytes, hml, findClass_of_methodNamed B.named, fun w h => atoms_spec (ws := Cond.code yX4_indexOf cX4_indexOf 4 (Option.some Jvm.ClassFile.FieldType.int) :: bt) B.pre w (List.mem_cons_of_mem _ h), hKs, hT, by rw [hz]; exact hb0, B.notSynchronized, B.returns⟩
  have hH : HQ E K z w s s.heap [] := ⟨hP, va_S.rf, hz⟩
  obtain ⟨hx, hb, hml, hown, hts, hKs, hT, hb0, hlocks, hret⟩ := id C
  have hl := lv_entry [rv E (some o), .long a_1] (n := 4) (by simp [lg_len_nil, lg_len_i, lg_len_j, lg_len_q])
  rw [lg_entry_eq]
  generalize (lg_sl [rv E (some o), .long a_1] ++ List.replicate (4 - (lg_sl [rv E (some o), .long a_1]).length) Slot.unset).toArray = ls at hl ⊢
  replace hl : lv_has ls 4 [(0, rv E (some o)), (1, .long a_1)] := by simpa only [lv_args, cat_q, cat_i, cat_j, reduceIte, Nat.reduceEqDiff, Nat.reduceAdd, Nat.zero_add] using hl
  generalize s.heap = H at hH ⊢
  unfold f_X4_indexOf at hf
  refine lv_iconst (v := 0) hx hb dX4_indexOf_0 (by decide) ?_
  refine lv_istore_n (lv' := [(3, .int 0), (0, rv E (some o)), (1, .long a_1)]) hx hb dX4_indexOf_1 rfl hl (by decide) rfl (fun ls hl => ?_)
  refine l_X4_indexOf_L2  C ho _ (fun v1_2 v3_2 w1 H locs ls hH hl hf => ?_) fu a_1 0 w _ _ _ hH (lv_sub hl [2, 0, 1] rfl) hf
  refine lv_iconst (v := (-1)) hx hb dX4_indexOf_29 (by decide) ?_
  exact hw_iret hx hb hret hf hH hlocks dX4_indexOf_30

theorem dX4_at_0 : decode cX4_at 0 = .ok (.iload_n 1, 1) := by decide +kernel
theorem dX4_at_1 : decode cX4_at 1 = .ok (.ifCond .lt 11, 3) := by decide +kernel
theorem dX4_at_4 : decode cX4_at 4 = .ok (.iload_n 1, 1) := by decide +kernel
theorem dX4_at_5 : decode cX4_at 5 = .ok (.aload_n 0, 1) := by decide +kernel
theorem dX4_at_6 : decode cX4_at 6 = .ok (.getfield 21, 3) := by decide +kernel
theorem dX4_at_9 : decode cX4_at 9 = .ok (.if_icmp .lt 7, 3) := by decide +kernel
theorem dX4_at_12 : decode cX4_at 12 = .ok (.lconst 0, 1) := by decide +kernel
theorem dX4_at_13 : decode cX4_at 13 = .ok (.goto 9, 3) := by decide +kernel
theorem dX4_at_16 : decode cX4_at 16 = .ok (.aload_n 0, 1) := by decide +kernel
theorem dX4_at_17 : decode cX4_at 17 = .ok (.getfield 15, 3) := by decide +kernel
theorem dX4_at_20 : decode cX4_at 20 = .ok (.iload_n 1, 1) := by decide +kernel
theorem dX4_at_21 : decode cX4_at 21 = .ok (.laload, 1) := by decide +kernel
theorem dX4_at_22 : decode cX4_at 22 = .ok (.lreturn, 1) := by decide +kernel
theorem hd_X4_at : yX4_at.cls = RX4 ∧ yX4_at.cls ≠ "java/lang/invoke/MethodHandle" ∧ yX4_at.cls ≠ "java/lang/invoke/VarHandle" ∧ (parseMethodDescriptor yX4_at.desc).map (fun d => d.parameters.length) = some 1 := by decide +kernel
theorem hs_X4_at : yX4_at.cls ≠ "java/lang/invoke/MethodHandle" ∧ yX4_at.cls ≠ "java/lang/invoke/VarHandle" ∧ (parseMethodDescriptor yX4_at.desc).map (fun d => d.parameters.length) = some 1 := by decide +kernel
set_option maxHeartbeats 4000000 in
set_option maxRecDepth 100000 in
theorem k_X4_at (l : Launch) (E : Ev) (K : Kd) (z : Nat) (o : Nat) (a_1 : Int32) (w : Wd) (ho : K o = some (3, 0)) {r : Int64} {w' : Wd} (hf : f_X4_at K o a_1 w = some (r, w')) : Met l yX4_at (Cond.code yX4_at cX4_at 2 (Option.some Jvm.ClassFile.FieldType.long) :: bt) ({ frames := 0, cells := 0, slots := 0, locals := 0 } : Room) (va_Pc [rv E (some o), .int a_1] (HB E K w z)) (QL E K z w' r) 0 0 (hA E) := by
  refine Met.ofW (cc := cX4_at) (maxL := 2) (ret := (Option.some Jvm.ClassFile.FieldType.long)) (by decide) rfl ?_
  intro p e s m args below meth c s₁ B hml hv
  obtain ⟨rfl, hz, hP, hKs, hT, hb0⟩ := hv
  have C : CX p l e s m _ meth c cX4_at 2 RX4 (Option.some Jvm.ClassFile.FieldType.long) E := ⟨B.exec, B.bytes, hml, findClass_of_methodNamed B.named, fun w h => atoms_spec (ws := Cond.code yX4_at cX4_at 2 (Option.some Jvm.ClassFile.FieldType.long) :: bt) B.pre w (List.mem_cons_of_mem _ h), hKs, hT, by rw [hz]; exact hb0, B.notSynchronized, B.returns⟩
  have hH : HQ E K z w s s.heap [] := ⟨hP, va_S.rf, hz⟩
  obtain ⟨hx, hb, hml, hown, hts, hKs, hT, hb0, hlocks, hret⟩ := id C
  have hl := lv_entry [rv E (some o), .int a_1] (n := 2) (by simp [lg_len_nil, lg_len_i, lg_len_j, lg_len_q])
  rw [lg_entry_eq]
  generalize (lg_sl [rv E (some o), .int a_1] ++ List.replicate (2 - (lg_sl [rv E (some o), .int a_1]).length) Slot.unset).toArray = ls at hl ⊢
  replace hl : lv_has ls 2 [(0, rv E (some o)), (1, .int a_1)] := by simpa only [lv_args, cat_q, cat_i, cat_j, reduceIte, Nat.reduceEqDiff, Nat.reduceAdd, Nat.zero_add] using hl
  generalize s.heap = H at hH ⊢
  unfold f_X4_at at hf
  refine lv_iload_n hx hb dX4_at_0 rfl (lv_at hl 1 rfl) ?_
  refine lv_if_lt (tgt := 12) hx hb dX4_at_1 (by decide) (fun c1 => ?_) (fun c1 => ?_)
  · replace hf := (if_pos c1).symm.trans hf
    refine lv_lconst (v := 0) hx hb dX4_at_12 rfl ?_
    refine lv_goto (tgt := 22) hx hb dX4_at_13 (by decide) ?_
    exact hw_lret hx hb hret hf hH hlocks dX4_at_22
  · replace hf := (if_neg c1).symm.trans hf
    refine lv_iload_n hx hb dX4_at_4 rfl (lv_at hl 1 rfl) ?_
    refine hl_aload_n hx hb dX4_at_5 rfl (lv_at hl 0 rfl) ?_
    refine g4_1 hx hb hts hown hKs hH rfl ho m1_74 dX4_at_6 ?_
    refine lv_icmp_lt (tgt := 16) hx hb dX4_at_9 (by decide) (fun c2 => ?_) (fun c2 => ?_)
    · replace hf := (if_pos c2).symm.trans hf
      refine hl_aload_n hx hb dX4_at_16 rfl (lv_at hl 0 rfl) ?_
      refine g4_0 hx hb hts hown hKs hH rfl ho m1_73 dX4_at_17 ?_
      refine lv_iload_n hx hb dX4_at_20 rfl (lv_at hl 1 rfl) ?_
      obtain ⟨a3, ha3, hf⟩ := bnd hf
      replace ha3 := cha_some ha3
      obtain ⟨j4, hj4, hf⟩ := bnd hf
      refine hw_lald hx hb hKs hH ha3.1 ha3.2 hj4 dX4_at_21 ?_
      exact hw_lret hx hb hret hf hH hlocks dX4_at_22
    · replace hf := (if_neg c2).symm.trans hf
      refine lv_lconst (v := 0) hx hb dX4_at_12 rfl ?_
      refine lv_goto (tgt := 22) hx hb dX4_at_13 (by decide) ?_
      exact hw_lret hx hb hret hf hH hlocks dX4_at_22

theorem dX5_exchange_0 : decode cX5_exchange 0 = .ok (.aload_n 0, 1) := by decide +kernel
theorem dX5_exchange_1 : decode cX5_exchange 1 = .ok (.getfield 21, 3) := by decide +kernel
theorem dX5_exchange_4 : decode cX5_exchange 4 = .ok (.astore_n 2, 1) := by decide +kernel
theorem dX5_exchange_5 : decode cX5_exchange 5 = .ok (.aload_n 0, 1) := by decide +kernel
theorem dX5_exchange_6 : decode cX5_exchange 6 = .ok (.aload_n 1, 1) := by decide +kernel
theorem dX5_exchange_7 : decode cX5_exchange 7 = .ok (.putfield 21, 3) := by decide +kernel
theorem dX5_exchange_10 : decode cX5_exchange 10 = .ok (.aload_n 2, 1) := by decide +kernel
theorem dX5_exchange_11 : decode cX5_exchange 11 = .ok (.areturn, 1) := by decide +kernel
theorem hd_X5_exchange : yX5_exchange.cls = RX5 ∧ yX5_exchange.cls ≠ "java/lang/invoke/MethodHandle" ∧ yX5_exchange.cls ≠ "java/lang/invoke/VarHandle" ∧ (parseMethodDescriptor yX5_exchange.desc).map (fun d => d.parameters.length) = some 1 := by decide +kernel
theorem hs_X5_exchange : yX5_exchange.cls ≠ "java/lang/invoke/MethodHandle" ∧ yX5_exchange.cls ≠ "java/lang/invoke/VarHandle" ∧ (parseMethodDescriptor yX5_exchange.desc).map (fun d => d.parameters.length) = some 1 := by decide +kernel
set_option maxHeartbeats 4000000 in
set_option maxRecDepth 100000 in
theorem k_X5_exchange (l : Launch) (E : Ev) (K : Kd) (z : Nat) (o : Nat) (a_1 : Option Nat) (w : Wd) (ho : K o = some (4, 0)) {r : Option Nat} {w' : Wd} (hf : f_X5_exchange K o a_1 w = some (r, w')) : Met l yX5_exchange (Cond.code yX5_exchange cX5_exchange 3 (Option.some (Jvm.ClassFile.FieldType.object RX9)) :: bt) ({ frames := 0, cells := 0, slots := 0, locals := 0 } : Room) (va_Pc [rv E (some o), rv E a_1] (HB E K w z)) (QR E K z w' r) 0 0 (hA E) := by
  refine Met.ofW (cc := cX5_exchange) (maxL := 3) (ret := (Option.some (Jvm.ClassFile.FieldType.object RX9))) (by decide) rfl ?_
  intro p e s m args below meth c s₁ B hml hv
  obtain ⟨rfl, hz, hP, hKs, hT, hb0⟩ := hv
  have C : CX p l e s m _ meth c cX5_exchange 3 RX5 (Option.some (Jvm.ClassFile.FieldType.object RX9)) E := ⟨B.exec, B.bytes, hml, findClass_of_methodNamed B.named, fun w h => atoms_spec (ws := Cond.code yX5_exchange cX5_exchange 3 (Option.some (Jvm.ClassFile.FieldType.object RX9)) :: bt) B.pre w (List.mem_cons_of_mem _ h), hKs, hT, by rw [hz]; exact hb0, B.notSynchronized, B.returns⟩
  have hH : HQ E K z w s s.heap [] := ⟨hP, va_S.rf, hz⟩
  obtain ⟨hx, hb, hml, hown, hts, hKs, hT, hb0, hlocks, hret⟩ := id C
  have hl := lv_entry [rv E (some o), rv E a_1] (n := 3) (by simp [lg_len_nil, lg_len_i, lg_len_j, lg_len_q])
  rw [lg_entry_eq]
  generalize (lg_sl [rv E (some o), rv E a_1] ++ List.replicate (3 - (lg_sl [rv E (some o), rv E a_1]).length) Slot.unset).toArray = ls at hl ⊢
  replace hl : lv_has ls 3 [(0, rv E (some o)), (1, rv E a_1)] := by simpa only [lv_args, cat_q, cat_i, cat_j, reduceIte, Nat.reduceEqDiff, Nat.reduceAdd, Nat.zero_add] using hl
  generalize s.heap = H at hH ⊢
  unfold f_X5_exchange at hf
  refine hl_aload_n hx hb dX5_exchange_0 rfl (lv_at hl 0 rfl) ?_
  refine g5_1 hx hb hts hown hKs hH rfl ho m2_31 dX5_exchange_1 ?_
  refine hl_astore_n (lv' := [(2, rv E (wR w 501 o)), (0, rv E (some o)), (1, rv E a_1)]) hx hb dX5_exchange_4 rfl hl (by decide) (by simp [List.filter_cons, cat_q, cat_i, cat_j]) (fun ls hl => ?_)
  refine hl_aload_n hx hb dX5_exchange_5 rfl (lv_at hl 1 rfl) ?_
  refine hl_aload_n hx hb dX5_exchange_6 rfl (lv_at hl 2 rfl) ?_
  obtain ⟨w1, hw1, hf⟩ := bnd hf
  replace hw1 := Option.some.inj hw1
  refine p5_1 (v := a_1) hx hb hts hown hKs hH rfl ho m2_31 dX5_exchange_7 (fun H locs hH => ?_)
  rw [hw1] at hH
  refine hl_aload_n hx hb dX5_exchange_10 rfl (lv_at hl 0 rfl) ?_
  exact hw_qret hx hb hret (by simp) hf hH hlocks dX5_exchange_11

theorem dX5_fail_0 : decode cX5_fail 0 = .ok (.aload_n 0, 1) := by decide +kernel
theorem dX5_fail_1 : decode cX5_fail 1 = .ok (.iload_n 1, 1) := by decide +kernel
theorem dX5_fail_2 : decode cX5_fail 2 = .ok (.putfield 29, 3) := by decide +kernel
theorem dX5_fail_5 : decode cX5_fail 5 = .ok (.aload_n 0, 1) := by decide +kernel
theorem dX5_fail_6 : decode cX5_fail 6 = .ok (.aload_n 0, 1) := by decide +kernel
theorem dX5_fail_7 : decode cX5_fail 7 = .ok (.getfield 12, 3) := by decide +kernel
theorem dX5_fail_10 : decode cX5_fail 10 = .ok (.getfield 59, 3) := by decide +kernel
theorem dX5_fail_13 : decode cX5_fail 13 = .ok (.putfield 25, 3) := by decide +kernel
theorem dX5_fail_16 : decode cX5_fail 16 = .ok (.iconst 0, 1) := by decide +kernel
theorem dX5_fail_17 : decode cX5_fail 17 = .ok (.ireturn, 1) := by decide +kernel
theorem hd_X5_fail : yX5_fail.cls = RX5 ∧ yX5_fail.cls ≠ "java/lang/invoke/MethodHandle" ∧ yX5_fail.cls ≠ "java/lang/invoke/VarHandle" ∧ (parseMethodDescriptor yX5_fail.desc).map (fun d => d.parameters.length) = some 1 := by decide +kernel
theorem hs_X5_fail : yX5_fail.cls ≠ "java/lang/invoke/MethodHandle" ∧ yX5_fail.cls ≠ "java/lang/invoke/VarHandle" ∧ (parseMethodDescriptor yX5_fail.desc).map (fun d => d.parameters.length) = some 1 := by decide +kernel
set_option maxHeartbeats 4000000 in
set_option maxRecDepth 100000 in
theorem k_X5_fail (l : Launch) (E : Ev) (K : Kd) (z : Nat) (o : Nat) (a_1 : Int32) (w : Wd) (ho : K o = some (4, 0)) {r : Bool} {w' : Wd} (hf : f_X5_fail K o a_1 w = some (r, w')) : Met l yX5_fail (Cond.code yX5_fail cX5_fail 2 (Option.some Jvm.ClassFile.FieldType.boolean) :: bt) ({ frames := 0, cells := 0, slots := 0, locals := 0 } : Room) (va_Pc [rv E (some o), .int a_1] (HB E K w z)) (QI E K z w' (b2i r)) 0 0 (hA E) := by
  refine Met.ofW (cc := cX5_fail) (maxL := 2) (ret := (Option.some Jvm.ClassFile.FieldType.boolean)) (by decide) rfl ?_
  intro p e s m args below meth c s₁ B hml hv
  obtain ⟨rfl, hz, hP, hKs, hT, hb0⟩ := hv
  have C : CX p l e s m _ meth c cX5_fail 2 RX5 (Option.some Jvm.ClassFile.FieldType.boolean) E := ⟨B.exec, B.bytes, hml, findClass_of_methodNamed B.named, fun w h => atoms_spec (ws := Cond.code yX5_fail cX5_fail 2 (Option.some Jvm.ClassFile.FieldType.boolean) :: bt) B.pre w (List.mem_cons_of_mem _ h), hKs, hT, by rw [hz]; exact hb0, B.notSynchronized, B.returns⟩
  have hH : HQ E K z w s s.heap [] := ⟨hP, va_S.rf, hz⟩
  obtain ⟨hx, hb, hml, hown, hts, hKs, hT, hb0, hlocks, hret⟩ := id C
  have hl := lv_entry [rv E (some o), .int a_1] (n := 2) (by simp [lg_len_nil, lg_len_i, lg_len_j, lg_len_q])
  rw [lg_entry_eq]
  generalize (lg_sl [rv E (some o), .int a_1] ++ List.replicate (2 - (lg_sl [rv E (some o), .int a_1]).length) Slot.unset).toArray = ls at hl ⊢
  replace hl : lv_has ls 2 [(0, rv E (some o)), (1, .int a_1)] := by simpa only [lv_args, cat_q, cat_i, cat_j, reduceIte, Nat.reduceEqDiff, Nat.reduceAdd, Nat.zero_add] using hl
  generalize s.heap = H at hH ⊢
  unfold f_X5_fail at hf
  refine hl_aload_n hx hb dX5_fail_0 rfl (lv_at hl 0 rfl) ?_
  refine lv_iload_n hx hb dX5_fail_1 rfl (lv_at hl 1 rfl) ?_
  obtain ⟨w1, hw1, hf⟩ := bnd hf
  replace hw1 := Option.some.inj hw1
  refine p5_2 (v := a_1) hx hb hts hown hKs hH rfl ho m2_32 dX5_fail_2 (fun H locs hH => ?_)
  rw [hw1] at hH
  refine hl_aload_n hx hb dX5_fail_5 rfl (lv_at hl 0 rfl) ?_
  refine hl_aload_n hx hb dX5_fail_6 rfl (lv_at hl 0 rfl) ?_
  refine g5_0 hx hb hts hown hKs hH rfl ho m2_30 dX5_fail_7 ?_
  obtain ⟨a2, ha2, hf⟩ := bnd hf
  replace ha2 := chk_some ha2
  refine gn8_2 hx hb hts hown hKs hH ha2.1 ha2.2 m2_4 dX5_fail_10 ?_
  obtain ⟨w3, hw3, hf⟩ := bnd hf
  replace hw3 := Option.some.inj hw3
  refine p5_3 (v := (wI w1 802 a2)) hx hb hts hown hKs hH rfl ho m2_34 dX5_fail_13 (fun H locs hH => ?_)
  rw [hw3] at hH
  refine lv_iconst (v := 0) hx hb dX5_fail_16 (by decide) ?_
  exact hw_zret hx hb hret rfl hf hH hlocks dX5_fail_17

theorem dX5_seesToldName_0 : decode cX5_seesToldName 0 = .ok (.aload_n 0, 1) := by decide +kernel
theorem dX5_seesToldName_1 : decode cX5_seesToldName 1 = .ok (.getfield 12, 3) := by decide +kernel
theorem dX5_seesToldName_4 : decode cX5_seesToldName 4 = .ok (.getfield 39, 3) := by decide +kernel
theorem dX5_seesToldName_7 : decode cX5_seesToldName 7 = .ok (.getstatic 253, 3) := by decide +kernel
theorem dX5_seesToldName_10 : decode cX5_seesToldName 10 = .ok (.if_acmp .eq 9, 3) := by decide +kernel
theorem dX5_seesToldName_13 : decode cX5_seesToldName 13 = .ok (.aload_n 0, 1) := by decide +kernel
theorem dX5_seesToldName_14 : decode cX5_seesToldName 14 = .ok (.iconst 1, 1) := by decide +kernel
theorem dX5_seesToldName_15 : decode cX5_seesToldName 15 = .ok (.invokevirtual 99, 3) := by decide +kernel
theorem dX5_seesToldName_18 : decode cX5_seesToldName 18 = .ok (.ireturn, 1) := by decide +kernel
theorem dX5_seesToldName_19 : decode cX5_seesToldName 19 = .ok (.aload_n 0, 1) := by decide +kernel
theorem dX5_seesToldName_20 : decode cX5_seesToldName 20 = .ok (.aload_n 0, 1) := by decide +kernel
theorem dX5_seesToldName_21 : decode cX5_seesToldName 21 = .ok (.getfield 21, 3) := by decide +kernel
theorem dX5_seesToldName_24 : decode cX5_seesToldName 24 = .ok (.getfield 244, 3) := by decide +kernel
theorem dX5_seesToldName_27 : decode cX5_seesToldName 27 = .ok (.iload_n 1, 1) := by decide +kernel
theorem dX5_seesToldName_28 : decode cX5_seesToldName 28 = .ok (.aaload, 1) := by decide +kernel
theorem dX5_seesToldName_29 : decode cX5_seesToldName 29 = .ok (.aload_n 0, 1) := by decide +kernel
theorem dX5_seesToldName_30 : decode cX5_seesToldName 30 = .ok (.getfield 12, 3) := by decide +kernel
theorem dX5_seesToldName_33 : decode cX5_seesToldName 33 = .ok (.getfield 256, 3) := by decide +kernel
theorem dX5_seesToldName_36 : decode cX5_seesToldName 36 = .ok (.invokevirtual 260, 3) := by decide +kernel
theorem dX5_seesToldName_39 : decode cX5_seesToldName 39 = .ok (.putfield 186, 3) := by decide +kernel
theorem dX5_seesToldName_42 : decode cX5_seesToldName 42 = .ok (.aload_n 0, 1) := by decide +kernel
theorem dX5_seesToldName_43 : decode cX5_seesToldName 43 = .ok (.getfield 186, 3) := by decide +kernel
theorem dX5_seesToldName_46 : decode cX5_seesToldName 46 = .ok (.iconst (-1), 1) := by decide +kernel
theorem dX5_seesToldName_47 : decode cX5_seesToldName 47 = .ok (.if_icmp .ne 11, 3) := by decide +kernel
theorem dX5_seesToldName_50 : decode cX5_seesToldName 50 = .ok (.aload_n 0, 1) := by decide +kernel
theorem dX5_seesToldName_51 : decode cX5_seesToldName 51 = .ok (.iconst 3, 1) := by decide +kernel
theorem dX5_seesToldName_52 : decode cX5_seesToldName 52 = .ok (.invokevirtual 99, 3) := by decide +kernel
theorem dX5_seesToldName_55 : decode cX5_seesToldName 55 = .ok (.ifCond .eq 7, 3) := by decide +kernel
theorem dX5_seesToldName_58 : decode cX5_seesToldName 58 = .ok (.iconst 1, 1) := by decide +kernel
theorem dX5_seesToldName_59 : decode cX5_seesToldName 59 = .ok (.goto 4, 3) := by decide +kernel
theorem dX5_seesToldName_62 : decode cX5_seesToldName 62 = .ok (.iconst 0, 1) := by decide +kernel
theorem dX5_seesToldName_63 : decode cX5_seesToldName 63 = .ok (.ireturn, 1) := by decide +kernel
theorem hd_X5_seesToldName : yX5_seesToldName.cls = RX5 ∧ yX5_seesToldName.cls ≠ "java/lang/invoke/MethodHandle" ∧ yX5_seesToldName.cls ≠ "java/lang/invoke/VarHandle" ∧ (parseMethodDescriptor yX5_seesToldName.desc).map (fun d => d.parameters.length) = some 1 := by decide +kernel
theorem hs_X5_seesToldName : yX5_seesToldName.cls ≠ "java/lang/invoke/MethodHandle" ∧ yX5_seesToldName.cls ≠ "java/lang/invoke/VarHandle" ∧ (parseMethodDescriptor yX5_seesToldName.desc).map (fun d => d.parameters.length) = some 1 := by decide +kernel
set_option maxHeartbeats 4000000 in
set_option maxRecDepth 100000 in
theorem k_X5_seesToldName (l : Launch) (E : Ev) (K : Kd) (z : Nat) (o : Nat) (a_1 : Int32) (w : Wd) (ho : K o = some (4, 0)) {r : Bool} {w' : Wd} (hf : f_X5_seesToldName K o a_1 w = some (r, w')) : Met l yX5_seesToldName (Cond.code yX5_seesToldName cX5_seesToldName 2 (Option.some Jvm.ClassFile.FieldType.boolean) :: bt) ({ frames := 1, cells := 0, slots := 0, locals := 23 } : Room) (va_Pc [rv E (some o), .int a_1] (HB E K w z)) (QI E K z w' (b2i r)) 0 0 (hA E) := by
  refine Met.ofW (cc := cX5_seesToldName) (maxL := 2) (ret := (Option.some Jvm.ClassFile.FieldType.boolean)) (by decide) rfl ?_
  intro p e s m args below meth c s₁ B hml hv
  obtain ⟨rfl, hz, hP, hKs, hT, hb0⟩ := hv
  have C : CX p l e s m _ meth c cX5_seesToldName 2 RX5 (Option.some Jvm.ClassFile.FieldType.boolean) E := ⟨B.exec, B.bytes, hml, findClass_of_methodNamed B.named, fun w h => atoms_spec (ws := Cond.code yX5_seesToldName cX5_seesToldName 2 (Option.some Jvm.ClassFile.FieldType.boolean) :: bt) B.pre w (List.mem_cons_of_mem _ h), hKs, hT, by rw [hz]; exact hb0, B.notSynchronized, B.returns⟩
  have hH : HQ E K z w s s.heap [] := ⟨hP, va_S.rf, hz⟩
  obtain ⟨hx, hb, hml, hown, hts, hKs, hT, hb0, hlocks, hret⟩ := id C
  have hl := lv_entry [rv E (some o), .int a_1] (n := 2) (by simp [lg_len_nil, lg_len_i, lg_len_j, lg_len_q])
  rw [lg_entry_eq]
  generalize (lg_sl [rv E (some o), .int a_1] ++ List.replicate (2 - (lg_sl [rv E (some o), .int a_1]).length) Slot.unset).toArray = ls at hl ⊢
  replace hl : lv_has ls 2 [(0, rv E (some o)), (1, .int a_1)] := by simpa only [lv_args, cat_q, cat_i, cat_j, reduceIte, Nat.reduceEqDiff, Nat.reduceAdd, Nat.zero_add] using hl
  generalize s.heap = H at hH ⊢
  unfold f_X5_seesToldName at hf
  refine hl_aload_n hx hb dX5_seesToldName_0 rfl (lv_at hl 0 rfl) ?_
  refine g5_0 hx hb hts hown hKs hH rfl ho m2_30 dX5_seesToldName_1 ?_
  obtain ⟨a1, ha1, hf⟩ := bnd hf
  replace ha1 := chk_some ha1
  refine gn8_4 hx hb hts hown hKs hH ha1.1 ha1.2 m2_7 dX5_seesToldName_4 ?_
  refine hw_tok hx hb 16 (by decide) hts hown hT hH m3_127 dX5_seesToldName_7 ?_
  obtain ⟨_, hg2, hf⟩ := bnd hf
  refine hw_acmp_eq (tgt := 19) hx hb hT (grd_some hg2) rfl dX5_seesToldName_10 (by decide) (fun c3 => ?_) (fun c3 => ?_)
  · replace hf := (if_pos c3).symm.trans hf
    refine hl_aload_n hx hb dX5_seesToldName_19 rfl (lv_at hl 0 rfl) ?_
    refine hl_aload_n hx hb dX5_seesToldName_20 rfl (lv_at hl 0 rfl) ?_
    refine g5_1 hx hb hts hown hKs hH rfl ho m2_31 dX5_seesToldName_21 ?_
    obtain ⟨a4, ha4, hf⟩ := bnd hf
    replace ha4 := chk_some ha4
    refine gn9_0 hx hb hts hown hKs hH ha4.1 ha4.2 m1_152 dX5_seesToldName_24 ?_
    refine lv_iload_n hx hb dX5_seesToldName_27 rfl (lv_at hl 1 rfl) ?_
    obtain ⟨a5, ha5, hf⟩ := bnd hf
    replace ha5 := cha_some ha5
    obtain ⟨j6, hj6, hf⟩ := bnd hf
    refine hw_aald26 hx hb hKs hH ha5.1 ha5.2 hj6 dX5_seesToldName_28 ?_
    refine hl_aload_n hx hb dX5_seesToldName_29 rfl (lv_at hl 0 rfl) ?_
    refine g5_0 hx hb hts hown hKs hH rfl ho m2_30 dX5_seesToldName_30 ?_
    refine gn8_5 hx hb hts hown hKs hH ha1.1 ha1.2 m2_9 dX5_seesToldName_33 ?_
    obtain ⟨a7, ha7, hf⟩ := bnd hf
    replace ha7 := chk_some ha7
    obtain ⟨q8, hq8, hf⟩ := bnd hf
    refine hcV_i hx hb hml hown hts hKs hT hb0 hH (As := [.long (wJ w 805 a1)]) (rest := [rv E (some o)]) (k_X4_indexOf l E K H.size a7 (wJ w 805 a1) w ha7.2 hq8) (gV m3_128 m3_129 m3_130 m1_4 m3_131) hd_X4_indexOf ⟨Nat.le_of_ble_eq_true rfl, Nat.le_of_ble_eq_true rfl, rfl, rfl⟩ ha7.1 ha7.2 rfl rfl rfl hl.1 rfl (rcV rc0) rfl dX5_seesToldName_36 ⟨Nat.zero_le _, Nat.zero_le _⟩ (fun H locs hH => ?_)
    obtain ⟨w9, hw9, hf⟩ := bnd hf
    replace hw9 := Option.some.inj hw9
    refine p5_4 (v := q8.1) hx hb hts hown hKs hH rfl ho m2_36 dX5_seesToldName_39 (fun H locs hH => ?_)
    rw [hw9] at hH
    refine hl_aload_n hx hb dX5_seesToldName_42 rfl (lv_at hl 0 rfl) ?_
    refine g5_4 hx hb hts hown hKs hH rfl ho m2_36 dX5_seesToldName_43 ?_
    refine lv_iconst (v := (-1)) hx hb dX5_seesToldName_46 (by decide) ?_
    refine lv_icmp_ne (tgt := 58) hx hb dX5_seesToldName_47 (by decide) (fun c10 => ?_) (fun c10 => ?_)
    · replace hf := (if_neg c10).symm.trans hf
      refine lv_iconst (v := 1) hx hb dX5_seesToldName_58 (by decide) ?_
      refine lv_goto (tgt := 63) hx hb dX5_seesToldName_59 (by decide) ?_
      exact hw_zret hx hb hret rfl hf hH hlocks dX5_seesToldName_63
    · replace hf := (if_pos c10).symm.trans hf
      refine hl_aload_n hx hb dX5_seesToldName_50 rfl (lv_at hl 0 rfl) ?_
      refine lv_iconst (v := 3) hx hb dX5_seesToldName_51 (by decide) ?_
      obtain ⟨q11, hq11, hf⟩ := bnd hf
      refine hcV_i hx hb hml hown hts hKs hT hb0 hH (As := [.int 3]) (rest := []) (k_X5_fail l E K H.size o 3 w9 ho hq11) (gV m3_96 m3_98 ms_3 m1_8 m3_99) hd_X5_fail ⟨Nat.le_of_ble_eq_true rfl, Nat.le_of_ble_eq_true rfl, rfl, rfl⟩ rfl ho rfl rfl rfl hl.1 rfl rc0 rfl dX5_seesToldName_52 ⟨Nat.zero_le _, Nat.zero_le _⟩ (fun H locs hH => ?_)
      refine lv_if_eq (tgt := 62) hx hb dX5_seesToldName_55 (by decide) (fun c12 => ?_) (fun c12 => ?_)
      · replace hf := (if_pos c12).symm.trans hf
        refine lv_iconst (v := 0) hx hb dX5_seesToldName_62 (by decide) ?_
        exact hw_zret hx hb hret rfl hf hH hlocks dX5_seesToldName_63
      · replace hf := (if_neg c12).symm.trans hf
        refine lv_iconst (v := 1) hx hb dX5_seesToldName_58 (by decide) ?_
        refine lv_goto (tgt := 63) hx hb dX5_seesToldName_59 (by decide) ?_
        exact hw_zret hx hb hret rfl hf hH hlocks dX5_seesToldName_63
  · replace hf := (if_neg c3).symm.trans hf
    refine hl_aload_n hx hb dX5_seesToldName_13 rfl (lv_at hl 0 rfl) ?_
    refine lv_iconst (v := 1) hx hb dX5_seesToldName_14 (by decide) ?_
    obtain ⟨q13, hq13, hf⟩ := bnd hf
    refine hcV_i hx hb hml hown hts hKs hT hb0 hH (As := [.int 1]) (rest := []) (k_X5_fail l E K H.size o 1 w ho hq13) (gV m3_96 m3_98 ms_3 m1_8 m3_99) hd_X5_fail ⟨Nat.le_of_ble_eq_true rfl, Nat.le_of_ble_eq_true rfl, rfl, rfl⟩ rfl ho rfl rfl rfl hl.1 rfl rc0 rfl dX5_seesToldName_15 ⟨Nat.zero_le _, Nat.zero_le _⟩ (fun H locs hH => ?_)
    exact hw_zret hx hb hret rfl hf hH hlocks dX5_seesToldName_18

theorem dX5_seesNumber_0 : decode cX5_seesNumber 0 = .ok (.aload_n 0, 1) := by decide +kernel
theorem dX5_seesNumber_1 : decode cX5_seesNumber 1 = .ok (.getfield 12, 3) := by decide +kernel
theorem dX5_seesNumber_4 : decode cX5_seesNumber 4 = .ok (.getfield 39, 3) := by decide +kernel
theorem dX5_seesNumber_7 : decode cX5_seesNumber 7 = .ok (.getstatic 267, 3) := by decide +kernel
theorem dX5_seesNumber_10 : decode cX5_seesNumber 10 = .ok (.if_acmp .eq 9, 3) := by decide +kernel
theorem dX5_seesNumber_13 : decode cX5_seesNumber 13 = .ok (.aload_n 0, 1) := by decide +kernel
theorem dX5_seesNumber_14 : decode cX5_seesNumber 14 = .ok (.iconst 1, 1) := by decide +kernel
theorem dX5_seesNumber_15 : decode cX5_seesNumber 15 = .ok (.invokevirtual 99, 3) := by decide +kernel
theorem dX5_seesNumber_18 : decode cX5_seesNumber 18 = .ok (.ireturn, 1) := by decide +kernel
theorem dX5_seesNumber_19 : decode cX5_seesNumber 19 = .ok (.aload_n 0, 1) := by decide +kernel
theorem dX5_seesNumber_20 : decode cX5_seesNumber 20 = .ok (.getfield 12, 3) := by decide +kernel
theorem dX5_seesNumber_23 : decode cX5_seesNumber 23 = .ok (.getfield 119, 3) := by decide +kernel
theorem dX5_seesNumber_26 : decode cX5_seesNumber 26 = .ok (.iload_n 1, 1) := by decide +kernel
theorem dX5_seesNumber_27 : decode cX5_seesNumber 27 = .ok (.if_icmp .lt 14, 3) := by decide +kernel
theorem dX5_seesNumber_30 : decode cX5_seesNumber 30 = .ok (.aload_n 0, 1) := by decide +kernel
theorem dX5_seesNumber_31 : decode cX5_seesNumber 31 = .ok (.getfield 12, 3) := by decide +kernel
theorem dX5_seesNumber_34 : decode cX5_seesNumber 34 = .ok (.getfield 119, 3) := by decide +kernel
theorem dX5_seesNumber_37 : decode cX5_seesNumber 37 = .ok (.iload_n 2, 1) := by decide +kernel
theorem dX5_seesNumber_38 : decode cX5_seesNumber 38 = .ok (.if_icmp .le 11, 3) := by decide +kernel
theorem dX5_seesNumber_41 : decode cX5_seesNumber 41 = .ok (.aload_n 0, 1) := by decide +kernel
theorem dX5_seesNumber_42 : decode cX5_seesNumber 42 = .ok (.iconst 2, 1) := by decide +kernel
theorem dX5_seesNumber_43 : decode cX5_seesNumber 43 = .ok (.invokevirtual 99, 3) := by decide +kernel
theorem dX5_seesNumber_46 : decode cX5_seesNumber 46 = .ok (.ifCond .eq 7, 3) := by decide +kernel
theorem dX5_seesNumber_49 : decode cX5_seesNumber 49 = .ok (.iconst 1, 1) := by decide +kernel
theorem dX5_seesNumber_50 : decode cX5_seesNumber 50 = .ok (.goto 4, 3) := by decide +kernel
theorem dX5_seesNumber_53 : decode cX5_seesNumber 53 = .ok (.iconst 0, 1) := by decide +kernel
theorem dX5_seesNumber_54 : decode cX5_seesNumber 54 = .ok (.ireturn, 1) := by decide +kernel
theorem hd_X5_seesNumber : yX5_seesNumber.cls = RX5 ∧ yX5_seesNumber.cls ≠ "java/lang/invoke/MethodHandle" ∧ yX5_seesNumber.cls ≠ "java/lang/invoke/VarHandle" ∧ (parseMethodDescriptor yX5_seesNumber.desc).map (fun d => d.parameters.length) = some 2 := by decide +kernel
theorem hs_X5_seesNumber : yX5_seesNumber.cls ≠ "java/lang/invoke/MethodHandle" ∧ yX5_seesNumber.cls ≠ "java/lang/invoke/VarHandle" ∧ (parseMethodDescriptor yX5_seesNumber.desc).map (fun d => d.parameters.length) = some 2 := by decide +kernel
set_option maxHeartbeats 4000000 in
set_option maxRecDepth 100000 in
theorem k_X5_seesNumber (l : Launch) (E : Ev) (K : Kd) (z : Nat) (o : Nat) (a_1 : Int32) (a_2 : Int32) (w : Wd) (ho : K o = some (4, 0)) {r : Bool} {w' : Wd} (hf : f_X5_seesNumber K o a_1 a_2 w = some (r, w')) : Met l yX5_seesNumber (Cond.code yX5_seesNumber cX5_seesNumber 3 (Option.some Jvm.ClassFile.FieldType.boolean) :: bt) ({ frames := 1, cells := 0, slots := 0, locals := 21 } : Room) (va_Pc [rv E (some o), .int a_1, .int a_2] (HB E K w z)) (QI E K z w' (b2i r)) 0 0 (hA E) := by
  refine Met.ofW (cc := cX5_seesNumber) (maxL := 3) (ret := (Option.some Jvm.ClassFile.FieldType.boolean)) (by decide) rfl ?_
  intro p e s m args below meth c s₁ B hml hv
  obtain ⟨rfl, hz, hP, hKs, hT, hb0⟩ := hv
  have C : CX p l e s m _ meth c cX5_seesNumber 3 RX5 (Option.some Jvm.ClassFile.FieldType.boolean) E := ⟨B.exec, B.bytes, hml, findClass_of_methodNamed B.named, fun w h => atoms_spec (ws := Cond.code yX5_seesNumber cX5_seesNumber 3 (Option.some Jvm.ClassFile.FieldType.boolean) :: bt) B.pre w (List.mem_cons_of_mem _ h), hKs, hT, by rw [hz]; exact hb0, B.notSynchronized, B.returns⟩
  have hH : HQ E K z w s s.heap [] := ⟨hP, va_S.rf, hz⟩
  obtain ⟨hx, hb, hml, hown, hts, hKs, hT, hb0, hlocks, hret⟩ := id C
  have hl := lv_entry [rv E (some o), .int a_1, .int a_2] (n := 3) (by simp [lg_len_nil, lg_len_i, lg_len_j, lg_len_q])
  rw [lg_entry_eq]
  generalize (lg_sl [rv E (some o), .int a_1, .int a_2] ++ List.replicate (3 - (lg_sl [rv E (some o), .int a_1, .int a_2]).length) Slot.unset).toArray = ls at hl ⊢
  replace hl : lv_has ls 3 [(0, rv E (some o)), (1, .int a_1), (2, .int a_2)] := by simpa only [lv_args, cat_q, cat_i, cat_j, reduceIte, Nat.reduceEqDiff, Nat.reduceAdd, Nat.zero_add] using hl
  generalize s.heap = H at hH ⊢
  unfold f_X5_seesNumber at hf
  refine hl_aload_n hx hb dX5_seesNumber_0 rfl (lv_at hl 0 rfl) ?_
  refine g5_0 hx hb hts hown hKs hH rfl ho m2_30 dX5_seesNumber_1 ?_
  obtain ⟨a1, ha1, hf⟩ := bnd hf
  replace ha1 := chk_some ha1
  refine gn8_4 hx hb hts hown hKs hH ha1.1 ha1.2 m2_7 dX5_seesNumber_4 ?_
  refine hw_tok hx hb 17 (by decide) hts hown hT hH m3_105 dX5_seesNumber_7 ?_
  obtain ⟨_, hg2, hf⟩ := bnd hf
  refine hw_acmp_eq (tgt := 19) hx hb hT (grd_some hg2) rfl dX5_seesNumber_10 (by decide) (fun c3 => ?_) (fun c3 => ?_)
  · replace hf := (if_pos c3).symm.trans hf
    refine hl_aload_n hx hb dX5_seesNumber_19 rfl (lv_at hl 0 rfl) ?_
    refine g5_0 hx hb hts hown hKs hH rfl ho m2_30 dX5_seesNumber_20 ?_
    refine gn8_6 hx hb hts hown hKs hH ha1.1 ha1.2 m2_11 dX5_seesNumber_23 ?_
    refine lv_iload_n hx hb dX5_seesNumber_26 rfl (lv_at hl 1 rfl) ?_
    refine lv_icmp_lt (tgt := 41) hx hb dX5_seesNumber_27 (by decide) (fun c4 => ?_) (fun c4 => ?_)
    · replace hf := (if_pos c4).symm.trans hf
      refine hl_aload_n hx hb dX5_seesNumber_41 rfl (lv_at hl 0 rfl) ?_
      refine lv_iconst (v := 2) hx hb dX5_seesNumber_42 (by decide) ?_
      obtain ⟨q5, hq5, hf⟩ := bnd hf
      refine hcV_i hx hb hml hown hts hKs hT hb0 hH (As := [.int 2]) (rest := []) (k_X5_fail l E K H.size o 2 w ho hq5) (gV m3_96 m3_98 ms_3 m1_8 m3_99) hd_X5_fail ⟨Nat.le_of_ble_eq_true rfl, Nat.le_of_ble_eq_true rfl, rfl, rfl⟩ rfl ho rfl rfl rfl hl.1 rfl rc0 rfl dX5_seesNumber_43 ⟨Nat.zero_le _, Nat.zero_le _⟩ (fun H locs hH => ?_)
      refine lv_if_eq (tgt := 53) hx hb dX5_seesNumber_46 (by decide) (fun c6 => ?_) (fun c6 => ?_)
      · replace hf := (if_pos c6).symm.trans hf
        refine lv_iconst (v := 0) hx hb dX5_seesNumber_53 (by decide) ?_
        exact hw_zret hx hb hret rfl hf hH hlocks dX5_seesNumber_54
      · replace hf := (if_neg c6).symm.trans hf
        refine lv_iconst (v := 1) hx hb dX5_seesNumber_49 (by decide) ?_
        refine lv_goto (tgt := 54) hx hb dX5_seesNumber_50 (by decide) ?_
        exact hw_zret hx hb hret rfl hf hH hlocks dX5_seesNumber_54
    · replace hf := (if_neg c4).symm.trans hf
      refine hl_aload_n hx hb dX5_seesNumber_30 rfl (lv_at hl 0 rfl) ?_
      refine g5_0 hx hb hts hown hKs hH rfl ho m2_30 dX5_seesNumber_31 ?_
      refine gn8_6 hx hb hts hown hKs hH ha1.1 ha1.2 m2_11 dX5_seesNumber_34 ?_
      refine lv_iload_n hx hb dX5_seesNumber_37 rfl (lv_at hl 2 rfl) ?_
      refine lv_icmp_le (tgt := 49) hx hb dX5_seesNumber_38 (by decide) (fun c7 => ?_) (fun c7 => ?_)
      · replace hf := (if_pos c7).symm.trans hf
        refine lv_iconst (v := 1) hx hb dX5_seesNumber_49 (by decide) ?_
        refine lv_goto (tgt := 54) hx hb dX5_seesNumber_50 (by decide) ?_
        exact hw_zret hx hb hret rfl hf hH hlocks dX5_seesNumber_54
      · replace hf := (if_neg c7).symm.trans hf
        refine hl_aload_n hx hb dX5_seesNumber_41 rfl (lv_at hl 0 rfl) ?_
        refine lv_iconst (v := 2) hx hb dX5_seesNumber_42 (by decide) ?_
        obtain ⟨q8, hq8, hf⟩ := bnd hf
        refine hcV_i hx hb hml hown hts hKs hT hb0 hH (As := [.int 2]) (rest := []) (k_X5_fail l E K H.size o 2 w ho hq8) (gV m3_96 m3_98 ms_3 m1_8 m3_99) hd_X5_fail ⟨Nat.le_of_ble_eq_true rfl, Nat.le_of_ble_eq_true rfl, rfl, rfl⟩ rfl ho rfl rfl rfl hl.1 rfl rc0 rfl dX5_seesNumber_43 ⟨Nat.zero_le _, Nat.zero_le _⟩ (fun H locs hH => ?_)
        refine lv_if_eq (tgt := 53) hx hb dX5_seesNumber_46 (by decide) (fun c9 => ?_) (fun c9 => ?_)
        · replace hf := (if_pos c9).symm.trans hf
          refine lv_iconst (v := 0) hx hb dX5_seesNumber_53 (by decide) ?_
          exact hw_zret hx hb hret rfl hf hH hlocks dX5_seesNumber_54
        · replace hf := (if_neg c9).symm.trans hf
          refine lv_iconst (v := 1) hx hb dX5_seesNumber_49 (by decide) ?_
          refine lv_goto (tgt := 54) hx hb dX5_seesNumber_50 (by decide) ?_
          exact hw_zret hx hb hret rfl hf hH hlocks dX5_seesNumber_54
  · replace hf := (if_neg c3).symm.trans hf
    refine hl_aload_n hx hb dX5_seesNumber_13 rfl (lv_at hl 0 rfl) ?_
    refine lv_iconst (v := 1) hx hb dX5_seesNumber_14 (by decide) ?_
    obtain ⟨q10, hq10, hf⟩ := bnd hf
    refine hcV_i hx hb hml hown hts hKs hT hb0 hH (As := [.int 1]) (rest := []) (k_X5_fail l E K H.size o 1 w ho hq10) (gV m3_96 m3_98 ms_3 m1_8 m3_99) hd_X5_fail ⟨Nat.le_of_ble_eq_true rfl, Nat.le_of_ble_eq_true rfl, rfl, rfl⟩ rfl ho rfl rfl rfl hl.1 rfl rc0 rfl dX5_seesNumber_15 ⟨Nat.zero_le _, Nat.zero_le _⟩ (fun H locs hH => ?_)
    exact hw_zret hx hb hret rfl hf hH hlocks dX5_seesNumber_18

theorem dX6_leastLoaded_0 : decode cX6_leastLoaded 0 = .ok (.iconst (-1), 1) := by decide +kernel
theorem dX6_leastLoaded_1 : decode cX6_leastLoaded 1 = .ok (.istore_n 3, 1) := by decide +kernel
theorem dX6_leastLoaded_2 : decode cX6_leastLoaded 2 = .ok (.iconst 0, 1) := by decide +kernel
theorem dX6_leastLoaded_3 : decode cX6_leastLoaded 3 = .ok (.istore 4, 2) := by decide +kernel
theorem dX6_leastLoaded_5 : decode cX6_leastLoaded 5 = .ok (.iload 4, 2) := by decide +kernel
theorem dX6_leastLoaded_7 : decode cX6_leastLoaded 7 = .ok (.iload_n 1, 1) := by decide +kernel
theorem dX6_leastLoaded_8 : decode cX6_leastLoaded 8 = .ok (.if_icmp .ge 74, 3) := by decide +kernel
theorem dX6_leastLoaded_11 : decode cX6_leastLoaded 11 = .ok (.aload_n 0, 1) := by decide +kernel
theorem dX6_leastLoaded_12 : decode cX6_leastLoaded 12 = .ok (.getfield 78, 3) := by decide +kernel
theorem dX6_leastLoaded_15 : decode cX6_leastLoaded 15 = .ok (.aload_n 0, 1) := by decide +kernel
theorem dX6_leastLoaded_16 : decode cX6_leastLoaded 16 = .ok (.getfield 71, 3) := by decide +kernel
theorem dX6_leastLoaded_19 : decode cX6_leastLoaded 19 = .ok (.ior, 1) := by decide +kernel
theorem dX6_leastLoaded_20 : decode cX6_leastLoaded 20 = .ok (.iload 4, 2) := by decide +kernel
theorem dX6_leastLoaded_22 : decode cX6_leastLoaded 22 = .ok (.invokestatic 74, 3) := by decide +kernel
theorem dX6_leastLoaded_25 : decode cX6_leastLoaded 25 = .ok (.ifCond .ne 19, 3) := by decide +kernel
theorem dX6_leastLoaded_28 : decode cX6_leastLoaded 28 = .ok (.iload_n 2, 1) := by decide +kernel
theorem dX6_leastLoaded_29 : decode cX6_leastLoaded 29 = .ok (.aload_n 0, 1) := by decide +kernel
theorem dX6_leastLoaded_30 : decode cX6_leastLoaded 30 = .ok (.getfield 15, 3) := by decide +kernel
theorem dX6_leastLoaded_33 : decode cX6_leastLoaded 33 = .ok (.iload 4, 2) := by decide +kernel
theorem dX6_leastLoaded_35 : decode cX6_leastLoaded 35 = .ok (.iaload, 1) := by decide +kernel
theorem dX6_leastLoaded_36 : decode cX6_leastLoaded 36 = .ok (.iand, 1) := by decide +kernel
theorem dX6_leastLoaded_37 : decode cX6_leastLoaded 37 = .ok (.ifCond .ne 7, 3) := by decide +kernel
theorem dX6_leastLoaded_40 : decode cX6_leastLoaded 40 = .ok (.iconst 1, 1) := by decide +kernel
theorem dX6_leastLoaded_41 : decode cX6_leastLoaded 41 = .ok (.goto 4, 3) := by decide +kernel
theorem dX6_leastLoaded_44 : decode cX6_leastLoaded 44 = .ok (.iconst 0, 1) := by decide +kernel
theorem dX6_leastLoaded_45 : decode cX6_leastLoaded 45 = .ok (.istore 5, 2) := by decide +kernel
theorem dX6_leastLoaded_47 : decode cX6_leastLoaded 47 = .ok (.iload 5, 2) := by decide +kernel
theorem dX6_leastLoaded_49 : decode cX6_leastLoaded 49 = .ok (.ifCond .eq 27, 3) := by decide +kernel
theorem dX6_leastLoaded_52 : decode cX6_leastLoaded 52 = .ok (.iload_n 3, 1) := by decide +kernel
theorem dX6_leastLoaded_53 : decode cX6_leastLoaded 53 = .ok (.iconst (-1), 1) := by decide +kernel
theorem dX6_leastLoaded_54 : decode cX6_leastLoaded 54 = .ok (.if_icmp .eq 19, 3) := by decide +kernel
theorem dX6_leastLoaded_57 : decode cX6_leastLoaded 57 = .ok (.aload_n 0, 1) := by decide +kernel
theorem dX6_leastLoaded_58 : decode cX6_leastLoaded 58 = .ok (.getfield 18, 3) := by decide +kernel
theorem dX6_leastLoaded_61 : decode cX6_leastLoaded 61 = .ok (.iload 4, 2) := by decide +kernel
theorem dX6_leastLoaded_63 : decode cX6_leastLoaded 63 = .ok (.iaload, 1) := by decide +kernel
theorem dX6_leastLoaded_64 : decode cX6_leastLoaded 64 = .ok (.aload_n 0, 1) := by decide +kernel
theorem dX6_leastLoaded_65 : decode cX6_leastLoaded 65 = .ok (.getfield 18, 3) := by decide +kernel
theorem dX6_leastLoaded_68 : decode cX6_leastLoaded 68 = .ok (.iload_n 3, 1) := by decide +kernel
theorem dX6_leastLoaded_69 : decode cX6_leastLoaded 69 = .ok (.iaload, 1) := by decide +kernel
theorem dX6_leastLoaded_70 : decode cX6_leastLoaded 70 = .ok (.if_icmp .ge 6, 3) := by decide +kernel
theorem dX6_leastLoaded_73 : decode cX6_leastLoaded 73 = .ok (.iload 4, 2) := by decide +kernel
theorem dX6_leastLoaded_75 : decode cX6_leastLoaded 75 = .ok (.istore_n 3, 1) := by decide +kernel
theorem dX6_leastLoaded_76 : decode cX6_leastLoaded 76 = .ok (.iinc 4 1, 3) := by decide +kernel
theorem dX6_leastLoaded_79 : decode cX6_leastLoaded 79 = .ok (.goto (-74), 3) := by decide +kernel
theorem dX6_leastLoaded_82 : decode cX6_leastLoaded 82 = .ok (.iload_n 3, 1) := by decide +kernel
theorem dX6_leastLoaded_83 : decode cX6_leastLoaded 83 = .ok (.ireturn, 1) := by decide +kernel
theorem hd_X6_leastLoaded : yX6_leastLoaded.cls = RX6 ∧ yX6_leastLoaded.cls ≠ "java/lang/invoke/MethodHandle" ∧ yX6_leastLoaded.cls ≠ "java/lang/invoke/VarHandle" ∧ (parseMethodDescriptor yX6_leastLoaded.desc).map (fun d => d.parameters.length) = some 2 := by decide +kernel
theorem hs_X6_leastLoaded : yX6_leastLoaded.cls ≠ "java/lang/invoke/MethodHandle" ∧ yX6_leastLoaded.cls ≠ "java/lang/invoke/VarHandle" ∧ (parseMethodDescriptor yX6_leastLoaded.desc).map (fun d => d.parameters.length) = some 2 := by decide +kernel
set_option maxHeartbeats 4000000 in
set_option maxRecDepth 100000 in
theorem l_X6_leastLoaded_L5 (C : CX p l e s m args meth c cX6_leastLoaded 6 RX6 (Option.some Jvm.ClassFile.FieldType.int) E) {o : Nat} (ho : K o = some (5, 0)) {r : Int32} {w' : Wd} (k : Int32 → Int32 → Int32 → Int32 → Wd → Option (Int32 × Wd)) (hk : ∀ (v1_5 : Int32) (v2_5 : Int32) (v3_5 : Int32) (v4_5 : Int32) (w : Wd) (H : Heap) (locs : List Loc) (ls : Array Slot), HQ E K z w s H locs → lv_has ls 6 [(1, .int v1_5), (2, .int v2_5), (3, .int v3_5), (4, .int v4_5), (0, rv E (some o))] → k v1_5 v2_5 v3_5 v4_5 w = some (r, w') → W p l e ({ frames := 1, cells := 0, slots := 0, locals := 21 } : Room) s m args below meth c H locs 0 0 (MQ below (QI E K z w' r) args s 0 0 (hA E)) (F0 m 82 ls [])) : ∀ (n : Nat) (v1_5 : Int32) (v2_5 : Int32) (v3_5 : Int32) (v4_5 : Int32) (w : Wd) (H : Heap) (locs : List Loc) (ls : Array Slot), HQ E K z w s H locs → lv_has ls 6 [(1, .int v1_5), (2, .int v2_5), (3, .int v3_5), (4, .int v4_5), (0, rv E (some o))] → f_X6_leastLoaded_L5 K o k n v1_5 v2_5 v3_5 v4_5 w = some (r, w') → W p l e ({ frames := 1, cells := 0, slots := 0, locals := 21 } : Room) s m args below meth c H locs 0 0 (MQ below (QI E K z w' r) args s 0 0 (hA E)) (F0 m 5 ls []) := by
  obtain ⟨hx, hb, hml, hown, hts, hKs, hT, hb0, hlocks, hret⟩ := id C
  intro n
  induction n with
  | zero =>
    intro v1_5 v2_5 v3_5 v4_5 w H locs ls hH hl hf
    cases hf
  | succ n ih =>
    intro v1_5 v2_5 v3_5 v4_5 w H locs ls hH hl hf
    rw [f_X6_leastLoaded_L5] at hf
    refine lv_iload hx hb dX6_leastLoaded_5 (lv_at hl 3 rfl) ?_
    refine lv_iload_n hx hb dX6_leastLoaded_7 rfl (lv_at hl 0 rfl) ?_
    refine lv_icmp_ge (tgt := 82) hx hb dX6_leastLoaded_8 (by decide) (fun c2 => ?_) (fun c2 => ?_)
    · replace hf := (if_pos c2).symm.trans hf
      exact hk v1_5 v2_5 v3_5 v4_5 _ _ _ _ hH (lv_sub hl [0, 1, 2, 3, 4] rfl) hf
    · replace hf := (if_neg c2).symm.trans hf
      refine hl_aload_n hx hb dX6_leastLoaded_11 rfl (lv_at hl 4 rfl) ?_
      refine g6_4 hx hb hts hown hKs hH rfl ho m2_160 dX6_leastLoaded_12 ?_
      refine hl_aload_n hx hb dX6_leastLoaded_15 rfl (lv_at hl 4 rfl) ?_
      refine g6_5 hx hb hts hown hKs hH rfl ho m2_161 dX6_leastLoaded_16 ?_
      refine lv_ior hx hb dX6_leastLoaded_19 ?_
      refine lv_iload hx hb dX6_leastLoaded_20 (lv_at hl 3 rfl) ?_
      obtain ⟨q3, hq3, hf⟩ := bnd hf
      refine hcM_i hx hb hml hown hts hKs hT hb0 hH (As := [.int (((wI w 604 o) ||| (wI w 605 o))), .int v4_5]) (rest := []) (k_X12_has l E K H.size ((wI w 604 o) ||| (wI w 605 o)) v4_5 w hq3) m4_181 m3_194 m1_1 m3_195 hs_X12_has ⟨Nat.le_of_ble_eq_true rfl, Nat.le_of_ble_eq_true rfl, rfl, rfl⟩ hl.1 rfl rc0 rfl dX6_leastLoaded_22 ⟨Nat.zero_le _, Nat.zero_le _⟩ (fun H locs hH => ?_)
      refine lv_if_ne (tgt := 44) hx hb dX6_leastLoaded_25 (by decide) (fun c4 => ?_) (fun c4 => ?_)
      · replace hf := (if_neg c4).symm.trans hf
        refine lv_iconst (v := 0) hx hb dX6_leastLoaded_44 (by decide) ?_
        refine lv_istore (lv' := [(5, .int 0), (1, .int v1_5), (2, .int v2_5), (3, .int v3_5), (4, .int v4_5), (0, rv E (some o))]) hx hb dX6_leastLoaded_45 hl (by decide) rfl (fun ls hl => ?_)
        refine lv_iload hx hb dX6_leastLoaded_47 (lv_at hl 0 rfl) ?_
        refine lv_if_eq (tgt := 76) hx hb dX6_leastLoaded_49 (by decide) (fun c5 => ?_) (fun c5 => ?_)
        · skip
          refine lv_iinc (v := (v4_5 + 1)) (lv' := [(4, .int ((v4_5 + 1))), (5, .int 0), (1, .int v1_5), (2, .int v2_5), (3, .int v3_5), (0, rv E (some o))]) hx hb dX6_leastLoaded_76 hl (k := 4) rfl rfl (by decide) rfl (fun ls hl => ?_)
          refine lv_goto (tgt := 5) hx hb dX6_leastLoaded_79 (by decide) ?_
          exact ih v1_5 v2_5 v3_5 (v4_5 + 1) _ _ _ _ hH (lv_sub hl [2, 3, 4, 0, 5] rfl) hf
        · exact (by revert c5; decide : False).elim
      · replace hf := (if_pos c4).symm.trans hf
        refine lv_iload_n hx hb dX6_leastLoaded_28 rfl (lv_at hl 1 rfl) ?_
        refine hl_aload_n hx hb dX6_leastLoaded_29 rfl (lv_at hl 4 rfl) ?_
        refine g6_1 hx hb hts hown hKs hH rfl ho m2_157 dX6_leastLoaded_30 ?_
        refine lv_iload hx hb dX6_leastLoaded_33 (lv_at hl 3 rfl) ?_
        obtain ⟨a6, ha6, hf⟩ := bnd hf
        replace ha6 := cha_some ha6
        obtain ⟨j7, hj7, hf⟩ := bnd hf
        refine hw_iald hx hb hKs hH ha6.1 ha6.2 hj7 dX6_leastLoaded_35 ?_
        refine lv_iand hx hb dX6_leastLoaded_36 ?_
        refine lv_if_ne (tgt := 44) hx hb dX6_leastLoaded_37 (by decide) (fun c8 => ?_) (fun c8 => ?_)
        · replace hf := (if_neg c8).symm.trans hf
          refine lv_iconst (v := 0) hx hb dX6_leastLoaded_44 (by decide) ?_
          refine lv_istore (lv' := [(5, .int 0), (1, .int v1_5), (2, .int v2_5), (3, .int v3_5), (4, .int v4_5), (0, rv E (some o))]) hx hb dX6_leastLoaded_45 hl (by decide) rfl (fun ls hl => ?_)
          refine lv_iload hx hb dX6_leastLoaded_47 (lv_at hl 0 rfl) ?_
          refine lv_if_eq (tgt := 76) hx hb dX6_leastLoaded_49 (by decide) (fun c9 => ?_) (fun c9 => ?_)
          · skip
            refine lv_iinc (v := (v4_5 + 1)) (lv' := [(4, .int ((v4_5 + 1))), (5, .int 0), (1, .int v1_5), (2, .int v2_5), (3, .int v3_5), (0, rv E (some o))]) hx hb dX6_leastLoaded_76 hl (k := 4) rfl rfl (by decide) rfl (fun ls hl => ?_)
            refine lv_goto (tgt := 5) hx hb dX6_leastLoaded_79 (by decide) ?_
            exact ih v1_5 v2_5 v3_5 (v4_5 + 1) _ _ _ _ hH (lv_sub hl [2, 3, 4, 0, 5] rfl) hf
          · exact (by revert c9; decide : False).elim
        · replace hf := (if_pos c8).symm.trans hf
          refine lv_iconst (v := 1) hx hb dX6_leastLoaded_40 (by decide) ?_
          refine lv_goto (tgt := 45) hx hb dX6_leastLoaded_41 (by decide) ?_
          refine lv_istore (lv' := [(5, .int 1), (1, .int v1_5), (2, .int v2_5), (3, .int v3_5), (4, .int v4_5), (0, rv E (some o))]) hx hb dX6_leastLoaded_45 hl (by decide) rfl (fun ls hl => ?_)
          refine lv_iload hx hb dX6_leastLoaded_47 (lv_at hl 0 rfl) ?_
          refine lv_if_eq (tgt := 76) hx hb dX6_leastLoaded_49 (by decide) (fun c10 => ?_) (fun c10 => ?_)
          · exact (by revert c10; decide : False).elim
          · skip
            refine lv_iload_n hx hb dX6_leastLoaded_52 rfl (lv_at hl 3 rfl) ?_
            refine lv_iconst (v := (-1)) hx hb dX6_leastLoaded_53 (by decide) ?_
            refine lv_icmp_eq (tgt := 73) hx hb dX6_leastLoaded_54 (by decide) (fun c11 => ?_) (fun c11 => ?_)
            · replace hf := (if_pos c11).symm.trans hf
              refine lv_iload hx hb dX6_leastLoaded_73 (lv_at hl 4 rfl) ?_
              refine lv_istore_n (lv' := [(3, .int v4_5), (5, .int 1), (1, .int v1_5), (2, .int v2_5), (4, .int v4_5), (0, rv E (some o))]) hx hb dX6_leastLoaded_75 rfl hl (by decide) rfl (fun ls hl => ?_)
              refine lv_iinc (v := (v4_5 + 1)) (lv' := [(4, .int ((v4_5 + 1))), (3, .int v4_5), (5, .int 1), (1, .int v1_5), (2, .int v2_5), (0, rv E (some o))]) hx hb dX6_leastLoaded_76 hl (k := 4) rfl rfl (by decide) rfl (fun ls hl => ?_)
              refine lv_goto (tgt := 5) hx hb dX6_leastLoaded_79 (by decide) ?_
              exact ih v1_5 v2_5 v4_5 (v4_5 + 1) _ _ _ _ hH (lv_sub hl [3, 4, 1, 0, 5] rfl) hf
            · replace hf := (if_neg c11).symm.trans hf
              refine hl_aload_n hx hb dX6_leastLoaded_57 rfl (lv_at hl 5 rfl) ?_
              refine g6_2 hx hb hts hown hKs hH rfl ho m2_158 dX6_leastLoaded_58 ?_
              refine lv_iload hx hb dX6_leastLoaded_61 (lv_at hl 4 rfl) ?_
              obtain ⟨a12, ha12, hf⟩ := bnd hf
              replace ha12 := cha_some ha12
              obtain ⟨j13, hj13, hf⟩ := bnd hf
              refine hw_iald hx hb hKs hH ha12.1 ha12.2 hj13 dX6_leastLoaded_63 ?_
              refine hl_aload_n hx hb dX6_leastLoaded_64 rfl (lv_at hl 5 rfl) ?_
              refine g6_2 hx hb hts hown hKs hH rfl ho m2_158 dX6_leastLoaded_65 ?_
              refine lv_iload_n hx hb dX6_leastLoaded_68 rfl (lv_at hl 3 rfl) ?_
              obtain ⟨j14, hj14, hf⟩ := bnd hf
              refine hw_iald hx hb hKs hH ha12.1 ha12.2 hj14 dX6_leastLoaded_69 ?_
              refine lv_icmp_ge (tgt := 76) hx hb dX6_leastLoaded_70 (by decide) (fun c15 => ?_) (fun c15 => ?_)
              · replace hf := (if_pos c15).symm.trans hf
                refine lv_iinc (v := (v4_5 + 1)) (lv' := [(4, .int ((v4_5 + 1))), (5, .int 1), (1, .int v1_5), (2, .int v2_5), (3, .int v3_5), (0, rv E (some o))]) hx hb dX6_leastLoaded_76 hl (k := 4) rfl rfl (by decide) rfl (fun ls hl => ?_)
                refine lv_goto (tgt := 5) hx hb dX6_leastLoaded_79 (by decide) ?_
                exact ih v1_5 v2_5 v3_5 (v4_5 + 1) _ _ _ _ hH (lv_sub hl [2, 3, 4, 0, 5] rfl) hf
              · replace hf := (if_neg c15).symm.trans hf
                refine lv_iload hx hb dX6_leastLoaded_73 (lv_at hl 4 rfl) ?_
                refine lv_istore_n (lv' := [(3, .int v4_5), (5, .int 1), (1, .int v1_5), (2, .int v2_5), (4, .int v4_5), (0, rv E (some o))]) hx hb dX6_leastLoaded_75 rfl hl (by decide) rfl (fun ls hl => ?_)
                refine lv_iinc (v := (v4_5 + 1)) (lv' := [(4, .int ((v4_5 + 1))), (3, .int v4_5), (5, .int 1), (1, .int v1_5), (2, .int v2_5), (0, rv E (some o))]) hx hb dX6_leastLoaded_76 hl (k := 4) rfl rfl (by decide) rfl (fun ls hl => ?_)
                refine lv_goto (tgt := 5) hx hb dX6_leastLoaded_79 (by decide) ?_
                exact ih v1_5 v2_5 v4_5 (v4_5 + 1) _ _ _ _ hH (lv_sub hl [3, 4, 1, 0, 5] rfl) hf
set_option maxHeartbeats 4000000 in
set_option maxRecDepth 100000 in
theorem k_X6_leastLoaded (l : Launch) (E : Ev) (K : Kd) (z : Nat) (o : Nat) (a_1 : Int32) (a_2 : Int32) (w : Wd) (ho : K o = some (5, 0)) {r : Int32} {w' : Wd} (hf : f_X6_leastLoaded K o a_1 a_2 w = some (r, w')) : Met l yX6_leastLoaded (Cond.code yX6_leastLoaded cX6_leastLoaded 6 (Option.some Jvm.ClassFile.FieldType.int) :: bt) ({ frames := 1, cells := 0, slots := 0, locals := 21 } : Room) (va_Pc [rv E (some o), .int a_1, .int a_2] (HB E K w z)) (QI E K z w' r) 0 0 (hA E) := by
  refine Met.ofW (cc := cX6_leastLoaded) (maxL := 6) (ret := (Option.some Jvm.ClassFile.FieldType.int)) (by decide) rfl ?_
  intro p e s m args below meth c s₁ B hml hv
  obtain ⟨rfl, hz, hP, hKs, hT, hb0⟩ := hv
  have C : CX p l e s m _ meth c cX6_leastLoaded 6 RX6 (Option.some Jvm.ClassFile.FieldType.int) E := ⟨B.exec, B.bytes, hml, findClass_of_methodNamed B.named, fun w h => atoms_spec (ws := Cond.code yX6_leastLoaded cX6_leastLoaded 6 (Option.some Jvm.ClassFile.FieldType.int) :: bt) B.pre w (List.mem_cons_of_mem _ h), hKs, hT, by rw [hz]; exact hb0, B.notSynchronized, B.returns⟩
  have hH : HQ E K z w s s.heap [] := ⟨hP, va_S.rf, hz⟩
  obtain ⟨hx, hb, hml, hown, hts, hKs, hT, hb0, hlocks, hret⟩ := id C
  have hl := lv_entry [rv E (some o), .int a_1, .int a_2] (n := 6) (by simp [lg_len_nil, lg_len_i, lg_len_j, lg_len_q])
  rw [lg_entry_eq]
  generalize (lg_sl [rv E (some o), .int a_1, .int a_2] ++ List.replicate (6 - (lg_sl [rv E (some o), .int a_1, .int a_2]).length) Slot.unset).toArray = ls at hl ⊢
  replace hl : lv_has ls 6 [(0, rv E (some o)), (1, .int a_1), (2, .int a_2)] := by simpa only [lv_args, cat_q, cat_i, cat_j, reduceIte, Nat.reduceEqDiff, Nat.reduceAdd, Nat.zero_add] using hl
  generalize s.heap = H at hH ⊢
  unfold f_X6_leastLoaded at hf
  refine lv_iconst (v := (-1)) hx hb dX6_leastLoaded_0 (by decide) ?_
  refine lv_istore_n (lv' := [(3, .int ((-1))), (0, rv E (some o)), (1, .int a_1), (2, .int a_2)]) hx hb dX6_leastLoaded_1 rfl hl (by decide) rfl (fun ls hl => ?_)
  refine lv_iconst (v := 0) hx hb dX6_leastLoaded_2 (by decide) ?_
  refine lv_istore (lv' := [(4, .int 0), (3, .int ((-1))), (0, rv E (some o)), (1, .int a_1), (2, .int a_2)]) hx hb dX6_leastLoaded_3 hl (by decide) rfl (fun ls hl => ?_)
  refine l_X6_leastLoaded_L5  C ho _ (fun v1_5 v2_5 v3_5 v4_5 w1 H locs ls hH hl hf => ?_) fu a_1 a_2 (-1) 0 w _ _ _ hH (lv_sub hl [3, 4, 1, 0, 2] rfl) hf
  refine lv_iload_n hx hb dX6_leastLoaded_82 rfl (lv_at hl 2 rfl) ?_
  exact hw_iret hx hb hret hf hH hlocks dX6_leastLoaded_83

theorem dX6_take_0 : decode cX6_take 0 = .ok (.iload_n 1, 1) := by decide +kernel
theorem dX6_take_1 : decode cX6_take 1 = .ok (.ifCond .lt 16, 3) := by decide +kernel
theorem dX6_take_4 : decode cX6_take 4 = .ok (.iload_n 1, 1) := by decide +kernel
theorem dX6_take_5 : decode cX6_take 5 = .ok (.aload_n 0, 1) := by decide +kernel
theorem dX6_take_6 : decode cX6_take 6 = .ok (.arraylength, 1) := by decide +kernel
theorem dX6_take_7 : decode cX6_take 7 = .ok (.if_icmp .ge 10, 3) := by decide +kernel
theorem dX6_take_10 : decode cX6_take 10 = .ok (.aload_n 0, 1) := by decide +kernel
theorem dX6_take_11 : decode cX6_take 11 = .ok (.iload_n 1, 1) := by decide +kernel
theorem dX6_take_12 : decode cX6_take 12 = .ok (.dup2, 1) := by decide +kernel
theorem dX6_take_13 : decode cX6_take 13 = .ok (.iaload, 1) := by decide +kernel
theorem dX6_take_14 : decode cX6_take 14 = .ok (.iload_n 2, 1) := by decide +kernel
theorem dX6_take_15 : decode cX6_take 15 = .ok (.ior, 1) := by decide +kernel
theorem dX6_take_16 : decode cX6_take 16 = .ok (.iastore, 1) := by decide +kernel
theorem dX6_take_17 : decode cX6_take 17 = .ok (.return_, 1) := by decide +kernel
theorem hs_X6_take : yX6_take.cls ≠ "java/lang/invoke/MethodHandle" ∧ yX6_take.cls ≠ "java/lang/invoke/VarHandle" ∧ (parseMethodDescriptor yX6_take.desc).map (fun d => d.parameters.length) = some 3 := by decide +kernel
set_option maxHeartbeats 4000000 in
set_option maxRecDepth 100000 in
theorem k_X6_take (l : Launch) (E : Ev) (K : Kd) (z : Nat) (a_0 : Option Nat) (a_1 : Int32) (a_2 : Int32) (w : Wd) {w' : Wd} (hf : f_X6_take K a_0 a_1 a_2 w = some w') : Met l yX6_take (Cond.code yX6_take cX6_take 3 (Option.none : Option Jvm.ClassFile.FieldType) :: bt) ({ frames := 0, cells := 0, slots := 0, locals := 0 } : Room) (va_Pc [rv E a_0, .int a_1, .int a_2] (HB E K w z)) (QV E K z w') 0 0 (hA E) := by
  refine Met.ofW (cc := cX6_take) (maxL := 3) (ret := (Option.none : Option Jvm.ClassFile.FieldType)) (by decide) rfl ?_
  intro p e s m args below meth c s₁ B hml hv
  obtain ⟨rfl, hz, hP, hKs, hT, hb0⟩ := hv
  have C : CX p l e s m _ meth c cX6_take 3 RX6 (Option.none : Option Jvm.ClassFile.FieldType) E := ⟨B.exec, B.bytes, hml, findClass_of_methodNamed B.named, fun w h => atoms_spec (ws := Cond.code yX6_take cX6_take 3 (Option.none : Option Jvm.ClassFile.FieldType) :: bt) B.pre w (List.mem_cons_of_mem _ h), hKs, hT, by rw [hz]; exact hb0, B.notSynchronized, B.returns⟩
  have hH : HQ E K z w s s.heap [] := ⟨hP, va_S.rf, hz⟩
  obtain ⟨hx, hb, hml, hown, hts, hKs, hT, hb0, hlocks, hret⟩ := id C
  have hl := lv_entry [rv E a_0, .int a_1, .int a_2] (n := 3) (by simp [lg_len_nil, lg_len_i, lg_len_j, lg_len_q])
  rw [lg_entry_eq]
  generalize (lg_sl [rv E a_0, .int a_1, .int a_2] ++ List.replicate (3 - (lg_sl [rv E a_0, .int a_1, .int a_2]).length) Slot.unset).toArray = ls at hl ⊢
  replace hl : lv_has ls 3 [(0, rv E a_0), (1, .int a_1), (2, .int a_2)] := by simpa only [lv_args, cat_q, cat_i, cat_j, reduceIte, Nat.reduceEqDiff, Nat.reduceAdd, Nat.zero_add] using hl
  generalize s.heap = H at hH ⊢
  unfold f_X6_take at hf
  refine lv_iload_n hx hb dX6_take_0 rfl (lv_at hl 1 rfl) ?_
  refine lv_if_lt (tgt := 17) hx hb dX6_take_1 (by decide) (fun c1 => ?_) (fun c1 => ?_)
  · replace hf := (if_pos c1).symm.trans hf
    exact hw_vret hx hb hret hf hH hlocks dX6_take_17
  · replace hf := (if_neg c1).symm.trans hf
    refine lv_iload_n hx hb dX6_take_4 rfl (lv_at hl 1 rfl) ?_
    refine hl_aload_n hx hb dX6_take_5 rfl (lv_at hl 0 rfl) ?_
    obtain ⟨a2, ha2, hf⟩ := bnd hf
    replace ha2 := cha_some ha2
    refine hw_alen20 hx hb hKs hH ha2.1 ha2.2 dX6_take_6 ?_
    refine lv_icmp_ge (tgt := 17) hx hb dX6_take_7 (by decide) (fun c3 => ?_) (fun c3 => ?_)
    · replace hf := (if_pos c3).symm.trans hf
      exact hw_vret hx hb hret hf hH hlocks dX6_take_17
    · replace hf := (if_neg c3).symm.trans hf
      refine hl_aload_n hx hb dX6_take_10 rfl (lv_at hl 0 rfl) ?_
      refine lv_iload_n hx hb dX6_take_11 rfl (lv_at hl 1 rfl) ?_
      refine lv_dup2_11 hx hb dX6_take_12 rfl rv_cat ?_
      obtain ⟨j4, hj4, hf⟩ := bnd hf
      refine hw_iald hx hb hKs hH ha2.1 ha2.2 hj4 dX6_take_13 ?_
      refine lv_iload_n hx hb dX6_take_14 rfl (lv_at hl 2 rfl) ?_
      refine lv_ior hx hb dX6_take_15 ?_
      obtain ⟨j5, hj5, hf⟩ := bnd hf
      obtain ⟨w6, hw6, hf⟩ := bnd hf
      replace hw6 := Option.some.inj hw6
      refine hw_iast (x := ((aI w a2.1 j4) ||| a_2)) hx hb hKs hH ha2.1 ha2.2 hj5 dX6_take_16 (fun H locs hH => ?_)
      rw [hw6] at hH
      exact hw_vret hx hb hret hf hH hlocks dX6_take_17

theorem dX7_copyFrom_0 : decode cX7_copyFrom 0 = .ok (.aload_n 0, 1) := by decide +kernel
theorem dX7_copyFrom_1 : decode cX7_copyFrom 1 = .ok (.aload_n 1, 1) := by decide +kernel
theorem dX7_copyFrom_2 : decode cX7_copyFrom 2 = .ok (.getfield 25, 3) := by decide +kernel
theorem dX7_copyFrom_5 : decode cX7_copyFrom 5 = .ok (.putfield 25, 3) := by decide +kernel
theorem dX7_copyFrom_8 : decode cX7_copyFrom 8 = .ok (.aload_n 0, 1) := by decide +kernel
theorem dX7_copyFrom_9 : decode cX7_copyFrom 9 = .ok (.aload_n 1, 1) := by decide +kernel
theorem dX7_copyFrom_10 : decode cX7_copyFrom 10 = .ok (.getfield 15, 3) := by decide +kernel
theorem dX7_copyFrom_13 : decode cX7_copyFrom 13 = .ok (.putfield 15, 3) := by decide +kernel
theorem dX7_copyFrom_16 : decode cX7_copyFrom 16 = .ok (.aload_n 0, 1) := by decide +kernel
theorem dX7_copyFrom_17 : decode cX7_copyFrom 17 = .ok (.aload_n 1, 1) := by decide +kernel
theorem dX7_copyFrom_18 : decode cX7_copyFrom 18 = .ok (.getfield 28, 3) := by decide +kernel
theorem dX7_copyFrom_21 : decode cX7_copyFrom 21 = .ok (.putfield 28, 3) := by decide +kernel
theorem dX7_copyFrom_24 : decode cX7_copyFrom 24 = .ok (.aload_n 0, 1) := by decide +kernel
theorem dX7_copyFrom_25 : decode cX7_copyFrom 25 = .ok (.aload_n 1, 1) := by decide +kernel
theorem dX7_copyFrom_26 : decode cX7_copyFrom 26 = .ok (.getfield 31, 3) := by decide +kernel
theorem dX7_copyFrom_29 : decode cX7_copyFrom 29 = .ok (.putfield 31, 3) := by decide +kernel
theorem dX7_copyFrom_32 : decode cX7_copyFrom 32 = .ok (.aload_n 0, 1) := by decide +kernel
theorem dX7_copyFrom_33 : decode cX7_copyFrom 33 = .ok (.aload_n 1, 1) := by decide +kernel
theorem dX7_copyFrom_34 : decode cX7_copyFrom 34 = .ok (.getfield 34, 3) := by decide +kernel
theorem dX7_copyFrom_37 : decode cX7_copyFrom 37 = .ok (.putfield 34, 3) := by decide +kernel
theorem dX7_copyFrom_40 : decode cX7_copyFrom 40 = .ok (.aload_n 0, 1) := by decide +kernel
theorem dX7_copyFrom_41 : decode cX7_copyFrom 41 = .ok (.aload_n 1, 1) := by decide +kernel
theorem dX7_copyFrom_42 : decode cX7_copyFrom 42 = .ok (.getfield 37, 3) := by decide +kernel
theorem dX7_copyFrom_45 : decode cX7_copyFrom 45 = .ok (.putfield 37, 3) := by decide +kernel
theorem dX7_copyFrom_48 : decode cX7_copyFrom 48 = .ok (.aload_n 0, 1) := by decide +kernel
theorem dX7_copyFrom_49 : decode cX7_copyFrom 49 = .ok (.aload_n 1, 1) := by decide +kernel
theorem dX7_copyFrom_50 : decode cX7_copyFrom 50 = .ok (.getfield 19, 3) := by decide +kernel
theorem dX7_copyFrom_53 : decode cX7_copyFrom 53 = .ok (.putfield 19, 3) := by decide +kernel
theorem dX7_copyFrom_56 : decode cX7_copyFrom 56 = .ok (.aload_n 1, 1) := by decide +kernel
theorem dX7_copyFrom_57 : decode cX7_copyFrom 57 = .ok (.getfield 9, 3) := by decide +kernel
theorem dX7_copyFrom_60 : decode cX7_copyFrom 60 = .ok (.iconst 0, 1) := by decide +kernel
theorem dX7_copyFrom_61 : decode cX7_copyFrom 61 = .ok (.aload_n 0, 1) := by decide +kernel
theorem dX7_copyFrom_62 : decode cX7_copyFrom 62 = .ok (.getfield 9, 3) := by decide +kernel
theorem dX7_copyFrom_65 : decode cX7_copyFrom 65 = .ok (.iconst 0, 1) := by decide +kernel
theorem dX7_copyFrom_66 : decode cX7_copyFrom 66 = .ok (.aload_n 0, 1) := by decide +kernel
theorem dX7_copyFrom_67 : decode cX7_copyFrom 67 = .ok (.getfield 9, 3) := by decide +kernel
theorem dX7_copyFrom_70 : decode cX7_copyFrom 70 = .ok (.arraylength, 1) := by decide +kernel
theorem dX7_copyFrom_71 : decode cX7_copyFrom 71 = .ok (.invokestatic 40, 3) := by decide +kernel
theorem dX7_copyFrom_74 : decode cX7_copyFrom 74 = .ok (.return_, 1) := by decide +kernel
theorem hd_X7_copyFrom : yX7_copyFrom.cls = RX7 ∧ yX7_copyFrom.cls ≠ "java/lang/invoke/MethodHandle" ∧ yX7_copyFrom.cls ≠ "java/lang/invoke/VarHandle" ∧ (parseMethodDescriptor yX7_copyFrom.desc).map (fun d => d.parameters.length) = some 1 := by decide +kernel
theorem hs_X7_copyFrom : yX7_copyFrom.cls ≠ "java/lang/invoke/MethodHandle" ∧ yX7_copyFrom.cls ≠ "java/lang/invoke/VarHandle" ∧ (parseMethodDescriptor yX7_copyFrom.desc).map (fun d => d.parameters.length) = some 1 := by decide +kernel
set_option maxHeartbeats 4000000 in
set_option maxRecDepth 100000 in
theorem k_X7_copyFrom (l : Launch) (E : Ev) (K : Kd) (z : Nat) (o : Nat) (a_1 : Option Nat) (w : Wd) (ho : K o = some (6, 0)) {w' : Wd} (hf : f_X7_copyFrom K o a_1 w = some w') : Met l yX7_copyFrom (Cond.code yX7_copyFrom cX7_copyFrom 2 (Option.none : Option Jvm.ClassFile.FieldType) :: bt) ({ frames := 1, cells := 0, slots := 0, locals := 60 } : Room) (va_Pc [rv E (some o), rv E a_1] (HB E K w z)) (QV E K z w') 0 0 (hA E) := by
  refine Met.ofW (cc := cX7_copyFrom) (maxL := 2) (ret := (Option.none : Option Jvm.ClassFile.FieldType)) (by decide) rfl ?_
  intro p e s m args below meth c s₁ B hml hv
  obtain ⟨rfl, hz, hP, hKs, hT, hb0⟩ := hv
  have C : CX p l e s m _ meth c cX7_copyFrom 2 RX7 (Option.none : Option Jvm.ClassFile.FieldType) E := ⟨B.exec, B.bytes, hml, findClass_of_methodNamed B.named, fun w h => atoms_spec (ws := Cond.code yX7_copyFrom cX7_copyFrom 2 (Option.none : Option Jvm.ClassFile.FieldType) :: bt) B.pre w (List.mem_cons_of_mem _ h), hKs, hT, by rw [hz]; exact hb0, B.notSynchronized, B.returns⟩
  have hH : HQ E K z w s s.heap [] := ⟨hP, va_S.rf, hz⟩
  obtain ⟨hx, hb, hml, hown, hts, hKs, hT, hb0, hlocks, hret⟩ := id C
  have hl := lv_entry [rv E (some o), rv E a_1] (n := 2) (by simp [lg_len_nil, lg_len_i, lg_len_j, lg_len_q])
  rw [lg_entry_eq]
  generalize (lg_sl [rv E (some o), rv E a_1] ++ List.replicate (2 - (lg_sl [rv E (some o), rv E a_1]).length) Slot.unset).toArray = ls at hl ⊢
  replace hl : lv_has ls 2 [(0, rv E (some o)), (1, rv E a_1)] := by simpa only [lv_args, cat_q, cat_i, cat_j, reduceIte, Nat.reduceEqDiff, Nat.reduceAdd, Nat.zero_add] using hl
  generalize s.heap = H at hH ⊢
  unfold f_X7_copyFrom at hf
  refine hl_aload_n hx hb dX7_copyFrom_0 rfl (lv_at hl 0 rfl) ?_
  refine hl_aload_n hx hb dX7_copyFrom_1 rfl (lv_at hl 1 rfl) ?_
  obtain ⟨a1, ha1, hf⟩ := bnd hf
  replace ha1 := chk_some ha1
  refine g7_0 hx hb hts hown hKs hH ha1.1 ha1.2 m2_69 dX7_copyFrom_2 ?_
  obtain ⟨w2, hw2, hf⟩ := bnd hf
  replace hw2 := Option.some.inj hw2
  refine p7_0 (v := (wI w 700 a1)) hx hb hts hown hKs hH rfl ho m2_69 dX7_copyFrom_5 (fun H locs hH => ?_)
  rw [hw2] at hH
  refine hl_aload_n hx hb dX7_copyFrom_8 rfl (lv_at hl 0 rfl) ?_
  refine hl_aload_n hx hb dX7_copyFrom_9 rfl (lv_at hl 1 rfl) ?_
  refine g7_1 hx hb hts hown hKs hH ha1.1 ha1.2 m2_72 dX7_copyFrom_10 ?_
  obtain ⟨w3, hw3, hf⟩ := bnd hf
  replace hw3 := Option.some.inj hw3
  refine p7_1 (v := (wI w2 701 a1)) hx hb hts hown hKs hH rfl ho m2_72 dX7_copyFrom_13 (fun H locs hH => ?_)
  rw [hw3] at hH
  refine hl_aload_n hx hb dX7_copyFrom_16 rfl (lv_at hl 0 rfl) ?_
  refine hl_aload_n hx hb dX7_copyFrom_17 rfl (lv_at hl 1 rfl) ?_
  refine g7_2 hx hb hts hown hKs hH ha1.1 ha1.2 m2_75 dX7_copyFrom_18 ?_
  obtain ⟨w4, hw4, hf⟩ := bnd hf
  replace hw4 := Option.some.inj hw4
  refine p7_2 (v := (wI w3 702 a1)) hx hb hts hown hKs hH rfl ho m2_75 dX7_copyFrom_21 (fun H locs hH => ?_)
  rw [hw4] at hH
  refine hl_aload_n hx hb dX7_copyFrom_24 rfl (lv_at hl 0 rfl) ?_
  refine hl_aload_n hx hb dX7_copyFrom_25 rfl (lv_at hl 1 rfl) ?_
  refine g7_3 hx hb hts hown hKs hH ha1.1 ha1.2 m2_78 dX7_copyFrom_26 ?_
  obtain ⟨w5, hw5, hf⟩ := bnd hf
  replace hw5 := Option.some.inj hw5
  refine p7_3 (v := (wI w4 703 a1)) hx hb hts hown hKs hH rfl ho m2_78 dX7_copyFrom_29 (fun H locs hH => ?_)
  rw [hw5] at hH
  refine hl_aload_n hx hb dX7_copyFrom_32 rfl (lv_at hl 0 rfl) ?_
  refine hl_aload_n hx hb dX7_copyFrom_33 rfl (lv_at hl 1 rfl) ?_
  refine g7_4 hx hb hts hown hKs hH ha1.1 ha1.2 m2_81 dX7_copyFrom_34 ?_
  obtain ⟨w6, hw6, hf⟩ := bnd hf
  replace hw6 := Option.some.inj hw6
  refine p7_4 (v := (wI w5 704 a1)) hx hb hts hown hKs hH rfl ho m2_81 dX7_copyFrom_37 (fun H locs hH => ?_)
  rw [hw6] at hH
  refine hl_aload_n hx hb dX7_copyFrom_40 rfl (lv_at hl 0 rfl) ?_
  refine hl_aload_n hx hb dX7_copyFrom_41 rfl (lv_at hl 1 rfl) ?_
  refine g7_5 hx hb hts hown hKs hH ha1.1 ha1.2 m2_85 dX7_copyFrom_42 ?_
  obtain ⟨w7, hw7, hf⟩ := bnd hf
  replace hw7 := Option.some.inj hw7
  refine p7_5 (v := (wI w6 705 a1)) hx hb hts hown hKs hH rfl ho m2_85 dX7_copyFrom_45 (fun H locs hH => ?_)
  rw [hw7] at hH
  refine hl_aload_n hx hb dX7_copyFrom_48 rfl (lv_at hl 0 rfl) ?_
  refine hl_aload_n hx hb dX7_copyFrom_49 rfl (lv_at hl 1 rfl) ?_
  refine g7_6 hx hb hts hown hKs hH ha1.1 ha1.2 m2_89 dX7_copyFrom_50 ?_
  obtain ⟨w8, hw8, hf⟩ := bnd hf
  replace hw8 := Option.some.inj hw8
  refine p7_6 (v := (wI w7 706 a1)) hx hb hts hown hKs hH rfl ho m2_89 dX7_copyFrom_53 (fun H locs hH => ?_)
  rw [hw8] at hH
  refine hl_aload_n hx hb dX7_copyFrom_56 rfl (lv_at hl 1 rfl) ?_
  refine g7_7 hx hb hts hown hKs hH ha1.1 ha1.2 m2_92 dX7_copyFrom_57 ?_
  refine lv_iconst (v := 0) hx hb dX7_copyFrom_60 (by decide) ?_
  refine hl_aload_n hx hb dX7_copyFrom_61 rfl (lv_at hl 0 rfl) ?_
  refine g7_7 hx hb hts hown hKs hH rfl ho m2_92 dX7_copyFrom_62 ?_
  refine lv_iconst (v := 0) hx hb dX7_copyFrom_65 (by decide) ?_
  refine hl_aload_n hx hb dX7_copyFrom_66 rfl (lv_at hl 0 rfl) ?_
  refine g7_7 hx hb hts hown hKs hH rfl ho m2_92 dX7_copyFrom_67 ?_
  obtain ⟨a9, ha9, hf⟩ := bnd hf
  replace ha9 := cha_some ha9
  refine hw_alen20 hx hb hKs hH ha9.1 ha9.2 dX7_copyFrom_70 ?_
  obtain ⟨a10, ha10, hf⟩ := bnd hf
  replace ha10 := cha_some ha10
  obtain ⟨_, hg11, hf⟩ := bnd hf
  replace hg11 := grd_some hg11
  obtain ⟨w12, hw12, hf⟩ := bnd hf
  replace hw12 := Option.some.inj hw12
  refine hw_copy hx hb (hml.trans hl.1.symm) hown (hts _ m4_95) (hts _ m3_227) (hts _ m3_226) (hts _ m1_18) hKs hH ha10.1 ha10.2 ha9.1 ha9.2 hg11.1 hg11.2.1 hg11.2.2.1 hg11.2.2.2.1 hg11.2.2.2.2 (Nat.le_of_ble_eq_true rfl) (by decide) dX7_copyFrom_71 (fun H locs hH => ?_)
  rw [hw12] at hH
  exact hw_vret hx hb hret hf hH hlocks dX7_copyFrom_74

theorem dX7_isOn_0 : decode cX7_isOn 0 = .ok (.aload_n 0, 1) := by decide +kernel
theorem dX7_isOn_1 : decode cX7_isOn 1 = .ok (.getfield 25, 3) := by decide +kernel
theorem dX7_isOn_4 : decode cX7_isOn 4 = .ok (.iconst 1, 1) := by decide +kernel
theorem dX7_isOn_5 : decode cX7_isOn 5 = .ok (.if_icmp .eq 11, 3) := by decide +kernel
theorem dX7_isOn_8 : decode cX7_isOn 8 = .ok (.aload_n 0, 1) := by decide +kernel
theorem dX7_isOn_9 : decode cX7_isOn 9 = .ok (.getfield 25, 3) := by decide +kernel
theorem dX7_isOn_12 : decode cX7_isOn 12 = .ok (.iconst 2, 1) := by decide +kernel
theorem dX7_isOn_13 : decode cX7_isOn 13 = .ok (.if_icmp .ne 15, 3) := by decide +kernel
theorem dX7_isOn_16 : decode cX7_isOn 16 = .ok (.aload_n 0, 1) := by decide +kernel
theorem dX7_isOn_17 : decode cX7_isOn 17 = .ok (.getfield 28, 3) := by decide +kernel
theorem dX7_isOn_20 : decode cX7_isOn 20 = .ok (.iload_n 1, 1) := by decide +kernel
theorem dX7_isOn_21 : decode cX7_isOn 21 = .ok (.if_icmp .ne 7, 3) := by decide +kernel
theorem dX7_isOn_24 : decode cX7_isOn 24 = .ok (.iconst 1, 1) := by decide +kernel
theorem dX7_isOn_25 : decode cX7_isOn 25 = .ok (.goto 4, 3) := by decide +kernel
theorem dX7_isOn_28 : decode cX7_isOn 28 = .ok (.iconst 0, 1) := by decide +kernel
theorem dX7_isOn_29 : decode cX7_isOn 29 = .ok (.ireturn, 1) := by decide +kernel
theorem hd_X7_isOn : yX7_isOn.cls = RX7 ∧ yX7_isOn.cls ≠ "java/lang/invoke/MethodHandle" ∧ yX7_isOn.cls ≠ "java/lang/invoke/VarHandle" ∧ (parseMethodDescriptor yX7_isOn.desc).map (fun d => d.parameters.length) = some 1 := by decide +kernel
theorem hs_X7_isOn : yX7_isOn.cls ≠ "java/lang/invoke/MethodHandle" ∧ yX7_isOn.cls ≠ "java/lang/invoke/VarHandle" ∧ (parseMethodDescriptor yX7_isOn.desc).map (fun d => d.parameters.length) = some 1 := by decide +kernel
set_option maxHeartbeats 4000000 in
set_option maxRecDepth 100000 in
theorem k_X7_isOn (l : Launch) (E : Ev) (K : Kd) (z : Nat) (o : Nat) (a_1 : Int32) (w : Wd) (ho : K o = some (6, 0)) {r : Bool} {w' : Wd} (hf : f_X7_isOn K o a_1 w = some (r, w')) : Met l yX7_isOn (Cond.code yX7_isOn cX7_isOn 2 (Option.some Jvm.ClassFile.FieldType.boolean) :: bt) ({ frames := 0, cells := 0, slots := 0, locals := 0 } : Room) (va_Pc [rv E (some o), .int a_1] (HB E K w z)) (QI E K z w' (b2i r)) 0 0 (hA E) := by
  refine Met.ofW (cc := cX7_isOn) (maxL := 2) (ret := (Option.some Jvm.ClassFile.FieldType.boolean)) (by decide) rfl ?_
  intro p e s m args below meth c s₁ B hml hv
  obtain ⟨rfl, hz, hP, hKs, hT, hb0⟩ := hv
  have C : CX p l e s m _ meth c cX7_isOn 2 RX7 (Option.some Jvm.ClassFile.FieldType.boolean) E := ⟨B.exec, B.bytes, hml, findClass_of_methodNamed B.named, fun w h => atoms_spec (ws := Cond.code yX7_isOn cX7_isOn 2 (Option.some Jvm.ClassFile.FieldType.boolean) :: bt) B.pre w (List.mem_cons_of_mem _ h), hKs, hT, by rw [hz]; exact hb0, B.notSynchronized, B.returns⟩
  have hH : HQ E K z w s s.heap [] := ⟨hP, va_S.rf, hz⟩
  obtain ⟨hx, hb, hml, hown, hts, hKs, hT, hb0, hlocks, hret⟩ := id C
  have hl := lv_entry [rv E (some o), .int a_1] (n := 2) (by simp [lg_len_nil, lg_len_i, lg_len_j, lg_len_q])
  rw [lg_entry_eq]
  generalize (lg_sl [rv E (some o), .int a_1] ++ List.replicate (2 - (lg_sl [rv E (some o), .int a_1]).length) Slot.unset).toArray = ls at hl ⊢
  replace hl : lv_has ls 2 [(0, rv E (some o)), (1, .int a_1)] := by simpa only [lv_args, cat_q, cat_i, cat_j, reduceIte, Nat.reduceEqDiff, Nat.reduceAdd, Nat.zero_add] using hl
  generalize s.heap = H at hH ⊢
  unfold f_X7_isOn at hf
  refine hl_aload_n hx hb dX7_isOn_0 rfl (lv_at hl 0 rfl) ?_
  refine g7_0 hx hb hts hown hKs hH rfl ho m2_69 dX7_isOn_1 ?_
  refine lv_iconst (v := 1) hx hb dX7_isOn_4 (by decide) ?_
  refine lv_icmp_eq (tgt := 16) hx hb dX7_isOn_5 (by decide) (fun c1 => ?_) (fun c1 => ?_)
  · replace hf := (if_pos c1).symm.trans hf
    refine hl_aload_n hx hb dX7_isOn_16 rfl (lv_at hl 0 rfl) ?_
    refine g7_2 hx hb hts hown hKs hH rfl ho m2_75 dX7_isOn_17 ?_
    refine lv_iload_n hx hb dX7_isOn_20 rfl (lv_at hl 1 rfl) ?_
    refine lv_icmp_ne (tgt := 28) hx hb dX7_isOn_21 (by decide) (fun c2 => ?_) (fun c2 => ?_)
    · replace hf := (if_neg c2).symm.trans hf
      refine lv_iconst (v := 0) hx hb dX7_isOn_28 (by decide) ?_
      exact hw_zret hx hb hret rfl hf hH hlocks dX7_isOn_29
    · replace hf := (if_pos c2).symm.trans hf
      refine lv_iconst (v := 1) hx hb dX7_isOn_24 (by decide) ?_
      refine lv_goto (tgt := 29) hx hb dX7_isOn_25 (by decide) ?_
      exact hw_zret hx hb hret rfl hf hH hlocks dX7_isOn_29
  · replace hf := (if_neg c1).symm.trans hf
    refine hl_aload_n hx hb dX7_isOn_8 rfl (lv_at hl 0 rfl) ?_
    refine g7_0 hx hb hts hown hKs hH rfl ho m2_69 dX7_isOn_9 ?_
    refine lv_iconst (v := 2) hx hb dX7_isOn_12 (by decide) ?_
    refine lv_icmp_ne (tgt := 28) hx hb dX7_isOn_13 (by decide) (fun c3 => ?_) (fun c3 => ?_)
    · replace hf := (if_neg c3).symm.trans hf
      refine lv_iconst (v := 0) hx hb dX7_isOn_28 (by decide) ?_
      exact hw_zret hx hb hret rfl hf hH hlocks dX7_isOn_29
    · replace hf := (if_pos c3).symm.trans hf
      refine hl_aload_n hx hb dX7_isOn_16 rfl (lv_at hl 0 rfl) ?_
      refine g7_2 hx hb hts hown hKs hH rfl ho m2_75 dX7_isOn_17 ?_
      refine lv_iload_n hx hb dX7_isOn_20 rfl (lv_at hl 1 rfl) ?_
      refine lv_icmp_ne (tgt := 28) hx hb dX7_isOn_21 (by decide) (fun c4 => ?_) (fun c4 => ?_)
      · replace hf := (if_neg c4).symm.trans hf
        refine lv_iconst (v := 0) hx hb dX7_isOn_28 (by decide) ?_
        exact hw_zret hx hb hret rfl hf hH hlocks dX7_isOn_29
      · replace hf := (if_pos c4).symm.trans hf
        refine lv_iconst (v := 1) hx hb dX7_isOn_24 (by decide) ?_
        refine lv_goto (tgt := 29) hx hb dX7_isOn_25 (by decide) ?_
        exact hw_zret hx hb hret rfl hf hH hlocks dX7_isOn_29

theorem dX7_setHearing_0 : decode cX7_setHearing 0 = .ok (.aload_n 0, 1) := by decide +kernel
theorem dX7_setHearing_1 : decode cX7_setHearing 1 = .ok (.iconst 1, 1) := by decide +kernel
theorem dX7_setHearing_2 : decode cX7_setHearing 2 = .ok (.putfield 25, 3) := by decide +kernel
theorem dX7_setHearing_5 : decode cX7_setHearing 5 = .ok (.aload_n 0, 1) := by decide +kernel
theorem dX7_setHearing_6 : decode cX7_setHearing 6 = .ok (.iload_n 1, 1) := by decide +kernel
theorem dX7_setHearing_7 : decode cX7_setHearing 7 = .ok (.putfield 28, 3) := by decide +kernel
theorem dX7_setHearing_10 : decode cX7_setHearing 10 = .ok (.aload_n 0, 1) := by decide +kernel
theorem dX7_setHearing_11 : decode cX7_setHearing 11 = .ok (.iload_n 2, 1) := by decide +kernel
theorem dX7_setHearing_12 : decode cX7_setHearing 12 = .ok (.putfield 31, 3) := by decide +kernel
theorem dX7_setHearing_15 : decode cX7_setHearing 15 = .ok (.aload_n 0, 1) := by decide +kernel
theorem dX7_setHearing_16 : decode cX7_setHearing 16 = .ok (.iload_n 3, 1) := by decide +kernel
theorem dX7_setHearing_17 : decode cX7_setHearing 17 = .ok (.putfield 34, 3) := by decide +kernel
theorem dX7_setHearing_20 : decode cX7_setHearing 20 = .ok (.aload_n 0, 1) := by decide +kernel
theorem dX7_setHearing_21 : decode cX7_setHearing 21 = .ok (.iload 4, 2) := by decide +kernel
theorem dX7_setHearing_23 : decode cX7_setHearing 23 = .ok (.putfield 37, 3) := by decide +kernel
theorem dX7_setHearing_26 : decode cX7_setHearing 26 = .ok (.return_, 1) := by decide +kernel
theorem hd_X7_setHearing : yX7_setHearing.cls = RX7 ∧ yX7_setHearing.cls ≠ "java/lang/invoke/MethodHandle" ∧ yX7_setHearing.cls ≠ "java/lang/invoke/VarHandle" ∧ (parseMethodDescriptor yX7_setHearing.desc).map (fun d => d.parameters.length) = some 4 := by decide +kernel
theorem hs_X7_setHearing : yX7_setHearing.cls ≠ "java/lang/invoke/MethodHandle" ∧ yX7_setHearing.cls ≠ "java/lang/invoke/VarHandle" ∧ (parseMethodDescriptor yX7_setHearing.desc).map (fun d => d.parameters.length) = some 4 := by decide +kernel
set_option maxHeartbeats 4000000 in
set_option maxRecDepth 100000 in
theorem k_X7_setHearing (l : Launch) (E : Ev) (K : Kd) (z : Nat) (o : Nat) (a_1 : Int32) (a_2 : Int32) (a_3 : Int32) (a_4 : Int32) (w : Wd) (ho : K o = some (6, 0)) {w' : Wd} (hf : f_X7_setHearing K o a_1 a_2 a_3 a_4 w = some w') : Met l yX7_setHearing (Cond.code yX7_setHearing cX7_setHearing 5 (Option.none : Option Jvm.ClassFile.FieldType) :: bt) ({ frames := 0, cells := 0, slots := 0, locals := 0 } : Room) (va_Pc [rv E (some o), .int a_1, .int a_2, .int a_3, .int a_4] (HB E K w z)) (QV E K z w') 0 0 (hA E) := by
  refine Met.ofW (cc := cX7_setHearing) (maxL := 5) (ret := (Option.none : Option Jvm.ClassFile.FieldType)) (by decide) rfl ?_
  intro p e s m args below meth c s₁ B hml hv
  obtain ⟨rfl, hz, hP, hKs, hT, hb0⟩ := hv
  have C : CX p l e s m _ meth c cX7_setHearing 5 RX7 (Option.none : Option Jvm.ClassFile.FieldType) E := ⟨B.exec, B.bytes, hml, findClass_of_methodNamed B.named, fun w h => atoms_spec (ws := Cond.code yX7_setHearing cX7_setHearing 5 (Option.none : Option Jvm.ClassFile.FieldType) :: bt) B.pre w (List.mem_cons_of_mem _ h), hKs, hT, by rw [hz]; exact hb0, B.notSynchronized, B.returns⟩
  have hH : HQ E K z w s s.heap [] := ⟨hP, va_S.rf, hz⟩
  obtain ⟨hx, hb, hml, hown, hts, hKs, hT, hb0, hlocks, hret⟩ := id C
  have hl := lv_entry [rv E (some o), .int a_1, .int a_2, .int a_3, .int a_4] (n := 5) (by simp [lg_len_nil, lg_len_i, lg_len_j, lg_len_q])
  rw [lg_entry_eq]
  generalize (lg_sl [rv E (some o), .int a_1, .int a_2, .int a_3, .int a_4] ++ List.replicate (5 - (lg_sl [rv E (some o), .int a_1, .int a_2, .int a_3, .int a_4]).length) Slot.unset).toArray = ls at hl ⊢
  replace hl : lv_has ls 5 [(0, rv E (some o)), (1, .int a_1), (2, .int a_2), (3, .int a_3), (4, .int a_4)] := by simpa only [lv_args, cat_q, cat_i, cat_j, reduceIte, Nat.reduceEqDiff, Nat.reduceAdd, Nat.zero_add] using hl
  generalize s.heap = H at hH ⊢
  unfold f_X7_setHearing at hf
  refine hl_aload_n hx hb dX7_setHearing_0 rfl (lv_at hl 0 rfl) ?_
  refine lv_iconst (v := 1) hx hb dX7_setHearing_1 (by decide) ?_
  obtain ⟨w1, hw1, hf⟩ := bnd hf
  replace hw1 := Option.some.inj hw1
  refine p7_0 (v := 1) hx hb hts hown hKs hH rfl ho m2_69 dX7_setHearing_2 (fun H locs hH => ?_)
  rw [hw1] at hH
  refine hl_aload_n hx hb dX7_setHearing_5 rfl (lv_at hl 0 rfl) ?_
  refine lv_iload_n hx hb dX7_setHearing_6 rfl (lv_at hl 1 rfl) ?_
  obtain ⟨w2, hw2, hf⟩ := bnd hf
  replace hw2 := Option.some.inj hw2
  refine p7_2 (v := a_1) hx hb hts hown hKs hH rfl ho m2_75 dX7_setHearing_7 (fun H locs hH => ?_)
  rw [hw2] at hH
  refine hl_aload_n hx hb dX7_setHearing_10 rfl (lv_at hl 0 rfl) ?_
  refine lv_iload_n hx hb dX7_setHearing_11 rfl (lv_at hl 2 rfl) ?_
  obtain ⟨w3, hw3, hf⟩ := bnd hf
  replace hw3 := Option.some.inj hw3
  refine p7_3 (v := a_2) hx hb hts hown hKs hH rfl ho m2_78 dX7_setHearing_12 (fun H locs hH => ?_)
  rw [hw3] at hH
  refine hl_aload_n hx hb dX7_setHearing_15 rfl (lv_at hl 0 rfl) ?_
  refine lv_iload_n hx hb dX7_setHearing_16 rfl (lv_at hl 3 rfl) ?_
  obtain ⟨w4, hw4, hf⟩ := bnd hf
  replace hw4 := Option.some.inj hw4
  refine p7_4 (v := a_3) hx hb hts hown hKs hH rfl ho m2_81 dX7_setHearing_17 (fun H locs hH => ?_)
  rw [hw4] at hH
  refine hl_aload_n hx hb dX7_setHearing_20 rfl (lv_at hl 0 rfl) ?_
  refine lv_iload hx hb dX7_setHearing_21 (lv_at hl 4 rfl) ?_
  obtain ⟨w5, hw5, hf⟩ := bnd hf
  replace hw5 := Option.some.inj hw5
  refine p7_5 (v := a_4) hx hb hts hown hKs hH rfl ho m2_85 dX7_setHearing_23 (fun H locs hH => ?_)
  rw [hw5] at hH
  exact hw_vret hx hb hret hf hH hlocks dX7_setHearing_26
end
