/-! The methods as functions over the memory. -/
def f_X12_append_L3 (K : Kd) (o : Nat) (k : Int32 → Int32 → Wd → Option Wd) : Nat → Int32 → Int32 → Wd → Option Wd
  | 0, _, _, _ => none
  | n + 1, v1_3, v2_3, w =>
    if v2_3 < 0 then
      (k v1_3 v2_3 w)
    else
      ((cha K 21 (wR w 1200 o)).bind fun a3 =>
      if (nI a3.2) ≤ (wI w 1201 o) then
        (f_X12_append_L3 K o k n v1_3 (v2_3 + (-8)) w)
      else
        ((ixa (wI w 1201 o) a3.2).bind fun j5 =>
        (some (tI w a3.1 j5 (vp_nar .byte ((ushr v1_3 v2_3).toInt8.toInt32)))).bind fun w6 =>
        (some (sI w6 1201 o ((wI w6 1201 o) + 1))).bind fun w7 =>
        f_X12_append_L3 K o k n v1_3 (v2_3 + (-8)) w7))

def f_X12_append (K : Kd) (o : Nat) (a_1 : Int32) (w : Wd) : Option Wd :=
  f_X12_append_L3 K o (fun v1_3 v2_3 w1 =>
    some w1) fu a_1 24 w

def f_X12_truncate (K : Kd) (o : Nat) (a_1 : Int32) (w : Wd) : Option (Bool × Wd) :=
  if a_1 < 0 then
    (some (false, w))
  else
    (if a_1 ≤ (wI w 1201 o) then
      ((some (sI w 1201 o a_1)).bind fun w3 =>
      some (true, w3))
    else
      (some (false, w)))

def f_X12_requireComingDay (K : Kd) (o : Nat) (a_1 : Int32) (w : Wd) : Option ((Unit ⊕ Nat) × Wd) :=
  (chk K 9 (wR w 1205 o)).bind fun a1 =>
  if a_1 < (wI w 1001 a1) then
    (some (.inr 2, w))
  else
    (if a_1 < 600 then
      (some (.inl (), w))
    else
      (some (.inr 2, w)))

def f_X12_requireReason (K : Kd) (o : Nat) (a_1 : Int32) (w : Wd) : Option ((Unit ⊕ Nat) × Wd) :=
  if a_1 < 0 then
    (some (.inr 2, w))
  else
    (if a_1 < 4 then
      (some (.inl (), w))
    else
      (some (.inr 2, w)))

def f_X12_isLetter (K : Kd) (a_0 : Int32) (w : Wd) : Option (Bool × Wd) :=
  if a_0 < 97 then
    (some (false, w))
  else
    (if 122 < a_0 then
      (some (false, w))
    else
      (some (true, w)))

def f_X12_has (K : Kd) (a_0 : Int32) (a_1 : Int32) (w : Wd) : Option (Bool × Wd) :=
  if ((ushr a_0 a_1) &&& 1) = 0 then
    (some (false, w))
  else
    (some (true, w))

def f_X12_slotSet (K : Kd) (a_0 : Int32) (a_1 : Int32) (w : Wd) : Option (Int32 × Wd) :=
  some ((((1 <<< (a_1 &&& 31)) - 1) <<< (a_0 &&& 31)), w)

def f_X1_init (K : Kd) (n : Nat) (o : Nat) (w : Wd) : Option (Kd × Nat × Wd) :=
  (some (kup K n (20, 12))).bind fun K1 =>
  (some (clr w n)).bind fun w2 =>
  (chk K1 0 (some o)).bind fun a3 =>
  (some (sR w2 100 a3 (some n))).bind fun w4 =>
  (some (kup K1 (n + 1) (20, 6))).bind fun K5 =>
  (some (clr w4 (n + 1))).bind fun w6 =>
  (chk K5 0 (some o)).bind fun a7 =>
  (some (sR w6 101 a7 (some (n + 1)))).bind fun w8 =>
  (some (kup K5 ((n + 1) + 1) (20, 156))).bind fun K9 =>
  (some (clr w8 ((n + 1) + 1))).bind fun w10 =>
  (chk K9 0 (some o)).bind fun a11 =>
  (some (sR w10 102 a11 (some ((n + 1) + 1)))).bind fun w12 =>
  some (K9, (((n + 1) + 1) + 1), w12)

def f_X2_init (K : Kd) (n : Nat) (o : Nat) (w : Wd) : Option (Kd × Nat × Wd) :=
  (some (kup K n (20, 19))).bind fun K1 =>
  (some (clr w n)).bind fun w2 =>
  (chk K1 1 (some o)).bind fun a3 =>
  (some (sR w2 200 a3 (some n))).bind fun w4 =>
  some (K1, (n + 1), w4)

def f_X2_contains (K : Kd) (o : Nat) (a_1 : Int32) (w : Wd) : Option (Bool × Wd) :=
  if a_1 < 0 then
    (some (false, w))
  else
    (if 600 ≤ a_1 then
      (some (false, w))
    else
      ((cha K 20 (wR w 200 o)).bind fun a3 =>
      (ixa (a_1 / 32) a3.2).bind fun j4 =>
      if ((ushr (aI w a3.1 j4) (a_1 - a_1 / 32 * 32)) &&& 1) = 0 then
        (some (false, w))
      else
        (some (true, w))))

def f_X2_add (K : Kd) (o : Nat) (a_1 : Int32) (w : Wd) : Option Wd :=
  if a_1 < 0 then
    (some w)
  else
    (if 600 ≤ a_1 then
      (some w)
    else
      ((f_X2_contains K o a_1 w).bind fun q3 =>
      if (b2i q3.1) = 0 then
        ((cha K 20 (wR q3.2 200 o)).bind fun a5 =>
        (ixa (a_1 / 32) a5.2).bind fun j6 =>
        (ixa (a_1 / 32) a5.2).bind fun j7 =>
        (some (tI q3.2 a5.1 j7 ((aI q3.2 a5.1 j6) ||| (1 <<< ((a_1 - a_1 / 32 * 32) &&& 31))))).bind fun w8 =>
        (some (sI w8 201 o ((wI w8 201 o) + 1))).bind fun w9 =>
        some w9)
      else
        (some q3.2)))

def f_X2_copyFrom (K : Kd) (o : Nat) (a_1 : Option Nat) (w : Wd) : Option Wd :=
  (chk K 1 a_1).bind fun a1 =>
  (cha K 20 (wR w 200 o)).bind fun a2 =>
  (cha K 20 (wR w 200 a1)).bind fun a3 =>
  (grd (¬ (0 : Int32) < 0 ∧ ¬ (0 : Int32) < 0 ∧ ¬ (nI a2.2) < 0 ∧ (0 : Int32).toNatClampNeg + (nI a2.2).toNatClampNeg ≤ a3.2 ∧ (0 : Int32).toNatClampNeg + (nI a2.2).toNatClampNeg ≤ a2.2)).bind fun _ =>
  (some (tA w a2.1 (va_cpy (aI w a3.1) (aI w a2.1) (0 : Int32).toNatClampNeg (0 : Int32).toNatClampNeg (nI a2.2).toNatClampNeg))).bind fun w5 =>
  (some (sI w5 201 o (wI w5 201 a1))).bind fun w6 =>
  some w6

def f_X3_init (K : Kd) (n : Nat) (o : Nat) (w : Wd) : Option (Kd × Nat × Wd) :=
  some (K, n, w)

def f_X3_clear (K : Kd) (o : Nat) (w : Wd) : Option Wd :=
  (some (sI w 300 o 0)).bind fun w1 =>
  (some (sI w1 301 o 1)).bind fun w2 =>
  (some (sI w2 302 o 1)).bind fun w3 =>
  (some (sZ w3 303 o false)).bind fun w4 =>
  (some (sI w4 304 o 0)).bind fun w5 =>
  (some (sI w5 305 o 0)).bind fun w6 =>
  (some (sI w6 306 o 0)).bind fun w7 =>
  some w7

def f_X4_init (K : Kd) (n : Nat) (o : Nat) (a_1 : Int32) (w : Wd) : Option (Kd × Nat × Wd) :=
  (grd (¬ (imax a_1 0) < 0 ∧ (imax a_1 0).toNatClampNeg ≤ 12)).bind fun _ =>
  (some (kup K n (23, (imax a_1 0).toNatClampNeg))).bind fun K2 =>
  (some (clr w n)).bind fun w3 =>
  (chk K2 3 (some o)).bind fun a4 =>
  (some (sR w3 400 a4 (some n))).bind fun w5 =>
  some (K2, (n + 1), w5)

def f_X4_isFull (K : Kd) (o : Nat) (w : Wd) : Option (Bool × Wd) :=
  (cha K 23 (wR w 400 o)).bind fun a1 =>
  if (wI w 401 o) < (nI a1.2) then
    (some (false, w))
  else
    (some (true, w))

def f_X4_add (K : Kd) (o : Nat) (a_1 : Int64) (w : Wd) : Option Wd :=
  (cha K 23 (wR w 400 o)).bind fun a1 =>
  if (nI a1.2) ≤ (wI w 401 o) then
    (some w)
  else
    ((ixa (wI w 401 o) a1.2).bind fun j3 =>
    (some (tJ w a1.1 j3 a_1)).bind fun w4 =>
    (some (sI w4 401 o ((wI w4 401 o) + 1))).bind fun w5 =>
    some w5)

def f_X4_indexOf_L2 (K : Kd) (o : Nat) (k : Int64 → Int32 → Wd → Option (Int32 × Wd)) : Nat → Int64 → Int32 → Wd → Option (Int32 × Wd)
  | 0, _, _, _ => none
  | n + 1, v1_2, v3_2, w =>
    if (wI w 401 o) ≤ v3_2 then
      (k v1_2 v3_2 w)
    else
      ((cha K 23 (wR w 400 o)).bind fun a3 =>
      (ixa v3_2 a3.2).bind fun j4 =>
      if (lg_cmp (aJ w a3.1 j4) v1_2) = 0 then
        (some (v3_2, w))
      else
        (f_X4_indexOf_L2 K o k n v1_2 (v3_2 + 1) w))

def f_X4_indexOf (K : Kd) (o : Nat) (a_1 : Int64) (w : Wd) : Option (Int32 × Wd) :=
  f_X4_indexOf_L2 K o (fun v1_2 v3_2 w1 =>
    some ((-1), w1)) fu a_1 0 w

def f_X5_exchange (K : Kd) (o : Nat) (a_1 : Option Nat) (w : Wd) : Option (Option Nat × Wd) :=
  (some (sR w 501 o a_1)).bind fun w1 =>
  some ((wR w 501 o), w1)

def f_X5_fail (K : Kd) (o : Nat) (a_1 : Int32) (w : Wd) : Option (Bool × Wd) :=
  (some (sI w 502 o a_1)).bind fun w1 =>
  (chk K 7 (wR w1 500 o)).bind fun a2 =>
  (some (sI w1 503 o (wI w1 802 a2))).bind fun w3 =>
  some (false, w3)

def f_X5_seesToldName (K : Kd) (o : Nat) (a_1 : Int32) (w : Wd) : Option (Bool × Wd) :=
  (chk K 7 (wR w 500 o)).bind fun a1 =>
  (grd (tkB (wR w 804 a1) = true)).bind fun _ =>
  if (wR w 804 a1) = (some 16) then
    ((chk K 8 (wR w 501 o)).bind fun a4 =>
    (cha K 26 (wR w 900 a4)).bind fun a5 =>
    (ixa a_1 a5.2).bind fun j6 =>
    (chk K 3 (aR w a5.1 j6)).bind fun a7 =>
    (f_X4_indexOf K a7 (wJ w 805 a1) w).bind fun q8 =>
    (some (sI q8.2 504 o q8.1)).bind fun w9 =>
    if (wI w9 504 o) = (-1) then
      ((f_X5_fail K o 3 w9).bind fun q11 =>
      if (b2i q11.1) = 0 then
        (some (false, q11.2))
      else
        (some (true, q11.2)))
    else
      (some (true, w9)))
  else
    ((f_X5_fail K o 1 w).bind fun q13 =>
    some (q13.1, q13.2))

def f_X5_seesNumber (K : Kd) (o : Nat) (a_1 : Int32) (a_2 : Int32) (w : Wd) : Option (Bool × Wd) :=
  (chk K 7 (wR w 500 o)).bind fun a1 =>
  (grd (tkB (wR w 804 a1) = true)).bind fun _ =>
  if (wR w 804 a1) = (some 17) then
    (if (wI w 806 a1) < a_1 then
      ((f_X5_fail K o 2 w).bind fun q5 =>
      if (b2i q5.1) = 0 then
        (some (false, q5.2))
      else
        (some (true, q5.2)))
    else
      (if (wI w 806 a1) ≤ a_2 then
        (some (true, w))
      else
        ((f_X5_fail K o 2 w).bind fun q8 =>
        if (b2i q8.1) = 0 then
          (some (false, q8.2))
        else
          (some (true, q8.2)))))
  else
    ((f_X5_fail K o 1 w).bind fun q10 =>
    some (q10.1, q10.2))

def f_X6_init (K : Kd) (n : Nat) (o : Nat) (w : Wd) : Option (Kd × Nat × Wd) :=
  (some (kup K n (20, 3))).bind fun K1 =>
  (some (clr w n)).bind fun w2 =>
  (chk K1 5 (some o)).bind fun a3 =>
  (some (sR w2 600 a3 (some n))).bind fun w4 =>
  (some (kup K1 (n + 1) (20, 6))).bind fun K5 =>
  (some (clr w4 (n + 1))).bind fun w6 =>
  (chk K5 5 (some o)).bind fun a7 =>
  (some (sR w6 601 a7 (some (n + 1)))).bind fun w8 =>
  (some (kup K5 ((n + 1) + 1) (20, 6))).bind fun K9 =>
  (some (clr w8 ((n + 1) + 1))).bind fun w10 =>
  (chk K9 5 (some o)).bind fun a11 =>
  (some (sR w10 602 a11 (some ((n + 1) + 1)))).bind fun w12 =>
  (some (kup K9 (((n + 1) + 1) + 1) (20, 12))).bind fun K13 =>
  (some (clr w12 (((n + 1) + 1) + 1))).bind fun w14 =>
  (chk K13 5 (some o)).bind fun a15 =>
  (some (sR w14 603 a15 (some (((n + 1) + 1) + 1)))).bind fun w16 =>
  some (K13, ((((n + 1) + 1) + 1) + 1), w16)

def f_X6_firstDay (K : Kd) (a_0 : Option Nat) (a_1 : Int32) (w : Wd) : Option (Int32 × Wd) :=
  (chk K 9 a_0).bind fun a1 =>
  (chk K 8 (wR w 1000 a1)).bind fun a2 =>
  (cha K 25 (wR w 909 a2)).bind fun a3 =>
  (ixa a_1 a3.2).bind fun j4 =>
  (chk K 2 (aR w a3.1 j4)).bind fun a5 =>
  some ((imax (wI w 1001 a1) (wI w 300 a5)), w)

def f_X6_leastLoaded_L5 (K : Kd) (o : Nat) (k : Int32 → Int32 → Int32 → Int32 → Wd → Option (Int32 × Wd)) : Nat → Int32 → Int32 → Int32 → Int32 → Wd → Option (Int32 × Wd)
  | 0, _, _, _, _, _ => none
  | n + 1, v1_5, v2_5, v3_5, v4_5, w =>
    if v1_5 ≤ v4_5 then
      (k v1_5 v2_5 v3_5 v4_5 w)
    else
      ((f_X12_has K ((wI w 604 o) ||| (wI w 605 o)) v4_5 w).bind fun q3 =>
      if (b2i q3.1) = 0 then
        ((cha K 20 (wR q3.2 601 o)).bind fun a6 =>
        (ixa v4_5 a6.2).bind fun j7 =>
        if (v2_5 &&& (aI q3.2 a6.1 j7)) = 0 then
          (if v3_5 = (-1) then
            (f_X6_leastLoaded_L5 K o k n v1_5 v2_5 v4_5 (v4_5 + 1) q3.2)
          else
            ((cha K 20 (wR q3.2 602 o)).bind fun a12 =>
            (ixa v4_5 a12.2).bind fun j13 =>
            (ixa v3_5 a12.2).bind fun j14 =>
            if (aI q3.2 a12.1 j14) ≤ (aI q3.2 a12.1 j13) then
              (f_X6_leastLoaded_L5 K o k n v1_5 v2_5 v3_5 (v4_5 + 1) q3.2)
            else
              (f_X6_leastLoaded_L5 K o k n v1_5 v2_5 v4_5 (v4_5 + 1) q3.2)))
        else
          (f_X6_leastLoaded_L5 K o k n v1_5 v2_5 v3_5 (v4_5 + 1) q3.2))
      else
        (f_X6_leastLoaded_L5 K o k n v1_5 v2_5 v3_5 (v4_5 + 1) q3.2))

def f_X6_leastLoaded (K : Kd) (o : Nat) (a_1 : Int32) (a_2 : Int32) (w : Wd) : Option (Int32 × Wd) :=
  f_X6_leastLoaded_L5 K o (fun v1_5 v2_5 v3_5 v4_5 w1 =>
    some (v3_5, w1)) fu a_1 a_2 (-1) 0 w

def f_X6_take (K : Kd) (a_0 : Option Nat) (a_1 : Int32) (a_2 : Int32) (w : Wd) : Option Wd :=
  if a_1 < 0 then
    (some w)
  else
    ((cha K 20 a_0).bind fun a2 =>
    if (nI a2.2) ≤ a_1 then
      (some w)
    else
      ((ixa a_1 a2.2).bind fun j4 =>
      (ixa a_1 a2.2).bind fun j5 =>
      (some (tI w a2.1 j5 ((aI w a2.1 j4) ||| a_2))).bind fun w6 =>
      some w6))

def f_X7_init (K : Kd) (n : Nat) (o : Nat) (w : Wd) : Option (Kd × Nat × Wd) :=
  (some (kup K n (20, 20))).bind fun K1 =>
  (some (clr w n)).bind fun w2 =>
  (chk K1 6 (some o)).bind fun a3 =>
  (some (sR w2 707 a3 (some n))).bind fun w4 =>
  some (K1, (n + 1), w4)

def f_X7_copyFrom (K : Kd) (o : Nat) (a_1 : Option Nat) (w : Wd) : Option Wd :=
  (chk K 6 a_1).bind fun a1 =>
  (some (sI w 700 o (wI w 700 a1))).bind fun w2 =>
  (some (sI w2 701 o (wI w2 701 a1))).bind fun w3 =>
  (some (sI w3 702 o (wI w3 702 a1))).bind fun w4 =>
  (some (sI w4 703 o (wI w4 703 a1))).bind fun w5 =>
  (some (sI w5 704 o (wI w5 704 a1))).bind fun w6 =>
  (some (sI w6 705 o (wI w6 705 a1))).bind fun w7 =>
  (some (sI w7 706 o (wI w7 706 a1))).bind fun w8 =>
  (cha K 20 (wR w8 707 o)).bind fun a9 =>
  (cha K 20 (wR w8 707 a1)).bind fun a10 =>
  (grd (¬ (0 : Int32) < 0 ∧ ¬ (0 : Int32) < 0 ∧ ¬ (nI a9.2) < 0 ∧ (0 : Int32).toNatClampNeg + (nI a9.2).toNatClampNeg ≤ a10.2 ∧ (0 : Int32).toNatClampNeg + (nI a9.2).toNatClampNeg ≤ a9.2)).bind fun _ =>
  (some (tA w8 a9.1 (va_cpy (aI w8 a10.1) (aI w8 a9.1) (0 : Int32).toNatClampNeg (0 : Int32).toNatClampNeg (nI a9.2).toNatClampNeg))).bind fun w12 =>
  some w12

def f_X7_isOn (K : Kd) (o : Nat) (a_1 : Int32) (w : Wd) : Option (Bool × Wd) :=
  if (wI w 700 o) = 1 then
    (if (wI w 702 o) = a_1 then
      (some (true, w))
    else
      (some (false, w)))
  else
    (if (wI w 700 o) = 2 then
      (if (wI w 702 o) = a_1 then
        (some (true, w))
      else
        (some (false, w)))
    else
      (some (false, w)))

def f_X7_setHearing (K : Kd) (o : Nat) (a_1 : Int32) (a_2 : Int32) (a_3 : Int32) (a_4 : Int32) (w : Wd) : Option Wd :=
  (some (sI w 700 o 1)).bind fun w1 =>
  (some (sI w1 702 o a_1)).bind fun w2 =>
  (some (sI w2 703 o a_2)).bind fun w3 =>
  (some (sI w3 704 o a_3)).bind fun w4 =>
  (some (sI w4 705 o a_4)).bind fun w5 =>
  some w5

def f_X7_dropHearing (K : Kd) (o : Nat) (w : Wd) : Option Wd :=
  (some (sI w 700 o 0)).bind fun w1 =>
  (some (sI w1 702 o (-1))).bind fun w2 =>
  (some (sI w2 703 o (-1))).bind fun w3 =>
  (some (sI w3 704 o (-1))).bind fun w4 =>
  (some (sI w4 705 o (-1))).bind fun w5 =>
  some w5

def f_X7_note (K : Kd) (o : Nat) (a_1 : Int32) (a_2 : Int32) (a_3 : Int32) (w : Wd) : Option Wd :=
  if 5 ≤ (wI w 706 o) then
    (some w)
  else
    ((cha K 20 (wR w 707 o)).bind fun a2 =>
    (ixa ((wI w 706 o) * 4) a2.2).bind fun j3 =>
    (some (tI w a2.1 j3 a_1)).bind fun w4 =>
    (cha K 20 (wR w4 707 o)).bind fun a5 =>
    (ixa (((wI w 706 o) * 4) + 1) a5.2).bind fun j6 =>
    (some (tI w4 a5.1 j6 a_2)).bind fun w7 =>
    (cha K 20 (wR w7 707 o)).bind fun a8 =>
    (ixa (((wI w 706 o) * 4) + 2) a8.2).bind fun j9 =>
    (some (tI w7 a8.1 j9 (wI w7 702 o))).bind fun w10 =>
    (cha K 20 (wR w10 707 o)).bind fun a11 =>
    (ixa (((wI w 706 o) * 4) + 3) a11.2).bind fun j12 =>
    (some (tI w10 a11.1 j12 a_3)).bind fun w13 =>
    (some (sI w13 706 o ((wI w13 706 o) + 1))).bind fun w14 =>
    some w14)

def f_X8_init (K : Kd) (n : Nat) (o : Nat) (w : Wd) : Option (Kd × Nat × Wd) :=
  (some (kup K n (21, 0))).bind fun K1 =>
  (some (clr w n)).bind fun w2 =>
  (chk K1 7 (some o)).bind fun a3 =>
  (some (sR w2 800 a3 (some n))).bind fun w4 =>
  (some (sR w4 804 a3 (some 19))).bind fun w5 =>
  some (K1, (n + 1), w5)

def f_X8_isDigit (K : Kd) (a_0 : Int32) (w : Wd) : Option (Bool × Wd) :=
  if a_0 < 48 then
    (some (false, w))
  else
    (if 57 < a_0 then
      (some (false, w))
    else
      (some (true, w)))

def f_X9_size (K : Kd) (o : Nat) (a_1 : Int32) (w : Wd) : Option (Int32 × Wd) :=
  (cha K 26 (wR w 900 o)).bind fun a1 =>
  (ixa a_1 a1.2).bind fun j2 =>
  (chk K 3 (aR w a1.1 j2)).bind fun a3 =>
  some ((wI w 401 a3), w)

def f_X9_addOff (K : Kd) (o : Nat) (a_1 : Int32) (a_2 : Int32) (a_3 : Int32) (w : Wd) : Option Wd :=
  (cha K 20 (wR w 902 o)).bind fun a1 =>
  (ixa a_1 a1.2).bind fun j2 =>
  if 3 ≤ (aI w a1.1 j2) then
    (some w)
  else
    ((ixa a_1 a1.2).bind fun j4 =>
    (cha K 20 (wR w 903 o)).bind fun a5 =>
    (ixa ((a_1 * 3) + (aI w a1.1 j4)) a5.2).bind fun j6 =>
    (some (tI w a5.1 j6 a_2)).bind fun w7 =>
    (cha K 20 (wR w7 904 o)).bind fun a8 =>
    (ixa ((a_1 * 3) + (aI w a1.1 j4)) a8.2).bind fun j9 =>
    (some (tI w7 a8.1 j9 a_3)).bind fun w10 =>
    (cha K 20 (wR w10 902 o)).bind fun a11 =>
    (ixa a_1 a11.2).bind fun j12 =>
    (ixa a_1 a11.2).bind fun j13 =>
    (some (tI w10 a11.1 j13 ((aI w10 a11.1 j12) + 1))).bind fun w14 =>
    some w14)

def f_X9_isAway_L7 (K : Kd) (o : Nat) (k : Int32 → Int32 → Int32 → Int32 → Wd → Option (Bool × Wd)) : Nat → Int32 → Int32 → Int32 → Int32 → Wd → Option (Bool × Wd)
  | 0, _, _, _, _, _ => none
  | n + 1, v1_7, v2_7, v3_7, v4_7, w =>
    (cha K 20 (wR w 902 o)).bind fun a2 =>
    (ixa v1_7 a2.2).bind fun j3 =>
    if (v3_7 + (aI w a2.1 j3)) ≤ v4_7 then
      (k v1_7 v2_7 v3_7 v4_7 w)
    else
      ((cha K 20 (wR w 903 o)).bind fun a5 =>
      (ixa v4_7 a5.2).bind fun j6 =>
      if v2_7 < (aI w a5.1 j6) then
        (f_X9_isAway_L7 K o k n v1_7 v2_7 v3_7 (v4_7 + 1) w)
      else
        ((cha K 20 (wR w 904 o)).bind fun a8 =>
        (ixa v4_7 a8.2).bind fun j9 =>
        if (aI w a8.1 j9) < v2_7 then
          (f_X9_isAway_L7 K o k n v1_7 v2_7 v3_7 (v4_7 + 1) w)
        else
          (some (true, w))))

def f_X9_isAway (K : Kd) (o : Nat) (a_1 : Int32) (a_2 : Int32) (w : Wd) : Option (Bool × Wd) :=
  f_X9_isAway_L7 K o (fun v1_7 v2_7 v3_7 v4_7 w1 =>
    some (false, w1)) fu a_1 a_2 (a_1 * 3) (a_1 * 3) w

def f_X9_awayOfficers_L4 (K : Kd) (o : Nat) (k : Int32 → Int32 → Int32 → Wd → Option (Int32 × Wd)) : Nat → Int32 → Int32 → Int32 → Wd → Option (Int32 × Wd)
  | 0, _, _, _, _ => none
  | n + 1, v1_4, v2_4, v3_4, w =>
    (f_X9_size K o 1 w).bind fun q2 =>
    if q2.1 ≤ v3_4 then
      (k v1_4 v2_4 v3_4 q2.2)
    else
      ((f_X9_isAway K o v3_4 v1_4 q2.2).bind fun q4 =>
      if (b2i q4.1) = 0 then
        (f_X9_awayOfficers_L4 K o k n v1_4 v2_4 (v3_4 + 1) q4.2)
      else
        (f_X9_awayOfficers_L4 K o k n v1_4 (v2_4 ||| (1 <<< (v3_4 &&& 31))) (v3_4 + 1) q4.2))

def f_X9_awayOfficers (K : Kd) (o : Nat) (a_1 : Int32) (w : Wd) : Option (Int32 × Wd) :=
  f_X9_awayOfficers_L4 K o (fun v1_4 v2_4 v3_4 w1 =>
    some (v2_4, w1)) fu a_1 0 0 w

def f_X10_copyFrom_L65 (K : Kd) (o : Nat) (k : Option Nat → Int32 → Wd → Option Wd) : Nat → Option Nat → Int32 → Wd → Option Wd
  | 0, _, _, _ => none
  | n + 1, v1_65, v2_65, w =>
    if 12 ≤ v2_65 then
      (k v1_65 v2_65 w)
    else
      ((cha K 27 (wR w 1005 o)).bind fun a16 =>
      (ixa v2_65 a16.2).bind fun j17 =>
      (chk K 9 v1_65).bind fun a18 =>
      (cha K 27 (wR w 1005 a18)).bind fun a19 =>
      (ixa v2_65 a19.2).bind fun j20 =>
      (chk K 6 (aR w a16.1 j17)).bind fun a21 =>
      (f_X7_copyFrom K a21 (aR w a19.1 j20) w).bind fun q22 =>
      f_X10_copyFrom_L65 K o k n v1_65 (v2_65 + 1) q22)

def f_X10_copyFrom (K : Kd) (o : Nat) (a_1 : Option Nat) (w : Wd) : Option Wd :=
  (chk K 9 a_1).bind fun a1 =>
  (some (sR w 1000 o (wR w 1000 a1))).bind fun w2 =>
  (some (sI w2 1001 o (wI w2 1001 a1))).bind fun w3 =>
  (chk K 1 (wR w3 1002 o)).bind fun a4 =>
  (f_X2_copyFrom K a4 (wR w3 1002 a1) w3).bind fun q5 =>
  (cha K 20 (wR q5 1003 o)).bind fun a6 =>
  (cha K 20 (wR q5 1003 a1)).bind fun a7 =>
  (grd (¬ (0 : Int32) < 0 ∧ ¬ (0 : Int32) < 0 ∧ ¬ (nI a6.2) < 0 ∧ (0 : Int32).toNatClampNeg + (nI a6.2).toNatClampNeg ≤ a7.2 ∧ (0 : Int32).toNatClampNeg + (nI a6.2).toNatClampNeg ≤ a6.2)).bind fun _ =>
  (some (tA q5 a6.1 (va_cpy (aI q5 a7.1) (aI q5 a6.1) (0 : Int32).toNatClampNeg (0 : Int32).toNatClampNeg (nI a6.2).toNatClampNeg))).bind fun w9 =>
  (cha K 20 (wR w9 1004 o)).bind fun a10 =>
  (cha K 20 (wR w9 1004 a1)).bind fun a11 =>
  (grd (¬ (0 : Int32) < 0 ∧ ¬ (0 : Int32) < 0 ∧ ¬ (nI a10.2) < 0 ∧ (0 : Int32).toNatClampNeg + (nI a10.2).toNatClampNeg ≤ a11.2 ∧ (0 : Int32).toNatClampNeg + (nI a10.2).toNatClampNeg ≤ a10.2)).bind fun _ =>
  (some (tA w9 a10.1 (va_cpy (aI w9 a11.1) (aI w9 a10.1) (0 : Int32).toNatClampNeg (0 : Int32).toNatClampNeg (nI a10.2).toNatClampNeg))).bind fun w13 =>
  f_X10_copyFrom_L65 K o (fun v1_65 v2_65 w14 =>
    some w14) fu a_1 0 w13

def f_X10_works (K : Kd) (o : Nat) (a_1 : Int32) (w : Wd) : Option (Bool × Wd) :=
  if 5 ≤ (a_1 - a_1 / 7 * 7) then
    (some (false, w))
  else
    ((chk K 1 (wR w 1002 o)).bind fun a2 =>
    (f_X2_contains K a2 a_1 w).bind fun q3 =>
    if (b2i q3.1) = 0 then
      (some (true, q3.2))
    else
      (some (false, q3.2)))

def f_X10_limitDay_L31 (K : Kd) (o : Nat) (k : Int32 → Option Nat → Int32 → Int32 → Wd → Option (Int32 × Wd)) : Nat → Int32 → Option Nat → Int32 → Int32 → Wd → Option (Int32 × Wd)
  | 0, _, _, _, _, _ => none
  | n + 1, v1_31, v2_31, v3_31, v4_31, w =>
    if v3_31 ≤ 0 then
      (k v1_31 v2_31 v3_31 v4_31 w)
    else
      (if 10000 ≤ v4_31 then
        (k v1_31 v2_31 v3_31 v4_31 w)
      else
        ((f_X10_works K o (v4_31 + 1) w).bind fun q11 =>
        if (b2i q11.1) = 0 then
          (f_X10_limitDay_L31 K o k n v1_31 v2_31 v3_31 (v4_31 + 1) q11.2)
        else
          (f_X10_limitDay_L31 K o k n v1_31 v2_31 (v3_31 + (-1)) (v4_31 + 1) q11.2)))

def f_X10_limitDay (K : Kd) (o : Nat) (a_1 : Int32) (w : Wd) : Option (Int32 × Wd) :=
  (chk K 8 (wR w 1000 o)).bind fun a1 =>
  (cha K 25 (wR w 909 a1)).bind fun a2 =>
  (ixa a_1 a2.2).bind fun j3 =>
  (chk K 2 (aR w a2.1 j3)).bind fun a4 =>
  (cha K 27 (wR w 1005 o)).bind fun a5 =>
  (ixa a_1 a5.2).bind fun j6 =>
  (chk K 6 (aR w a5.1 j6)).bind fun a7 =>
  f_X10_limitDay_L31 K o (fun v1_31 v2_31 v3_31 v4_31 w8 =>
    some (v4_31, w8)) fu a_1 (aR w a2.1 j3) ((wI w 302 a4) + (wI w 701 a7)) (wI w 300 a4) w

def f_X10_countPhase_L4 (K : Kd) (o : Nat) (k : Int32 → Int32 → Int32 → Wd → Option (Int32 × Wd)) : Nat → Int32 → Int32 → Int32 → Wd → Option (Int32 × Wd)
  | 0, _, _, _, _ => none
  | n + 1, v1_4, v2_4, v3_4, w =>
    (chk K 8 (wR w 1000 o)).bind fun a2 =>
    (f_X9_size K a2 3 w).bind fun q3 =>
    if q3.1 ≤ v3_4 then
      (k v1_4 v2_4 v3_4 q3.2)
    else
      ((cha K 27 (wR q3.2 1005 o)).bind fun a5 =>
      (ixa v3_4 a5.2).bind fun j6 =>
      (chk K 6 (aR q3.2 a5.1 j6)).bind fun a7 =>
      if (wI q3.2 700 a7) = v1_4 then
        (f_X10_countPhase_L4 K o k n v1_4 (v2_4 + 1) (v3_4 + 1) q3.2)
      else
        (f_X10_countPhase_L4 K o k n v1_4 v2_4 (v3_4 + 1) q3.2))

def f_X10_countPhase (K : Kd) (o : Nat) (a_1 : Int32) (w : Wd) : Option (Int32 × Wd) :=
  f_X10_countPhase_L4 K o (fun v1_4 v2_4 v3_4 w1 =>
    some (v2_4, w1)) fu a_1 0 0 w

def f_X10_loadOf_L4 (K : Kd) (o : Nat) (k : Int32 → Int32 → Int32 → Wd → Option (Int32 × Wd)) : Nat → Int32 → Int32 → Int32 → Wd → Option (Int32 × Wd)
  | 0, _, _, _, _ => none
  | n + 1, v1_4, v2_4, v3_4, w =>
    (chk K 8 (wR w 1000 o)).bind fun a2 =>
    (f_X9_size K a2 3 w).bind fun q3 =>
    if q3.1 ≤ v3_4 then
      (k v1_4 v2_4 v3_4 q3.2)
    else
      ((cha K 27 (wR q3.2 1005 o)).bind fun a5 =>
      (ixa v3_4 a5.2).bind fun j6 =>
      (chk K 6 (aR q3.2 a5.1 j6)).bind fun a7 =>
      if (wI q3.2 705 a7) = v1_4 then
        ((chk K 8 (wR q3.2 1000 o)).bind fun a9 =>
        (cha K 25 (wR q3.2 909 a9)).bind fun a10 =>
        (ixa v3_4 a10.2).bind fun j11 =>
        (chk K 2 (aR q3.2 a10.1 j11)).bind fun a12 =>
        f_X10_loadOf_L4 K o k n v1_4 (v2_4 + (wI q3.2 301 a12)) (v3_4 + 1) q3.2)
      else
        (f_X10_loadOf_L4 K o k n v1_4 v2_4 (v3_4 + 1) q3.2))

def f_X10_loadOf (K : Kd) (o : Nat) (a_1 : Int32) (w : Wd) : Option (Int32 × Wd) :=
  f_X10_loadOf_L4 K o (fun v1_4 v2_4 v3_4 w1 =>
    some (v2_4, w1)) fu a_1 0 0 w

def f_X10_slotsOf (K : Kd) (o : Nat) (a_1 : Int32) (w : Wd) : Option (Int32 × Wd) :=
  (cha K 27 (wR w 1005 o)).bind fun a1 =>
  (ixa a_1 a1.2).bind fun j2 =>
  (chk K 6 (aR w a1.1 j2)).bind fun a3 =>
  (chk K 8 (wR w 1000 o)).bind fun a4 =>
  (cha K 25 (wR w 909 a4)).bind fun a5 =>
  (ixa a_1 a5.2).bind fun j6 =>
  (chk K 2 (aR w a5.1 j6)).bind fun a7 =>
  (f_X12_slotSet K (wI w 703 a3) (wI w 301 a7) w).bind fun q8 =>
  some (q8.1, q8.2)

def f_X10_barredOfficers_L23 (K : Kd) (o : Nat) (k : Int32 → Int32 → Int32 → Int32 → Wd → Option (Int32 × Wd)) : Nat → Int32 → Int32 → Int32 → Int32 → Wd → Option (Int32 × Wd)
  | 0, _, _, _, _, _ => none
  | n + 1, v1_23, v2_23, v3_23, v4_23, w =>
    (chk K 8 (wR w 1000 o)).bind fun a8 =>
    (f_X9_size K a8 3 w).bind fun q9 =>
    if q9.1 ≤ v4_23 then
      (k v1_23 v2_23 v3_23 v4_23 q9.2)
    else
      ((f_X12_has K v3_23 v4_23 q9.2).bind fun q11 =>
      if (b2i q11.1) = 0 then
        (f_X10_barredOfficers_L23 K o k n v1_23 v2_23 v3_23 (v4_23 + 1) q11.2)
      else
        ((cha K 27 (wR q11.2 1005 o)).bind fun a13 =>
        (ixa v4_23 a13.2).bind fun j14 =>
        (chk K 6 (aR q11.2 a13.1 j14)).bind fun a15 =>
        if (wI q11.2 705 a15) = (-1) then
          (f_X10_barredOfficers_L23 K o k n v1_23 v2_23 v3_23 (v4_23 + 1) q11.2)
        else
          ((ixa v4_23 a13.2).bind fun j17 =>
          (chk K 6 (aR q11.2 a13.1 j17)).bind fun a18 =>
          f_X10_barredOfficers_L23 K o k n v1_23 (v2_23 ||| (1 <<< ((wI q11.2 705 a18) &&& 31))) v3_23 (v4_23 + 1) q11.2)))

def f_X10_barredOfficers (K : Kd) (o : Nat) (a_1 : Int32) (w : Wd) : Option (Int32 × Wd) :=
  (cha K 20 (wR w 1004 o)).bind fun a1 =>
  (ixa a_1 a1.2).bind fun j2 =>
  (chk K 8 (wR w 1000 o)).bind fun a3 =>
  (cha K 25 (wR w 909 a3)).bind fun a4 =>
  (ixa a_1 a4.2).bind fun j5 =>
  (chk K 2 (aR w a4.1 j5)).bind fun a6 =>
  f_X10_barredOfficers_L23 K o (fun v1_23 v2_23 v3_23 v4_23 w7 =>
    some (v2_23, w7)) fu a_1 (aI w a1.1 j2) (wI w 305 a6) 0 w

def f_X10_slotsOutside_L5 (K : Kd) (o : Nat) (k : Int32 → Int32 → Int32 → Int32 → Wd → Option (Int32 × Wd)) : Nat → Int32 → Int32 → Int32 → Int32 → Wd → Option (Int32 × Wd)
  | 0, _, _, _, _, _ => none
  | n + 1, v1_5, v2_5, v3_5, v4_5, w =>
    (chk K 8 (wR w 1000 o)).bind fun a2 =>
    (f_X9_size K a2 2 w).bind fun q3 =>
    if q3.1 ≤ v4_5 then
      (k v1_5 v2_5 v3_5 v4_5 q3.2)
    else
      ((f_X12_has K v1_5 v4_5 q3.2).bind fun q5 =>
      if (b2i q5.1) = 0 then
        (f_X10_slotsOutside_L5 K o k n v1_5 v2_5 v3_5 (v4_5 + 1) q5.2)
      else
        ((chk K 8 (wR q5.2 1000 o)).bind fun a7 =>
        (cha K 20 (wR q5.2 905 a7)).bind fun a8 =>
        (ixa v4_5 a8.2).bind fun j9 =>
        if v2_5 < (aI q5.2 a8.1 j9) then
          ((cha K 20 (wR q5.2 907 a7)).bind fun a11 =>
          (ixa v4_5 a11.2).bind fun j12 =>
          f_X10_slotsOutside_L5 K o k n v1_5 v2_5 (v3_5 ||| (0 ^^^ (-1))) (v4_5 + 1) q5.2)
        else
          ((cha K 20 (wR q5.2 1003 o)).bind fun a14 =>
          (ixa v4_5 a14.2).bind fun j15 =>
          if (aI q5.2 a14.1 j15) < v2_5 then
            ((cha K 20 (wR q5.2 907 a7)).bind fun a17 =>
            (ixa v4_5 a17.2).bind fun j18 =>
            f_X10_slotsOutside_L5 K o k n v1_5 v2_5 (v3_5 ||| (0 ^^^ (-1))) (v4_5 + 1) q5.2)
          else
            ((cha K 20 (wR q5.2 907 a7)).bind fun a20 =>
            (ixa v4_5 a20.2).bind fun j21 =>
            (cha K 20 (wR q5.2 908 a7)).bind fun a23 =>
            (ixa v4_5 a23.2).bind fun j24 =>
            (f_X12_slotSet K (aI q5.2 a20.1 j21) (((aI q5.2 a23.1 j24) - (aI q5.2 a20.1 j21)) + 1) q5.2).bind fun q25 =>
            f_X10_slotsOutside_L5 K o k n v1_5 v2_5 (v3_5 ||| (q25.1 ^^^ (-1))) (v4_5 + 1) q25.2))))

def f_X10_slotsOutside (K : Kd) (o : Nat) (a_1 : Int32) (a_2 : Int32) (w : Wd) : Option (Int32 × Wd) :=
  f_X10_slotsOutside_L5 K o (fun v1_5 v2_5 v3_5 v4_5 w1 =>
    some (v3_5, w1)) fu a_1 a_2 0 0 w

def f_X10_urgencyKey (K : Kd) (o : Nat) (a_1 : Int32) (w : Wd) : Option (Int32 × Wd) :=
  (chk K 8 (wR w 1000 o)).bind fun a1 =>
  (cha K 25 (wR w 909 a1)).bind fun a2 =>
  (ixa a_1 a2.2).bind fun j3 =>
  (chk K 2 (aR w a2.1 j3)).bind fun a4 =>
  if (b2i (wZ w 303 a4)) = 0 then
    ((f_X10_limitDay K o a_1 w).bind fun q6 =>
    some (((((q6.1 * 2) + 1) * 12) + a_1), q6.2))
  else
    ((f_X10_limitDay K o a_1 w).bind fun q7 =>
    some (((((q7.1 * 2) + 0) * 12) + a_1), q7.2))

def f_X10_insert_L2 (K : Kd) (k : Option Nat → Int32 → Int32 → Int32 → Wd → Option Wd) : Nat → Option Nat → Int32 → Int32 → Int32 → Wd → Option Wd
  | 0, _, _, _, _, _ => none
  | n + 1, v0_2, v1_2, v2_2, v3_2, w =>
    if v3_2 ≤ 0 then
      (k v0_2 v1_2 v2_2 v3_2 w)
    else
      ((cha K 20 v0_2).bind fun a3 =>
      (ixa (v3_2 - 1) a3.2).bind fun j4 =>
      if (aI w a3.1 j4) ≤ v2_2 then
        (k v0_2 v1_2 v2_2 v3_2 w)
      else
        ((ixa (v3_2 - 1) a3.2).bind fun j6 =>
        (ixa v3_2 a3.2).bind fun j7 =>
        (some (tI w a3.1 j7 (aI w a3.1 j6))).bind fun w8 =>
        f_X10_insert_L2 K k n v0_2 v1_2 v2_2 (v3_2 + (-1)) w8))

def f_X10_insert (K : Kd) (a_0 : Option Nat) (a_1 : Int32) (a_2 : Int32) (w : Wd) : Option Wd :=
  f_X10_insert_L2 K (fun v0_2 v1_2 v2_2 v3_2 w1 =>
    (cha K 20 v0_2).bind fun a9 =>
    (ixa v3_2 a9.2).bind fun j10 =>
    (some (tI w1 a9.1 j10 v2_2)).bind fun w11 =>
    some w11) fu a_0 a_1 a_2 a_1 w

def f_X10_takeAway (K : Kd) (o : Nat) (a_1 : Int32) (a_2 : Int32) (w : Wd) : Option Wd :=
  (cha K 27 (wR w 1005 o)).bind fun a1 =>
  (ixa a_1 a1.2).bind fun j2 =>
  (chk K 6 (aR w a1.1 j2)).bind fun a3 =>
  if 5 ≤ (wI w 706 a3) then
    ((f_X7_dropHearing K a3 w).bind fun q5 =>
    some q5)
  else
    ((chk K 8 (wR w 1000 o)).bind fun a6 =>
    (cha K 20 (wR w 911 a6)).bind fun a7 =>
    (ixa a_2 a7.2).bind fun j8 =>
    (cha K 25 (wR w 909 a6)).bind fun a9 =>
    (ixa a_1 a9.2).bind fun j10 =>
    (chk K 2 (aR w a9.1 j10)).bind fun a11 =>
    if (b2i (wZ w 303 a11)) = 0 then
      ((f_X7_note K a3 (wI w 1001 o) a_2 (((wI w 701 a3) + (aI w a7.1 j8)) - (wI w 701 a3)) w).bind fun q13 =>
      (some (sI q13 701 a3 ((wI w 701 a3) + (aI w a7.1 j8)))).bind fun w14 =>
      (f_X7_dropHearing K a3 w14).bind fun q15 =>
      some q15)
    else
      ((f_X7_note K a3 (wI w 1001 o) a_2 ((imin ((wI w 701 a3) + (aI w a7.1 j8)) (wI w 913 a6)) - (wI w 701 a3)) w).bind fun q16 =>
      (some (sI q16 701 a3 (imin ((wI w 701 a3) + (aI w a7.1 j8)) (wI w 913 a6)))).bind fun w17 =>
      (f_X7_dropHearing K a3 w17).bind fun q18 =>
      some q18))

def f_X10_passDays_L14 (K : Kd) (o : Nat) (k : Int32 → Int32 → Int32 → Wd → Option (Int32 × Wd)) : Nat → Int32 → Int32 → Int32 → Wd → Option (Int32 × Wd)
  | 0, _, _, _, _ => none
  | n + 1, v1_14, v2_14, v3_14, w =>
    (chk K 8 (wR w 1000 o)).bind fun a3 =>
    (f_X9_size K a3 3 w).bind fun q4 =>
    if q4.1 ≤ v3_14 then
      (k v1_14 v2_14 v3_14 q4.2)
    else
      ((cha K 27 (wR q4.2 1005 o)).bind fun a6 =>
      (ixa v3_14 a6.2).bind fun j7 =>
      (chk K 6 (aR q4.2 a6.1 j7)).bind fun a8 =>
      if (wI q4.2 700 a8) = 1 then
        ((ixa v3_14 a6.2).bind fun j10 =>
        (chk K 6 (aR q4.2 a6.1 j10)).bind fun a11 =>
        if (wI q4.2 1001 o) ≤ (wI q4.2 702 a11) then
          (f_X10_passDays_L14 K o k n v1_14 v2_14 (v3_14 + 1) q4.2)
        else
          ((ixa v3_14 a6.2).bind fun j13 =>
          (chk K 6 (aR q4.2 a6.1 j13)).bind fun a14 =>
          (some (sI q4.2 700 a14 2)).bind fun w15 =>
          f_X10_passDays_L14 K o k n v1_14 (v2_14 + 1) (v3_14 + 1) w15))
      else
        (f_X10_passDays_L14 K o k n v1_14 v2_14 (v3_14 + 1) q4.2))

def f_X10_passDays_L76 (K : Kd) (o : Nat) (k : Int32 → Int32 → Int32 → Wd → Option (Int32 × Wd)) : Nat → Int32 → Int32 → Int32 → Wd → Option (Int32 × Wd)
  | 0, _, _, _, _ => none
  | n + 1, v1_76, v2_76, v3_76, w =>
    (chk K 8 (wR w 1000 o)).bind fun a17 =>
    (f_X9_size K a17 3 w).bind fun q18 =>
    if q18.1 ≤ v3_76 then
      (k v1_76 v2_76 v3_76 q18.2)
    else
      ((cha K 27 (wR q18.2 1005 o)).bind fun a20 =>
      (ixa v3_76 a20.2).bind fun j21 =>
      (chk K 6 (aR q18.2 a20.1 j21)).bind fun a22 =>
      if (wI q18.2 700 a22) = 0 then
        ((f_X10_limitDay K o v3_76 q18.2).bind fun q24 =>
        if (wI q24.2 1001 o) ≤ q24.1 then
          (f_X10_passDays_L76 K o k n v1_76 v2_76 (v3_76 + 1) q24.2)
        else
          ((cha K 27 (wR q24.2 1005 o)).bind fun a26 =>
          (ixa v3_76 a26.2).bind fun j27 =>
          (chk K 6 (aR q24.2 a26.1 j27)).bind fun a28 =>
          (some (sI q24.2 700 a28 3)).bind fun w29 =>
          f_X10_passDays_L76 K o k n v1_76 v2_76 (v3_76 + 1) w29))
      else
        (f_X10_passDays_L76 K o k n v1_76 v2_76 (v3_76 + 1) q18.2))

def f_X10_passDays (K : Kd) (o : Nat) (a_1 : Int32) (w : Wd) : Option (Int32 × Wd) :=
  (some (sI w 1001 o ((wI w 1001 o) + a_1))).bind fun w1 =>
  f_X10_passDays_L14 K o (fun v1_14 v2_14 v3_14 w2 =>
    f_X10_passDays_L76 K o (fun v1_76 v2_76 v3_76 w16 =>
      some (v2_76, w16)) fu v1_14 v2_14 0 w2) fu a_1 0 0 w1

def f_X11_ofWord_L2 (K : Kd) (k : Int64 → Int32 → Wd → Option (Option Nat × Wd)) : Nat → Int64 → Int32 → Wd → Option (Option Nat × Wd)
  | 0, _, _, _ => none
  | n + 1, v0_2, v2_2, w =>
    if 21 ≤ v2_2 then
      (k v0_2 v2_2 w)
    else
      ((ixa v2_2 21).bind fun j3 =>
      if (lg_cmp (tokP.getD j3 0) v0_2) = 0 then
        ((ixa v2_2 21).bind fun j5 =>
        some ((some j5), w))
      else
        (f_X11_ofWord_L2 K k n v0_2 (v2_2 + 1) w))

def f_X11_ofWord (K : Kd) (a_0 : Int64) (w : Wd) : Option (Option Nat × Wd) :=
  f_X11_ofWord_L2 K (fun v0_2 v2_2 w1 =>
    some ((some 16), w1)) fu a_0 0 w

def f_L_cell (L : Nat) (xs : Nat → Int32) (K : Kd) (a_1 : Int32) (w : Wd) : Option (Int32 × Wd) :=
  if (nI L) ≤ a_1 then
    (some (((1013904223 * a_1) + 59), w))
  else
    ((ixa a_1 L).bind fun j2 =>
    some ((xs j2), w))

def f_L_draw (L : Nat) (xs : Nat → Int32) (K : Kd) (a_1 : Int32) (a_2 : Int32) (a_3 : Int32) (w : Wd) : Option (Int32 × Wd) :=
  (f_L_cell L xs K a_1 w).bind fun q1 =>
  (grd (¬ ((a_3 - a_2) + 1) = 0)).bind fun _ =>
  some ((a_2 + ((q1.1 &&& 2147483647) - (q1.1 &&& 2147483647) / ((a_3 - a_2) + 1) * ((a_3 - a_2) + 1))), q1.2)

def f_J6_bitCount_0f7a4 (K : Kd) (a_0 : Int32) (w : Wd) : Option (Int32 × Wd) :=
  some (((((((((a_0 - ((ushr a_0 1) &&& 1431655765)) &&& 858993459) + ((ushr (a_0 - ((ushr a_0 1) &&& 1431655765)) 2) &&& 858993459)) + (ushr (((a_0 - ((ushr a_0 1) &&& 1431655765)) &&& 858993459) + ((ushr (a_0 - ((ushr a_0 1) &&& 1431655765)) 2) &&& 858993459)) 4)) &&& 252645135) + (ushr (((((a_0 - ((ushr a_0 1) &&& 1431655765)) &&& 858993459) + ((ushr (a_0 - ((ushr a_0 1) &&& 1431655765)) 2) &&& 858993459)) + (ushr (((a_0 - ((ushr a_0 1) &&& 1431655765)) &&& 858993459) + ((ushr (a_0 - ((ushr a_0 1) &&& 1431655765)) 2) &&& 858993459)) 4)) &&& 252645135) 8)) + (ushr ((((((a_0 - ((ushr a_0 1) &&& 1431655765)) &&& 858993459) + ((ushr (a_0 - ((ushr a_0 1) &&& 1431655765)) 2) &&& 858993459)) + (ushr (((a_0 - ((ushr a_0 1) &&& 1431655765)) &&& 858993459) + ((ushr (a_0 - ((ushr a_0 1) &&& 1431655765)) 2) &&& 858993459)) 4)) &&& 252645135) + (ushr (((((a_0 - ((ushr a_0 1) &&& 1431655765)) &&& 858993459) + ((ushr (a_0 - ((ushr a_0 1) &&& 1431655765)) 2) &&& 858993459)) + (ushr (((a_0 - ((ushr a_0 1) &&& 1431655765)) &&& 858993459) + ((ushr (a_0 - ((ushr a_0 1) &&& 1431655765)) 2) &&& 858993459)) 4)) &&& 252645135) 8)) 16)) &&& 63), w)

def f_J7_fill_53178_L5 (K : Kd) (k : Option Nat → Int32 → Int32 → Int32 → Wd → Option Wd) : Nat → Option Nat → Int32 → Int32 → Int32 → Wd → Option Wd
  | 0, _, _, _, _, _ => none
  | n + 1, v0_5, v1_5, v2_5, v3_5, w =>
    if v3_5 ≤ v2_5 then
      (k v0_5 v1_5 v2_5 v3_5 w)
    else
      ((cha K 20 v0_5).bind fun a4 =>
      (ixa v2_5 a4.2).bind fun j5 =>
      (some (tI w a4.1 j5 v1_5)).bind fun w6 =>
      f_J7_fill_53178_L5 K k n v0_5 v1_5 (v2_5 + 1) v3_5 w6)

def f_J7_fill_53178 (K : Kd) (a_0 : Option Nat) (a_1 : Int32) (w : Wd) : Option Wd :=
  (cha K 20 a_0).bind fun a1 =>
  f_J7_fill_53178_L5 K (fun v0_5 v1_5 v2_5 v3_5 w2 =>
    some w2) fu a_0 a_1 0 (nI a1.2) w

def f_J6_stringSize_0f7a4_L16 (K : Kd) (k : Int32 → Int32 → Int32 → Int32 → Wd → Option (Int32 × Wd)) : Nat → Int32 → Int32 → Int32 → Int32 → Wd → Option (Int32 × Wd)
  | 0, _, _, _, _, _ => none
  | n + 1, v0_16, v1_16, v2_16, v3_16, w =>
    if 10 ≤ v3_16 then
      (k v0_16 v1_16 v2_16 v3_16 w)
    else
      (if v0_16 ≤ v2_16 then
        (f_J6_stringSize_0f7a4_L16 K k n v0_16 v1_16 (10 * v2_16) (v3_16 + 1) w)
      else
        (some ((v3_16 + v1_16), w)))

def f_J6_stringSize_0f7a4 (K : Kd) (a_0 : Int32) (w : Wd) : Option (Int32 × Wd) :=
  if a_0 < 0 then
    (f_J6_stringSize_0f7a4_L16 K (fun v0_16 v1_16 v2_16 v3_16 w2 =>
      some ((10 + v1_16), w2)) fu a_0 1 (-10) 1 w)
  else
    (f_J6_stringSize_0f7a4_L16 K (fun v0_16 v1_16 v2_16 v3_16 w5 =>
      some ((10 + v1_16), w5)) fu (-a_0) 0 (-10) 1 w)

def f_J6_getChars_ba4f3_L22 (K : Kd) (k : Int32 → Int32 → Option Nat → Int32 → Int32 → Wd → Option (Int32 × Wd)) : Nat → Int32 → Int32 → Option Nat → Int32 → Int32 → Wd → Option (Int32 × Wd)
  | 0, _, _, _, _, _, _ => none
  | n + 1, v0_22, v1_22, v2_22, v5_22, v6_22, w =>
    if (-100) < v0_22 then
      (k v0_22 v1_22 v2_22 v5_22 v6_22 w)
    else
      ((ixa (((v0_22 / 100) * 100) - v0_22) 100).bind fun j5 =>
      (cha K 21 v2_22).bind fun a6 =>
      (ixa (v5_22 + (-1)) a6.2).bind fun j7 =>
      (some (tI w a6.1 j7 (vp_nar .byte (dg1B.getD j5 0)))).bind fun w8 =>
      (ixa (((v0_22 / 100) * 100) - v0_22) 100).bind fun j9 =>
      (ixa ((v5_22 + (-1)) + (-1)) a6.2).bind fun j10 =>
      (some (tI w8 a6.1 j10 (vp_nar .byte (dg10B.getD j9 0)))).bind fun w11 =>
      f_J6_getChars_ba4f3_L22 K k n (v0_22 / 100) v1_22 v2_22 ((v5_22 + (-1)) + (-1)) v6_22 w11)

def f_J6_getChars_ba4f3 (K : Kd) (a_0 : Int32) (a_1 : Int32) (a_2 : Option Nat) (w : Wd) : Option (Int32 × Wd) :=
  if 0 ≤ a_0 then
    (f_J6_getChars_ba4f3_L22 K (fun v0_22 v1_22 v2_22 v5_22 v6_22 w3 =>
      (ixa (-v0_22) 100).bind fun j12 =>
      (cha K 21 v2_22).bind fun a13 =>
      (ixa (v5_22 + (-1)) a13.2).bind fun j14 =>
      (some (tI w3 a13.1 j14 (vp_nar .byte (dg1B.getD j12 0)))).bind fun w15 =>
      if (-9) ≤ v0_22 then
        (if v6_22 = 0 then
          (some ((v5_22 + (-1)), w15))
        else
          ((ixa ((v5_22 + (-1)) + (-1)) a13.2).bind fun j18 =>
          (some (tI w15 a13.1 j18 (vp_nar .byte 45))).bind fun w19 =>
          some (((v5_22 + (-1)) + (-1)), w19)))
      else
        ((ixa (-v0_22) 100).bind fun j20 =>
        (ixa ((v5_22 + (-1)) + (-1)) a13.2).bind fun j21 =>
        (some (tI w15 a13.1 j21 (vp_nar .byte (dg10B.getD j20 0)))).bind fun w22 =>
        if v6_22 = 0 then
          (some (((v5_22 + (-1)) + (-1)), w22))
        else
          ((ixa (((v5_22 + (-1)) + (-1)) + (-1)) a13.2).bind fun j24 =>
          (some (tI w22 a13.1 j24 (vp_nar .byte 45))).bind fun w25 =>
          some ((((v5_22 + (-1)) + (-1)) + (-1)), w25)))) fu (-a_0) a_1 a_2 a_1 0 w)
  else
    (f_J6_getChars_ba4f3_L22 K (fun v0_22 v1_22 v2_22 v5_22 v6_22 w27 =>
      (ixa (-v0_22) 100).bind fun j28 =>
      (cha K 21 v2_22).bind fun a29 =>
      (ixa (v5_22 + (-1)) a29.2).bind fun j30 =>
      (some (tI w27 a29.1 j30 (vp_nar .byte (dg1B.getD j28 0)))).bind fun w31 =>
      if (-9) ≤ v0_22 then
        (if v6_22 = 0 then
          (some ((v5_22 + (-1)), w31))
        else
          ((ixa ((v5_22 + (-1)) + (-1)) a29.2).bind fun j34 =>
          (some (tI w31 a29.1 j34 (vp_nar .byte 45))).bind fun w35 =>
          some (((v5_22 + (-1)) + (-1)), w35)))
      else
        ((ixa (-v0_22) 100).bind fun j36 =>
        (ixa ((v5_22 + (-1)) + (-1)) a29.2).bind fun j37 =>
        (some (tI w31 a29.1 j37 (vp_nar .byte (dg10B.getD j36 0)))).bind fun w38 =>
        if v6_22 = 0 then
          (some (((v5_22 + (-1)) + (-1)), w38))
        else
          ((ixa (((v5_22 + (-1)) + (-1)) + (-1)) a29.2).bind fun j40 =>
          (some (tI w38 a29.1 j40 (vp_nar .byte 45))).bind fun w41 =>
          some ((((v5_22 + (-1)) + (-1)) + (-1)), w41)))) fu a_0 a_1 a_2 a_1 1 w)

def f_J1_canEncode_fc78d (K : Kd) (a_0 : Int32) (w : Wd) : Option (Bool × Wd) :=
  if 255 < a_0 then
    (some (false, w))
  else
    (some (true, w))

def f_J3_checkIndex_8e157 (K : Kd) (a_0 : Int32) (a_1 : Int32) (w : Wd) : Option (Int32 × Wd) :=
  if a_0 < 0 then
    (none)
  else
    (if a_0 < a_1 then
      (some (a_0, w))
    else
      (none))

def f_Jx29ce0_ordinal_8abf5 (K : Kd) (o : Nat) (w : Wd) : Option (Int32 × Wd) :=
  some ((tokO.getD o 0), w)

def f_J8_newLength_cabcc (K : Kd) (a_0 : Int32) (a_1 : Int32) (a_2 : Int32) (w : Wd) : Option (Int32 × Wd) :=
  if (a_0 + (imax a_1 a_2)) ≤ 0 then
    (none)
  else
    (if 2147483639 < (a_0 + (imax a_1 a_2)) then
      (none)
    else
      (some ((a_0 + (imax a_1 a_2)), w)))

def f_J0_coder_7d493 (K : Kd) (o : Nat) (w : Wd) : Option (Int32 × Wd) :=
  (grd ((wI w 2001 o).toInt8.toInt32 = (wI w 2001 o))).bind fun _ =>
  some ((wI w 2001 o), w)

def f_J0_isLatin1_aae02 (K : Kd) (o : Nat) (w : Wd) : Option (Bool × Wd) :=
  if (wI w 2001 o) = 0 then
    (some (true, w))
  else
    (some (false, w))

def f_CJ0_coder_7d493 (K : Kd) (i : Nat) (w : Wd) : Option (Int32 × Wd) :=
  some (0, w)

def f_CJ0_getBytes_840e7 (K : Kd) (i : Nat) (a_1 : Option Nat) (a_2 : Int32) (a_3 : Int32) (w : Wd) : Option Wd :=
  (f_CJ0_coder_7d493 K i w).bind fun q1 =>
  if q1.1 = a_3 then
    ((cha K 21 a_1).bind fun a3 =>
    (grd (¬ (0 : Int32) < 0 ∧ ¬ (a_2 <<< (a_3 &&& 31)) < 0 ∧ ¬ (nI (strL.getD i 0)) < 0 ∧ (0 : Int32).toNatClampNeg + (nI (strL.getD i 0)).toNatClampNeg ≤ (strL.getD i 0) ∧ (a_2 <<< (a_3 &&& 31)).toNatClampNeg + (nI (strL.getD i 0)).toNatClampNeg ≤ a3.2)).bind fun _ =>
    (some (tA q1.2 a3.1 (va_cpy (fun j => (strB.getD i []).getD j 0) (aI q1.2 a3.1) (0 : Int32).toNatClampNeg (a_2 <<< (a_3 &&& 31)).toNatClampNeg (nI (strL.getD i 0)).toNatClampNeg))).bind fun w5 =>
    some w5)
  else
    (none)

def f_J5_isLatin1_aae02 (K : Kd) (o : Nat) (w : Wd) : Option (Bool × Wd) :=
  if (wI w 2101 o) = 0 then
    (some (true, w))
  else
    (some (false, w))

def f_J5_getValue_6d5f1 (K : Kd) (o : Nat) (w : Wd) : Option (Option Nat × Wd) :=
  some ((wR w 2100 o), w)

def f_J5_length_8abf5 (K : Kd) (o : Nat) (w : Wd) : Option (Int32 × Wd) :=
  some ((wI w 2103 o), w)

def f_J5_newCapacity_0f7a4 (K : Kd) (o : Nat) (a_1 : Int32) (w : Wd) : Option (Int32 × Wd) :=
  (cha K 21 (wR w 2100 o)).bind fun a1 =>
  (f_J8_newLength_cabcc K (nI a1.2) ((a_1 <<< ((wI w 2101 o) &&& 31)) - (nI a1.2)) ((nI a1.2) + (2 <<< ((wI w 2101 o) &&& 31))) w).bind fun q2 =>
  if q2.1 = 2147483647 then
    (none)
  else
    (some ((q2.1 >>> ((wI q2.2 2101 o) &&& 31)), q2.2))

def f_J4_length_8abf5 (K : Kd) (o : Nat) (w : Wd) : Option (Int32 × Wd) :=
  (f_J5_length_8abf5 K o w).bind fun q1 =>
  some (q1.1, q1.2)

def f_CJ5_inflateIfNeededFor_a7421 (K : Kd) (o : Nat) (i : Nat) (w : Wd) : Option Wd :=
  (f_CJ0_coder_7d493 K i w).bind fun q2 =>
  if (wI w 2101 o) = q2.1 then
    (some q2.2)
  else
    (none)

def f_CJ5_putStringAt_47b60 (K : Kd) (o : Nat) (a_1 : Int32) (i : Nat) (w : Wd) : Option Wd :=
  (f_CJ5_inflateIfNeededFor_a7421 K o i w).bind fun q1 =>
  (f_CJ0_getBytes_840e7 K i (wR q1 2100 o) a_1 (wI q1 2101 o) q1).bind fun q2 =>
  some q2

def f_J7_copyOf_9075b (K : Kd) (n : Nat) (a_0 : Option Nat) (a_1 : Int32) (w : Wd) : Option (Kd × Nat × Option Nat × Wd) :=
  (cha K 21 a_0).bind fun a1 =>
  if a_1 = (nI a1.2) then
    (none)
  else
    ((grd (¬ a_1 < 0 ∧ a_1.toNatClampNeg ≤ 1200)).bind fun _ =>
    (some (kup K n (21, a_1.toNatClampNeg))).bind fun K4 =>
    (some (clr w n)).bind fun w5 =>
    (cha K4 21 a_0).bind fun a6 =>
    (cha K4 21 (some n)).bind fun a7 =>
    (grd (¬ (0 : Int32) < 0 ∧ ¬ (0 : Int32) < 0 ∧ ¬ (imin (nI a6.2) a_1) < 0 ∧ (0 : Int32).toNatClampNeg + (imin (nI a6.2) a_1).toNatClampNeg ≤ a6.2 ∧ (0 : Int32).toNatClampNeg + (imin (nI a6.2) a_1).toNatClampNeg ≤ a7.2 ∧ ∀ i9, i9 < (imin (nI a6.2) a_1).toNatClampNeg → fits .byte (.int (aI w5 a6.1 ((0 : Int32).toNatClampNeg + i9))) = true)).bind fun _ =>
    (some (tA w5 a7.1 (va_cpy (aI w5 a6.1) (aI w5 a7.1) (0 : Int32).toNatClampNeg (0 : Int32).toNatClampNeg (imin (nI a6.2) a_1).toNatClampNeg))).bind fun w9 =>
    some (K4, (n + 1), (some n), w9))

def f_J7_checkLength_df160 (K : Kd) (a_0 : Int32) (a_1 : Int32) (w : Wd) : Option Wd :=
  if a_0 ≤ a_1 then
    (some w)
  else
    (none)

def f_J7_copyOfRangeByte_39247 (K : Kd) (n : Nat) (a_0 : Option Nat) (a_1 : Int32) (a_2 : Int32) (w : Wd) : Option (Kd × Nat × Option Nat × Wd) :=
  (f_J7_checkLength_df160 K a_1 a_2 w).bind fun q1 =>
  (grd (¬ (a_2 - a_1) < 0 ∧ (a_2 - a_1).toNatClampNeg ≤ 1200)).bind fun _ =>
  (some (kup K n (21, (a_2 - a_1).toNatClampNeg))).bind fun K3 =>
  (some (clr q1 n)).bind fun w4 =>
  (cha K3 21 a_0).bind fun a5 =>
  (cha K3 21 (some n)).bind fun a6 =>
  (grd (¬ a_1 < 0 ∧ ¬ (0 : Int32) < 0 ∧ ¬ (imin ((nI a5.2) - a_1) (a_2 - a_1)) < 0 ∧ a_1.toNatClampNeg + (imin ((nI a5.2) - a_1) (a_2 - a_1)).toNatClampNeg ≤ a5.2 ∧ (0 : Int32).toNatClampNeg + (imin ((nI a5.2) - a_1) (a_2 - a_1)).toNatClampNeg ≤ a6.2 ∧ ∀ i9, i9 < (imin ((nI a5.2) - a_1) (a_2 - a_1)).toNatClampNeg → fits .byte (.int (aI w4 a5.1 (a_1.toNatClampNeg + i9))) = true)).bind fun _ =>
  (some (tA w4 a6.1 (va_cpy (aI w4 a5.1) (aI w4 a6.1) a_1.toNatClampNeg (0 : Int32).toNatClampNeg (imin ((nI a5.2) - a_1) (a_2 - a_1)).toNatClampNeg))).bind fun w8 =>
  some (K3, (n + 1), (some n), w8)

def f_J7_copyOfRange_39247 (K : Kd) (n : Nat) (a_0 : Option Nat) (a_1 : Int32) (a_2 : Int32) (w : Wd) : Option (Kd × Nat × Option Nat × Wd) :=
  if a_1 = 0 then
    ((cha K 21 a_0).bind fun a3 =>
    if a_2 = (nI a3.2) then
      (none)
    else
      ((f_J7_copyOfRangeByte_39247 K n a_0 a_1 a_2 w).bind fun q5 =>
      some (q5.1, q5.2.1, q5.2.2.1, q5.2.2.2)))
  else
    ((f_J7_copyOfRangeByte_39247 K n a_0 a_1 a_2 w).bind fun q2 =>
    some (q2.1, q2.2.1, q2.2.2.1, q2.2.2.2))

def f_J5_init_d00df (K : Kd) (n : Nat) (o : Nat) (a_1 : Int32) (w : Wd) : Option (Kd × Nat × Wd) :=
  (grd (¬ a_1 < 0 ∧ a_1.toNatClampNeg ≤ 1200)).bind fun _ =>
  (some (kup K n (21, a_1.toNatClampNeg))).bind fun K3 =>
  (some (clr w n)).bind fun w4 =>
  (chk K3 12 (some o)).bind fun a5 =>
  (some (sR w4 2100 a5 (some n))).bind fun w6 =>
  (some (sI w6 2101 a5 0)).bind fun w7 =>
  some (K3, (n + 1), w7)

def f_J4_init_da8c8 (K : Kd) (n : Nat) (o : Nat) (w : Wd) : Option (Kd × Nat × Wd) :=
  (f_J5_init_d00df K n o 16 w).bind fun q1 =>
  some (q1.1, q1.2.1, q1.2.2)

def f_J5_ensureCapacityInternal_d00df (K : Kd) (n : Nat) (o : Nat) (a_1 : Int32) (w : Wd) : Option (Kd × Nat × Wd) :=
  (chk K 12 (some o)).bind fun a1 =>
  (cha K 21 (wR w 2100 a1)).bind fun a2 =>
  if (a_1 - ((nI a2.2) >>> ((wI w 2101 a1) &&& 31))) ≤ 0 then
    (some (K, n, w))
  else
    ((f_J5_newCapacity_0f7a4 K a1 a_1 w).bind fun q4 =>
    (f_J7_copyOf_9075b K n (wR w 2100 a1) (q4.1 <<< ((wI q4.2 2101 a1) &&& 31)) q4.2).bind fun q5 =>
    (chk q5.1 12 (some o)).bind fun a6 =>
    (some (sR q5.2.2.2 2100 a6 q5.2.2.1)).bind fun w7 =>
    some (q5.1, q5.2.1, w7))

def f_J5_append_3fe6f (K : Kd) (n : Nat) (o : Nat) (a_1 : Int32) (w : Wd) : Option (Kd × Nat × Option Nat × Wd) :=
  (chk K 12 (some o)).bind fun a1 =>
  (f_J5_ensureCapacityInternal_d00df K n a1 ((wI w 2103 a1) + 1) w).bind fun q2 =>
  (chk q2.1 12 (some o)).bind fun a3 =>
  (f_J5_isLatin1_aae02 q2.1 a3 q2.2.2).bind fun q4 =>
  if (b2i q4.1) = 0 then
    (none)
  else
    ((f_J1_canEncode_fc78d q2.1 a_1 q4.2).bind fun q6 =>
    if (b2i q6.1) = 0 then
      (none)
    else
      ((some (sI q6.2 2103 a3 ((wI q6.2 2103 a3) + 1))).bind fun w8 =>
      (cha q2.1 21 (wR q6.2 2100 a3)).bind fun a9 =>
      (ixa (wI q6.2 2103 a3) a9.2).bind fun j10 =>
      (some (tI w8 a9.1 j10 (vp_nar .byte (a_1.toInt8.toInt32)))).bind fun w11 =>
      some (q2.1, q2.2.1, (some o), w11)))

def f_J5_append_c97b9 (K : Kd) (n : Nat) (o : Nat) (a_1 : Int32) (w : Wd) : Option (Kd × Nat × Option Nat × Wd) :=
  (chk K 12 (some o)).bind fun a1 =>
  (f_J6_stringSize_0f7a4 K a_1 w).bind fun q2 =>
  (f_J5_ensureCapacityInternal_d00df K n a1 ((wI w 2103 a1) + q2.1) q2.2).bind fun q3 =>
  (chk q3.1 12 (some o)).bind fun a4 =>
  (f_J5_isLatin1_aae02 q3.1 a4 q3.2.2).bind fun q5 =>
  if (b2i q5.1) = 0 then
    (none)
  else
    ((f_J6_getChars_ba4f3 q3.1 a_1 ((wI w 2103 a1) + q2.1) (wR q5.2 2100 a4) q5.2).bind fun q7 =>
    (some (sI q7.2 2103 a4 ((wI w 2103 a1) + q2.1))).bind fun w8 =>
    some (q3.1, q3.2.1, (some o), w8))

def f_J4_append_cf468 (K : Kd) (n : Nat) (o : Nat) (a_1 : Int32) (w : Wd) : Option (Kd × Nat × Option Nat × Wd) :=
  (chk K 12 (some o)).bind fun a1 =>
  (f_J5_append_3fe6f K n a1 a_1 w).bind fun q2 =>
  some (q2.1, q2.2.1, (some o), q2.2.2.2)

def f_J4_append_bf812 (K : Kd) (n : Nat) (o : Nat) (a_1 : Int32) (w : Wd) : Option (Kd × Nat × Option Nat × Wd) :=
  (chk K 12 (some o)).bind fun a1 =>
  (f_J5_append_c97b9 K n a1 a_1 w).bind fun q2 =>
  some (q2.1, q2.2.1, (some o), q2.2.2.2)

def f_J0_init_db425 (K : Kd) (n : Nat) (o : Nat) (a_1 : Option Nat) (a_2 : Option Nat) (w : Wd) : Option (Kd × Nat × Wd) :=
  (chk K 12 a_1).bind fun a1 =>
  (f_J5_getValue_6d5f1 K a1 w).bind fun q2 =>
  (f_J4_length_8abf5 K a1 q2.2).bind fun q3 =>
  (f_J5_isLatin1_aae02 K a1 q3.2).bind fun q4 =>
  if (b2i q4.1) = 0 then
    (none)
  else
    ((chk K 11 (some o)).bind fun a6 =>
    (some (sI q4.2 2001 a6 0)).bind fun w7 =>
    (f_J7_copyOfRange_39247 K n q2.1 0 q3.1 w7).bind fun q8 =>
    (chk q8.1 11 (some o)).bind fun a9 =>
    (some (sR q8.2.2.2 2000 a9 q8.2.2.1)).bind fun w10 =>
    some (q8.1, q8.2.1, w10))

def f_J0_init_81219 (K : Kd) (n : Nat) (o : Nat) (a_1 : Option Nat) (w : Wd) : Option (Kd × Nat × Wd) :=
  (f_J0_init_db425 K n o a_1 none w).bind fun q1 =>
  some (q1.1, q1.2.1, q1.2.2)

def f_J4_toString_0e30d (K : Kd) (n : Nat) (o : Nat) (w : Wd) : Option (Kd × Nat × Option Nat × Wd) :=
  (some (kup K n (11, 0))).bind fun K1 =>
  (some (clr w n)).bind fun w2 =>
  (f_J0_init_81219 K1 (n + 1) n (some o) w2).bind fun q3 =>
  some (q3.1, q3.2.1, (some n), q3.2.2)

def f_NX12_requireDay (K : Kd) (o : Nat) (a_1 : Int32) (w : Wd) : Option Wd :=
  if a_1 < 0 then
    (none)
  else
    (if a_1 < 600 then
      (some w)
    else
      (none))

def f_NX12_requireExisting (K : Kd) (o : Nat) (a_1 : Int32) (a_2 : Int32) (w : Wd) : Option Wd :=
  if a_2 < 0 then
    (none)
  else
    ((chk K 9 (wR w 1205 o)).bind fun a2 =>
    (chk K 8 (wR w 1000 a2)).bind fun a3 =>
    (f_X9_size K a3 a_1 w).bind fun q4 =>
    if a_2 < q4.1 then
      (some q4.2)
    else
      (none))

def f_NX12_requirePassable (K : Kd) (o : Nat) (a_1 : Int32) (w : Wd) : Option Wd :=
  if a_1 < 1 then
    (none)
  else
    (if 99 < a_1 then
      (none)
    else
      ((chk K 9 (wR w 1205 o)).bind fun a3 =>
      if ((wI w 1001 a3) + a_1) < 600 then
        (some w)
      else
        (none)))

def f_NX12_requireSlot (K : Kd) (o : Nat) (a_1 : Int32) (w : Wd) : Option Wd :=
  if a_1 < 0 then
    (none)
  else
    (if a_1 < 8 then
      (some w)
    else
      (none))

def f_NX12_requireUnfinished (K : Kd) (o : Nat) (a_1 : Int32) (w : Wd) : Option Wd :=
  (chk K 9 (wR w 1205 o)).bind fun a1 =>
  (cha K 27 (wR w 1005 a1)).bind fun a2 =>
  (ixa a_1 a2.2).bind fun j3 =>
  (chk K 6 (aR w a2.1 j3)).bind fun a4 =>
  if (wI w 700 a4) = 0 then
    (some w)
  else
    (if (wI w 700 a4) = 1 then
      (some w)
    else
      (none))

def f_NX12_restoreState (K : Kd) (o : Nat) (w : Wd) : Option (Int32 × Wd) :=
  if (b2i (wZ w 1207 o)) = 0 then
    (none)
  else
    ((chk K 9 (wR w 1205 o)).bind fun a2 =>
    (f_X10_copyFrom K a2 (wR w 1206 o) w).bind fun q3 =>
    (some (sI q3 1210 o 0)).bind fun w4 =>
    (chk K 9 (wR w4 1205 o)).bind fun a5 =>
    some ((wI w4 1001 a5), w4))

def f_NX12_undo (K : Kd) (o : Nat) (w : Wd) : Option (Int32 × Wd) :=
  if (wI w 1210 o) ≤ 0 then
    (none)
  else
    ((cha K 28 (wR w 1209 o)).bind fun a2 =>
    if (wI w 1210 o) ≤ (nI a2.2) then
      ((some (sI w 1210 o ((wI w 1210 o) - 1))).bind fun w4 =>
      (cha K 28 (wR w4 1209 o)).bind fun a5 =>
      (ixa (wI w4 1210 o) a5.2).bind fun j6 =>
      (chk K 9 (wR w4 1205 o)).bind fun a7 =>
      (f_X10_copyFrom K a7 (aR w4 a5.1 j6) w4).bind fun q8 =>
      some ((wI q8 1210 o), q8))
    else
      (none))

def f_X12_feed (K : Kd) (o : Nat) (a_1 : Int32) (a_2 : Int32) (a_3 : Int32) (a_4 : Int32) (a_5 : Int32) (w : Wd) : Option (Int32 × Wd) :=
  if ((wI w 1201 o) + 20) ≤ 900 then
    ((f_X12_append K o a_1 w).bind fun q2 =>
    (f_X12_append K o a_2 q2).bind fun q3 =>
    (f_X12_append K o a_3 q3).bind fun q4 =>
    (f_X12_append K o a_4 q4).bind fun q5 =>
    (f_X12_append K o a_5 q5).bind fun q6 =>
    some ((wI q6 1201 o), q6))
  else
    (some ((-1), w))

def f_X12_remember_L18 (K : Kd) (o : Nat) (k : Option Nat → Int32 → Wd → Option Wd) : Nat → Option Nat → Int32 → Wd → Option Wd
  | 0, _, _, _ => none
  | n + 1, v1_18, v2_18, w =>
    (cha K 28 (wR w 1209 o)).bind fun a10 =>
    if (nI a10.2) ≤ v2_18 then
      (k v1_18 v2_18 w)
    else
      ((ixa v2_18 a10.2).bind fun j12 =>
      (ixa (v2_18 - 1) a10.2).bind fun j13 =>
      (chk K 9 (aR w a10.1 j12)).bind fun a14 =>
      (some (tR w a10.1 j13 (some a14))).bind fun w15 =>
      f_X12_remember_L18 K o k n v1_18 (v2_18 + 1) w15)

def f_X12_remember (K : Kd) (o : Nat) (w : Wd) : Option Wd :=
  if (wI w 1210 o) < 8 then
    ((cha K 28 (wR w 1209 o)).bind fun a2 =>
    (ixa (wI w 1210 o) a2.2).bind fun j3 =>
    (chk K 9 (aR w a2.1 j3)).bind fun a4 =>
    (f_X10_copyFrom K a4 (wR w 1205 o) w).bind fun q5 =>
    (some (sI q5 1210 o ((wI q5 1210 o) + 1))).bind fun w6 =>
    some w6)
  else
    ((cha K 28 (wR w 1209 o)).bind fun a7 =>
    (ixa 0 a7.2).bind fun j8 =>
    f_X12_remember_L18 K o (fun v1_18 v2_18 w9 =>
      (cha K 28 (wR w9 1209 o)).bind fun a16 =>
      (ixa ((nI a16.2) - 1) a16.2).bind fun j17 =>
      (chk K 9 v1_18).bind fun a18 =>
      (some (tR w9 a16.1 j17 (some a18))).bind fun w19 =>
      (some (sI w19 1210 o 7)).bind fun w20 =>
      (cha K 28 (wR w20 1209 o)).bind fun a21 =>
      (ixa (wI w20 1210 o) a21.2).bind fun j22 =>
      (chk K 9 (aR w20 a21.1 j22)).bind fun a23 =>
      (f_X10_copyFrom K a23 (wR w20 1205 o) w20).bind fun q24 =>
      (some (sI q24 1210 o ((wI q24 1210 o) + 1))).bind fun w25 =>
      some w25) fu (aR w a7.1 j8) 1 w)

def f_X12_saveState (K : Kd) (o : Nat) (w : Wd) : Option (Int32 × Wd) :=
  (chk K 9 (wR w 1206 o)).bind fun a1 =>
  (f_X10_copyFrom K a1 (wR w 1205 o) w).bind fun q2 =>
  (some (sZ q2 1207 o true)).bind fun w3 =>
  (chk K 9 (wR w3 1205 o)).bind fun a4 =>
  some ((wI w3 1001 a4), w3)

def f_X12_requireExisting (K : Kd) (o : Nat) (a_1 : Int32) (a_2 : Int32) (w : Wd) : Option ((Unit ⊕ Nat) × Wd) :=
  if a_2 < 0 then
    (some (.inr 1, w))
  else
    ((chk K 9 (wR w 1205 o)).bind fun a2 =>
    (chk K 8 (wR w 1000 a2)).bind fun a3 =>
    (f_X9_size K a3 a_1 w).bind fun q4 =>
    if a_2 < q4.1 then
      (some (.inl (), q4.2))
    else
      (some (.inr 1, q4.2)))

def f_X2_clear (K : Kd) (o : Nat) (w : Wd) : Option Wd :=
  (f_J7_fill_53178 K (wR w 200 o) 0 w).bind fun q1 =>
  (some (sI q1 201 o 0)).bind fun w2 =>
  some w2

def f_X6_setFound (K : Kd) (o : Nat) (a_1 : Option Nat) (a_2 : Int32) (w : Wd) : Option Wd :=
  (chk K 9 a_1).bind fun a1 =>
  (cha K 27 (wR w 1005 a1)).bind fun a2 =>
  (ixa a_2 a2.2).bind fun j3 =>
  (chk K 6 (aR w a2.1 j3)).bind fun a4 =>
  (f_X7_setHearing K a4 (wI w 608 o) (wI w 609 o) (wI w 610 o) (wI w 611 o) w).bind fun q5 =>
  some q5

def f_X6_lastDay (K : Kd) (a_0 : Option Nat) (a_1 : Int32) (w : Wd) : Option (Int32 × Wd) :=
  (chk K 9 a_0).bind fun a1 =>
  (f_X10_limitDay K a1 a_1 w).bind fun q2 =>
  some ((imin q2.1 599), q2.2)

def f_X6_findIn_L14 (K : Kd) (o : Nat) (k : Option Nat → Int32 → Int32 → Int32 → Wd → Option (Bool × Wd)) : Nat → Option Nat → Int32 → Int32 → Int32 → Wd → Option (Bool × Wd)
  | 0, _, _, _, _, _ => none
  | n + 1, v1_14, v2_14, v3_14, v4_14, w =>
    (chk K 8 v1_14).bind fun a5 =>
    (f_X9_size K a5 0 w).bind fun q6 =>
    if q6.1 ≤ v4_14 then
      (k v1_14 v2_14 v3_14 v4_14 q6.2)
    else
      (if v3_14 = (-1) then
        (k v1_14 v2_14 v3_14 v4_14 q6.2)
      else
        ((cha K 20 (wR q6.2 600 o)).bind fun a9 =>
        (ixa v4_14 a9.2).bind fun j10 =>
        (cha K 20 (wR q6.2 901 a5)).bind fun a11 =>
        (ixa v4_14 a11.2).bind fun j12 =>
        if (v2_14 &&& ((aI q6.2 a9.1 j10) ||| ((aI q6.2 a11.1 j12) ^^^ (-1)))) = 0 then
          ((some (sI q6.2 610 o v4_14)).bind fun w14 =>
          (some (sI w14 611 o v3_14)).bind fun w15 =>
          some (true, w15))
        else
          (f_X6_findIn_L14 K o k n v1_14 v2_14 v3_14 (v4_14 + 1) q6.2)))

def f_X6_findIn (K : Kd) (o : Nat) (a_1 : Option Nat) (a_2 : Int32) (w : Wd) : Option (Bool × Wd) :=
  (chk K 8 a_1).bind fun a1 =>
  (f_X9_size K a1 1 w).bind fun q2 =>
  (f_X6_leastLoaded K o q2.1 a_2 q2.2).bind fun q3 =>
  f_X6_findIn_L14 K o (fun v1_14 v2_14 v3_14 v4_14 w4 =>
    some (false, w4)) fu a_1 a_2 q3.1 0 q3.2

def f_X6_lookAtOfficers_L11 (K : Kd) (o : Nat) (k : Option Nat → Int32 → Int32 → Wd → Option Wd) : Nat → Option Nat → Int32 → Int32 → Wd → Option Wd
  | 0, _, _, _, _ => none
  | n + 1, v1_11, v2_11, v3_11, w =>
    (chk K 9 v1_11).bind fun a5 =>
    (chk K 8 (wR w 1000 a5)).bind fun a6 =>
    (f_X9_size K a6 1 w).bind fun q7 =>
    if q7.1 ≤ v3_11 then
      (k v1_11 v2_11 v3_11 q7.2)
    else
      ((f_X10_loadOf K a5 v3_11 q7.2).bind fun q9 =>
      (cha K 20 (wR q7.2 602 o)).bind fun a10 =>
      (ixa v3_11 a10.2).bind fun j11 =>
      (some (tI q9.2 a10.1 j11 q9.1)).bind fun w12 =>
      f_X6_lookAtOfficers_L11 K o k n v1_11 v2_11 (v3_11 + 1) w12)

def f_X6_lookAtOfficers (K : Kd) (o : Nat) (a_1 : Option Nat) (a_2 : Int32) (w : Wd) : Option Wd :=
  (chk K 9 a_1).bind fun a1 =>
  (f_X10_barredOfficers K a1 a_2 w).bind fun q2 =>
  (some (sI q2.2 604 o q2.1)).bind fun w3 =>
  f_X6_lookAtOfficers_L11 K o (fun v1_11 v2_11 v3_11 w4 =>
    some w4) fu a_1 a_2 0 w3

def f_X6_lookAtDay_L66 (K : Kd) (o : Nat) (k : Option Nat → Int32 → Int32 → Int32 → Option Nat → Int32 → Int32 → Wd → Option Wd) : Nat → Option Nat → Int32 → Int32 → Int32 → Option Nat → Int32 → Int32 → Wd → Option Wd
  | 0, _, _, _, _, _, _, _, _ => none
  | n + 1, v1_66, v2_66, v3_66, v4_66, v5_66, v6_66, v7_66, w =>
    (chk K 8 v5_66).bind fun a14 =>
    (f_X9_size K a14 3 w).bind fun q15 =>
    if q15.1 ≤ v7_66 then
      (k v1_66 v2_66 v3_66 v4_66 v5_66 v6_66 v7_66 q15.2)
    else
      ((chk K 9 v1_66).bind fun a17 =>
      (cha K 27 (wR q15.2 1005 a17)).bind fun a18 =>
      (ixa v7_66 a18.2).bind fun j19 =>
      if v7_66 = v2_66 then
        (f_X6_lookAtDay_L66 K o k n v1_66 v2_66 v3_66 v4_66 v5_66 v6_66 (v7_66 + 1) q15.2)
      else
        ((chk K 6 (aR q15.2 a18.1 j19)).bind fun a21 =>
        (f_X7_isOn K a21 v3_66 q15.2).bind fun q22 =>
        if (b2i q22.1) = 0 then
          (f_X6_lookAtDay_L66 K o k n v1_66 v2_66 v3_66 v4_66 v5_66 v6_66 (v7_66 + 1) q22.2)
        else
          ((f_X10_slotsOf K a17 v7_66 q22.2).bind fun q24 =>
          (f_X6_take K (wR q24.2 600 o) (wI q24.2 704 a21) q24.1 q24.2).bind fun q25 =>
          (f_X6_take K (wR q25 601 o) (wI q25 705 a21) q24.1 q25).bind fun q26 =>
          (cha K 25 (wR q26 909 a14)).bind fun a27 =>
          (ixa v7_66 a27.2).bind fun j28 =>
          (chk K 2 (aR q26 a27.1 j28)).bind fun a29 =>
          if (v6_66 &&& (wI q26 304 a29)) = 0 then
            ((some (sI q26 607 o ((wI q26 607 o) ||| 0))).bind fun w31 =>
            f_X6_lookAtDay_L66 K o k n v1_66 v2_66 v3_66 v4_66 v5_66 v6_66 (v7_66 + 1) w31)
          else
            ((some (sI q26 607 o ((wI q26 607 o) ||| q24.1))).bind fun w32 =>
            f_X6_lookAtDay_L66 K o k n v1_66 v2_66 v3_66 v4_66 v5_66 v6_66 (v7_66 + 1) w32))))

def f_X6_lookAtDay (K : Kd) (o : Nat) (a_1 : Option Nat) (a_2 : Int32) (a_3 : Int32) (a_4 : Int32) (w : Wd) : Option Wd :=
  (chk K 9 a_1).bind fun a1 =>
  (chk K 8 (wR w 1000 a1)).bind fun a2 =>
  (cha K 25 (wR w 909 a2)).bind fun a3 =>
  (ixa a_2 a3.2).bind fun j4 =>
  (chk K 2 (aR w a3.1 j4)).bind fun a5 =>
  (f_J7_fill_53178 K (wR w 600 o) 0 w).bind fun q6 =>
  (f_J7_fill_53178 K (wR q6 601 o) 0 q6).bind fun q7 =>
  (some (sI q7 607 o 0)).bind fun w8 =>
  (f_X9_awayOfficers K a2 a_3 w8).bind fun q9 =>
  (some (sI q9.2 605 o (a_4 ||| q9.1))).bind fun w10 =>
  (f_X10_slotsOutside K a1 (wI w 304 a5) a_3 w10).bind fun q11 =>
  (some (sI q11.2 606 o q11.1)).bind fun w12 =>
  f_X6_lookAtDay_L66 K o (fun v1_66 v2_66 v3_66 v4_66 v5_66 v6_66 v7_66 w13 =>
    some w13) fu a_1 a_2 a_3 a_4 (wR w 1000 a1) (wI w 304 a5) 0 w12

def f_X7_clear (K : Kd) (o : Nat) (w : Wd) : Option Wd :=
  (some (sI w 701 o 0)).bind fun w1 =>
  (some (sI w1 706 o 0)).bind fun w2 =>
  (f_X7_dropHearing K o w2).bind fun q3 =>
  some q3

def f_X8_advance_L0 (K : Kd) (o : Nat) (k : Wd → Option Wd) : Nat → Wd → Option Wd
  | 0, _ => none
  | n + 1, w =>
    if (wI w 801 o) ≤ (wI w 803 o) then
      (k w)
    else
      ((cha K 21 (wR w 800 o)).bind fun a3 =>
      (ixa (wI w 803 o) a3.2).bind fun j4 =>
      if (aI w a3.1 j4) = 32 then
        ((some (sI w 803 o ((wI w 803 o) + 1))).bind fun w6 =>
        f_X8_advance_L0 K o k n w6)
      else
        ((ixa (wI w 803 o) a3.2).bind fun j7 =>
        if (aI w a3.1 j7) = 10 then
          ((some (sI w 803 o ((wI w 803 o) + 1))).bind fun w9 =>
          f_X8_advance_L0 K o k n w9)
        else
          (k w)))

def f_X8_advance_L216 (K : Kd) (o : Nat) (k : Wd → Option Wd) : Nat → Wd → Option Wd
  | 0, _ => none
  | n + 1, w =>
    if (wI w 801 o) ≤ (wI w 803 o) then
      (k w)
    else
      ((cha K 21 (wR w 800 o)).bind fun a31 =>
      (ixa (wI w 803 o) a31.2).bind fun j32 =>
      (f_X8_isDigit K (aI w a31.1 j32) w).bind fun q33 =>
      if (b2i q33.1) = 0 then
        (k q33.2)
      else
        ((cha K 21 (wR q33.2 800 o)).bind fun a35 =>
        (ixa (wI q33.2 803 o) a35.2).bind fun j36 =>
        (some (sI q33.2 806 o (((wI q33.2 806 o) * 10) + ((aI q33.2 a35.1 j36) - 48)))).bind fun w37 =>
        (some (sI w37 803 o ((wI w37 803 o) + 1))).bind fun w38 =>
        f_X8_advance_L216 K o k n w38))

def f_X8_advance_L106 (K : Kd) (o : Nat) (k : Wd → Option Wd) : Nat → Wd → Option Wd
  | 0, _ => none
  | n + 1, w =>
    if (wI w 801 o) ≤ (wI w 803 o) then
      (k w)
    else
      ((cha K 21 (wR w 800 o)).bind fun a44 =>
      (ixa (wI w 803 o) a44.2).bind fun j45 =>
      (f_X12_isLetter K (aI w a44.1 j45) w).bind fun q46 =>
      if (b2i q46.1) = 0 then
        (k q46.2)
      else
        ((cha K 21 (wR q46.2 800 o)).bind fun a48 =>
        (ixa (wI q46.2 803 o) a48.2).bind fun j49 =>
        (some (sJ q46.2 805 o ((lsl (wJ q46.2 805 o) 8) ||| ((aI q46.2 a48.1 j49).toInt64)))).bind fun w50 =>
        (some (sI w50 803 o ((wI w50 803 o) + 1))).bind fun w51 =>
        f_X8_advance_L106 K o k n w51))

def f_X8_advance (K : Kd) (o : Nat) (w : Wd) : Option Wd :=
  f_X8_advance_L0 K o (fun w1 =>
    (some (sI w1 802 o (wI w1 803 o))).bind fun w10 =>
    (some (sJ w10 805 o 0)).bind fun w11 =>
    (some (sI w11 806 o 0)).bind fun w12 =>
    if (wI w12 803 o) < (wI w12 801 o) then
      ((cha K 21 (wR w12 800 o)).bind fun a14 =>
      (ixa (wI w12 803 o) a14.2).bind fun j15 =>
      (f_X12_isLetter K (aI w12 a14.1 j15) w12).bind fun q16 =>
      if (b2i q16.1) = 0 then
        ((cha K 21 (wR q16.2 800 o)).bind fun a18 =>
        (ixa (wI q16.2 803 o) a18.2).bind fun j19 =>
        (f_X8_isDigit K (aI q16.2 a18.1 j19) q16.2).bind fun q20 =>
        if (b2i q20.1) = 0 then
          ((cha K 21 (wR q20.2 800 o)).bind fun a22 =>
          (ixa (wI q20.2 803 o) a22.2).bind fun j23 =>
          if (aI q20.2 a22.1 j23) = 59 then
            ((some (sR q20.2 804 o (some 18))).bind fun w27 =>
            (some (sI w27 803 o ((wI w27 803 o) + 1))).bind fun w28 =>
            some w28)
          else
            ((some (sR q20.2 804 o (some 20))).bind fun w25 =>
            (some (sI w25 803 o ((wI w25 803 o) + 1))).bind fun w26 =>
            some w26))
        else
          (f_X8_advance_L216 K o (fun w29 =>
            if ((wI w29 803 o) - (wI w29 802 o)) ≤ 3 then
              ((some (sR w29 804 o (some 17))).bind fun w40 =>
              some w40)
            else
              ((some (sR w29 804 o (some 20))).bind fun w41 =>
              some w41)) fu  q20.2))
      else
        (f_X8_advance_L106 K o (fun w42 =>
          if ((wI w42 803 o) - (wI w42 802 o)) ≤ 8 then
            ((f_X11_ofWord K (wJ w42 805 o) w42).bind fun q53 =>
            (some (sR q53.2 804 o q53.1)).bind fun w54 =>
            some w54)
          else
            ((some (sR w42 804 o (some 20))).bind fun w55 =>
            some w55)) fu  q16.2))
    else
      ((some (sR w12 804 o (some 19))).bind fun w56 =>
      some w56)) fu  w

def f_X9_clear_L2 (K : Kd) (o : Nat) (k : Int32 → Wd → Option Wd) : Nat → Int32 → Wd → Option Wd
  | 0, _, _ => none
  | n + 1, v1_2, w =>
    if 4 ≤ v1_2 then
      (k v1_2 w)
    else
      ((cha K 26 (wR w 900 o)).bind fun a3 =>
      (ixa v1_2 a3.2).bind fun j4 =>
      (chk K 3 (aR w a3.1 j4)).bind fun a5 =>
      (some (sI w 401 a5 0)).bind fun w6 =>
      f_X9_clear_L2 K o k n (v1_2 + 1) w6)

def f_X9_clear_L25 (K : Kd) (o : Nat) (k : Int32 → Wd → Option Wd) : Nat → Int32 → Wd → Option Wd
  | 0, _, _ => none
  | n + 1, v1_25, w =>
    if 12 ≤ v1_25 then
      (k v1_25 w)
    else
      ((cha K 25 (wR w 909 o)).bind fun a9 =>
      (ixa v1_25 a9.2).bind fun j10 =>
      (chk K 2 (aR w a9.1 j10)).bind fun a11 =>
      (f_X3_clear K a11 w).bind fun q12 =>
      f_X9_clear_L25 K o k n (v1_25 + 1) q12)

def f_X9_clear (K : Kd) (o : Nat) (w : Wd) : Option Wd :=
  f_X9_clear_L2 K o (fun v1_2 w1 =>
    f_X9_clear_L25 K o (fun v1_25 w7 =>
      (f_J7_fill_53178 K (wR w7 902 o) 0 w7).bind fun q13 =>
      (chk K 1 (wR q13 910 o)).bind fun a14 =>
      (f_X2_clear K a14 q13).bind fun q15 =>
      (cha K 20 (wR q15 911 o)).bind fun a16 =>
      (ixa 0 a16.2).bind fun j17 =>
      (some (tI q15 a16.1 j17 10)).bind fun w18 =>
      (cha K 20 (wR w18 911 o)).bind fun a19 =>
      (ixa 1 a19.2).bind fun j20 =>
      (some (tI w18 a19.1 j20 5)).bind fun w21 =>
      (cha K 20 (wR w21 911 o)).bind fun a22 =>
      (ixa 2 a22.2).bind fun j23 =>
      (some (tI w21 a22.1 j23 0)).bind fun w24 =>
      (cha K 20 (wR w24 911 o)).bind fun a25 =>
      (ixa 3 a25.2).bind fun j26 =>
      (some (tI w24 a25.1 j26 0)).bind fun w27 =>
      (some (sI w27 912 o 0)).bind fun w28 =>
      (some (sI w28 913 o 15)).bind fun w29 =>
      (some (sZ w29 914 o false)).bind fun w30 =>
      some w30) fu 0 w1) fu 0 w

def f_X9_countConflicts_L4 (K : Kd) (o : Nat) (k : Int32 → Int32 → Wd → Option (Int32 × Wd)) : Nat → Int32 → Int32 → Wd → Option (Int32 × Wd)
  | 0, _, _, _ => none
  | n + 1, v1_4, v2_4, w =>
    (f_X9_size K o 3 w).bind fun q2 =>
    if q2.1 ≤ v2_4 then
      (k v1_4 v2_4 q2.2)
    else
      ((cha K 25 (wR q2.2 909 o)).bind fun a4 =>
      (ixa v2_4 a4.2).bind fun j5 =>
      (chk K 2 (aR q2.2 a4.1 j5)).bind fun a6 =>
      (f_J6_bitCount_0f7a4 K (wI q2.2 305 a6) q2.2).bind fun q7 =>
      f_X9_countConflicts_L4 K o k n (v1_4 + q7.1) (v2_4 + 1) q7.2)

def f_X9_countConflicts (K : Kd) (o : Nat) (w : Wd) : Option (Int32 × Wd) :=
  f_X9_countConflicts_L4 K o (fun v1_4 v2_4 w1 =>
    some ((v1_4 / 2), w1)) fu 0 0 w

def f_X10_init (K : Kd) (n : Nat) (o : Nat) (a_1 : Option Nat) (w : Wd) : Option (Kd × Nat × Wd) :=
  (some (kup K n (1, 0))).bind fun K1 =>
  (some (clr w n)).bind fun w2 =>
  (f_X2_init K1 (n + 1) n w2).bind fun q3 =>
  (chk q3.1 9 (some o)).bind fun a4 =>
  (some (sR q3.2.2 1002 a4 (some n))).bind fun w5 =>
  (some (kup q3.1 q3.2.1 (20, 12))).bind fun K6 =>
  (some (clr w5 q3.2.1)).bind fun w7 =>
  (chk K6 9 (some o)).bind fun a8 =>
  (some (sR w7 1003 a8 (some q3.2.1))).bind fun w9 =>
  (some (kup K6 (q3.2.1 + 1) (20, 12))).bind fun K10 =>
  (some (clr w9 (q3.2.1 + 1))).bind fun w11 =>
  (chk K10 9 (some o)).bind fun a12 =>
  (some (sR w11 1004 a12 (some (q3.2.1 + 1)))).bind fun w13 =>
  (some (kup K10 ((q3.2.1 + 1) + 1) (27, 12))).bind fun K14 =>
  (some (clr w13 ((q3.2.1 + 1) + 1))).bind fun w15 =>
  (chk K14 9 (some o)).bind fun a16 =>
  (some (sR w15 1005 a16 (some ((q3.2.1 + 1) + 1)))).bind fun w17 =>
  (some (sR w17 1000 a16 a_1)).bind fun w18 =>
  (some (kup K14 (((q3.2.1 + 1) + 1) + 1) (6, 0))).bind fun K20 =>
  (some (clr w18 (((q3.2.1 + 1) + 1) + 1))).bind fun w21 =>
  (f_X7_init K20 ((((q3.2.1 + 1) + 1) + 1) + 1) (((q3.2.1 + 1) + 1) + 1) w21).bind fun q22 =>
  (cha q22.1 27 (wR w18 1005 a16)).bind fun a23 =>
  (ixa 0 a23.2).bind fun j24 =>
  (chk q22.1 6 (some (((q3.2.1 + 1) + 1) + 1))).bind fun a25 =>
  (some (tR q22.2.2 a23.1 j24 (some a25))).bind fun w26 =>
  (chk q22.1 9 (some o)).bind fun a27 =>
  (cha q22.1 27 (wR w26 1005 a27)).bind fun a28 =>
  (ixa 0 a28.2).bind fun j29 =>
  (chk q22.1 6 (aR w26 a28.1 j29)).bind fun a30 =>
  (f_X7_clear q22.1 a30 w26).bind fun q31 =>
  (some (kup q22.1 q22.2.1 (6, 0))).bind fun K33 =>
  (some (clr q31 q22.2.1)).bind fun w34 =>
  (f_X7_init K33 (q22.2.1 + 1) q22.2.1 w34).bind fun q35 =>
  (cha q35.1 27 (wR q31 1005 a27)).bind fun a36 =>
  (ixa 1 a36.2).bind fun j37 =>
  (chk q35.1 6 (some q22.2.1)).bind fun a38 =>
  (some (tR q35.2.2 a36.1 j37 (some a38))).bind fun w39 =>
  (chk q35.1 9 (some o)).bind fun a40 =>
  (cha q35.1 27 (wR w39 1005 a40)).bind fun a41 =>
  (ixa 1 a41.2).bind fun j42 =>
  (chk q35.1 6 (aR w39 a41.1 j42)).bind fun a43 =>
  (f_X7_clear q35.1 a43 w39).bind fun q44 =>
  (some (kup q35.1 q35.2.1 (6, 0))).bind fun K46 =>
  (some (clr q44 q35.2.1)).bind fun w47 =>
  (f_X7_init K46 (q35.2.1 + 1) q35.2.1 w47).bind fun q48 =>
  (cha q48.1 27 (wR q44 1005 a40)).bind fun a49 =>
  (ixa 2 a49.2).bind fun j50 =>
  (chk q48.1 6 (some q35.2.1)).bind fun a51 =>
  (some (tR q48.2.2 a49.1 j50 (some a51))).bind fun w52 =>
  (chk q48.1 9 (some o)).bind fun a53 =>
  (cha q48.1 27 (wR w52 1005 a53)).bind fun a54 =>
  (ixa 2 a54.2).bind fun j55 =>
  (chk q48.1 6 (aR w52 a54.1 j55)).bind fun a56 =>
  (f_X7_clear q48.1 a56 w52).bind fun q57 =>
  (some (kup q48.1 q48.2.1 (6, 0))).bind fun K59 =>
  (some (clr q57 q48.2.1)).bind fun w60 =>
  (f_X7_init K59 (q48.2.1 + 1) q48.2.1 w60).bind fun q61 =>
  (cha q61.1 27 (wR q57 1005 a53)).bind fun a62 =>
  (ixa 3 a62.2).bind fun j63 =>
  (chk q61.1 6 (some q48.2.1)).bind fun a64 =>
  (some (tR q61.2.2 a62.1 j63 (some a64))).bind fun w65 =>
  (chk q61.1 9 (some o)).bind fun a66 =>
  (cha q61.1 27 (wR w65 1005 a66)).bind fun a67 =>
  (ixa 3 a67.2).bind fun j68 =>
  (chk q61.1 6 (aR w65 a67.1 j68)).bind fun a69 =>
  (f_X7_clear q61.1 a69 w65).bind fun q70 =>
  (some (kup q61.1 q61.2.1 (6, 0))).bind fun K72 =>
  (some (clr q70 q61.2.1)).bind fun w73 =>
  (f_X7_init K72 (q61.2.1 + 1) q61.2.1 w73).bind fun q74 =>
  (cha q74.1 27 (wR q70 1005 a66)).bind fun a75 =>
  (ixa 4 a75.2).bind fun j76 =>
  (chk q74.1 6 (some q61.2.1)).bind fun a77 =>
  (some (tR q74.2.2 a75.1 j76 (some a77))).bind fun w78 =>
  (chk q74.1 9 (some o)).bind fun a79 =>
  (cha q74.1 27 (wR w78 1005 a79)).bind fun a80 =>
  (ixa 4 a80.2).bind fun j81 =>
  (chk q74.1 6 (aR w78 a80.1 j81)).bind fun a82 =>
  (f_X7_clear q74.1 a82 w78).bind fun q83 =>
  (some (kup q74.1 q74.2.1 (6, 0))).bind fun K85 =>
  (some (clr q83 q74.2.1)).bind fun w86 =>
  (f_X7_init K85 (q74.2.1 + 1) q74.2.1 w86).bind fun q87 =>
  (cha q87.1 27 (wR q83 1005 a79)).bind fun a88 =>
  (ixa 5 a88.2).bind fun j89 =>
  (chk q87.1 6 (some q74.2.1)).bind fun a90 =>
  (some (tR q87.2.2 a88.1 j89 (some a90))).bind fun w91 =>
  (chk q87.1 9 (some o)).bind fun a92 =>
  (cha q87.1 27 (wR w91 1005 a92)).bind fun a93 =>
  (ixa 5 a93.2).bind fun j94 =>
  (chk q87.1 6 (aR w91 a93.1 j94)).bind fun a95 =>
  (f_X7_clear q87.1 a95 w91).bind fun q96 =>
  (some (kup q87.1 q87.2.1 (6, 0))).bind fun K98 =>
  (some (clr q96 q87.2.1)).bind fun w99 =>
  (f_X7_init K98 (q87.2.1 + 1) q87.2.1 w99).bind fun q100 =>
  (cha q100.1 27 (wR q96 1005 a92)).bind fun a101 =>
  (ixa 6 a101.2).bind fun j102 =>
  (chk q100.1 6 (some q87.2.1)).bind fun a103 =>
  (some (tR q100.2.2 a101.1 j102 (some a103))).bind fun w104 =>
  (chk q100.1 9 (some o)).bind fun a105 =>
  (cha q100.1 27 (wR w104 1005 a105)).bind fun a106 =>
  (ixa 6 a106.2).bind fun j107 =>
  (chk q100.1 6 (aR w104 a106.1 j107)).bind fun a108 =>
  (f_X7_clear q100.1 a108 w104).bind fun q109 =>
  (some (kup q100.1 q100.2.1 (6, 0))).bind fun K111 =>
  (some (clr q109 q100.2.1)).bind fun w112 =>
  (f_X7_init K111 (q100.2.1 + 1) q100.2.1 w112).bind fun q113 =>
  (cha q113.1 27 (wR q109 1005 a105)).bind fun a114 =>
  (ixa 7 a114.2).bind fun j115 =>
  (chk q113.1 6 (some q100.2.1)).bind fun a116 =>
  (some (tR q113.2.2 a114.1 j115 (some a116))).bind fun w117 =>
  (chk q113.1 9 (some o)).bind fun a118 =>
  (cha q113.1 27 (wR w117 1005 a118)).bind fun a119 =>
  (ixa 7 a119.2).bind fun j120 =>
  (chk q113.1 6 (aR w117 a119.1 j120)).bind fun a121 =>
  (f_X7_clear q113.1 a121 w117).bind fun q122 =>
  (some (kup q113.1 q113.2.1 (6, 0))).bind fun K124 =>
  (some (clr q122 q113.2.1)).bind fun w125 =>
  (f_X7_init K124 (q113.2.1 + 1) q113.2.1 w125).bind fun q126 =>
  (cha q126.1 27 (wR q122 1005 a118)).bind fun a127 =>
  (ixa 8 a127.2).bind fun j128 =>
  (chk q126.1 6 (some q113.2.1)).bind fun a129 =>
  (some (tR q126.2.2 a127.1 j128 (some a129))).bind fun w130 =>
  (chk q126.1 9 (some o)).bind fun a131 =>
  (cha q126.1 27 (wR w130 1005 a131)).bind fun a132 =>
  (ixa 8 a132.2).bind fun j133 =>
  (chk q126.1 6 (aR w130 a132.1 j133)).bind fun a134 =>
  (f_X7_clear q126.1 a134 w130).bind fun q135 =>
  (some (kup q126.1 q126.2.1 (6, 0))).bind fun K137 =>
  (some (clr q135 q126.2.1)).bind fun w138 =>
  (f_X7_init K137 (q126.2.1 + 1) q126.2.1 w138).bind fun q139 =>
  (cha q139.1 27 (wR q135 1005 a131)).bind fun a140 =>
  (ixa 9 a140.2).bind fun j141 =>
  (chk q139.1 6 (some q126.2.1)).bind fun a142 =>
  (some (tR q139.2.2 a140.1 j141 (some a142))).bind fun w143 =>
  (chk q139.1 9 (some o)).bind fun a144 =>
  (cha q139.1 27 (wR w143 1005 a144)).bind fun a145 =>
  (ixa 9 a145.2).bind fun j146 =>
  (chk q139.1 6 (aR w143 a145.1 j146)).bind fun a147 =>
  (f_X7_clear q139.1 a147 w143).bind fun q148 =>
  (some (kup q139.1 q139.2.1 (6, 0))).bind fun K150 =>
  (some (clr q148 q139.2.1)).bind fun w151 =>
  (f_X7_init K150 (q139.2.1 + 1) q139.2.1 w151).bind fun q152 =>
  (cha q152.1 27 (wR q148 1005 a144)).bind fun a153 =>
  (ixa 10 a153.2).bind fun j154 =>
  (chk q152.1 6 (some q139.2.1)).bind fun a155 =>
  (some (tR q152.2.2 a153.1 j154 (some a155))).bind fun w156 =>
  (chk q152.1 9 (some o)).bind fun a157 =>
  (cha q152.1 27 (wR w156 1005 a157)).bind fun a158 =>
  (ixa 10 a158.2).bind fun j159 =>
  (chk q152.1 6 (aR w156 a158.1 j159)).bind fun a160 =>
  (f_X7_clear q152.1 a160 w156).bind fun q161 =>
  (some (kup q152.1 q152.2.1 (6, 0))).bind fun K163 =>
  (some (clr q161 q152.2.1)).bind fun w164 =>
  (f_X7_init K163 (q152.2.1 + 1) q152.2.1 w164).bind fun q165 =>
  (cha q165.1 27 (wR q161 1005 a157)).bind fun a166 =>
  (ixa 11 a166.2).bind fun j167 =>
  (chk q165.1 6 (some q152.2.1)).bind fun a168 =>
  (some (tR q165.2.2 a166.1 j167 (some a168))).bind fun w169 =>
  (chk q165.1 9 (some o)).bind fun a170 =>
  (cha q165.1 27 (wR w169 1005 a170)).bind fun a171 =>
  (ixa 11 a171.2).bind fun j172 =>
  (chk q165.1 6 (aR w169 a171.1 j172)).bind fun a173 =>
  (f_X7_clear q165.1 a173 w169).bind fun q174 =>
  some (q165.1, q165.2.1, q174)

def f_X10_begin_L41 (K : Kd) (o : Nat) (k : Option Nat → Int32 → Wd → Option Wd) : Nat → Option Nat → Int32 → Wd → Option Wd
  | 0, _, _, _ => none
  | n + 1, v1_41, v2_41, w =>
    if 12 ≤ v2_41 then
      (k v1_41 v2_41 w)
    else
      ((chk K 8 v1_41).bind fun a12 =>
      (cha K 25 (wR w 909 a12)).bind fun a13 =>
      (ixa v2_41 a13.2).bind fun j14 =>
      (chk K 2 (aR w a13.1 j14)).bind fun a15 =>
      (cha K 20 (wR w 1004 o)).bind fun a16 =>
      (ixa v2_41 a16.2).bind fun j17 =>
      (some (tI w a16.1 j17 (wI w 306 a15))).bind fun w18 =>
      (cha K 27 (wR w18 1005 o)).bind fun a19 =>
      (ixa v2_41 a19.2).bind fun j20 =>
      (chk K 6 (aR w18 a19.1 j20)).bind fun a21 =>
      (f_X7_clear K a21 w18).bind fun q22 =>
      f_X10_begin_L41 K o k n v1_41 (v2_41 + 1) q22)

def f_X10_begin (K : Kd) (o : Nat) (a_1 : Option Nat) (w : Wd) : Option Wd :=
  (some (sR w 1000 o a_1)).bind fun w1 =>
  (some (sI w1 1001 o 0)).bind fun w2 =>
  (chk K 8 a_1).bind fun a3 =>
  (chk K 1 (wR w2 1002 o)).bind fun a4 =>
  (f_X2_copyFrom K a4 (wR w2 910 a3) w2).bind fun q5 =>
  (cha K 20 (wR q5 1003 o)).bind fun a6 =>
  (cha K 20 (wR q5 906 a3)).bind fun a7 =>
  (grd (¬ (0 : Int32) < 0 ∧ ¬ (0 : Int32) < 0 ∧ ¬ (nI a6.2) < 0 ∧ (0 : Int32).toNatClampNeg + (nI a6.2).toNatClampNeg ≤ a7.2 ∧ (0 : Int32).toNatClampNeg + (nI a6.2).toNatClampNeg ≤ a6.2)).bind fun _ =>
  (some (tA q5 a6.1 (va_cpy (aI q5 a7.1) (aI q5 a6.1) (0 : Int32).toNatClampNeg (0 : Int32).toNatClampNeg (nI a6.2).toNatClampNeg))).bind fun w9 =>
  f_X10_begin_L41 K o (fun v1_41 v2_41 w10 =>
    some w10) fu a_1 0 w9

def f_X10_countBars_L4 (K : Kd) (o : Nat) (k : Int32 → Int32 → Wd → Option (Int32 × Wd)) : Nat → Int32 → Int32 → Wd → Option (Int32 × Wd)
  | 0, _, _, _ => none
  | n + 1, v1_4, v2_4, w =>
    (chk K 8 (wR w 1000 o)).bind fun a2 =>
    (f_X9_size K a2 3 w).bind fun q3 =>
    if q3.1 ≤ v2_4 then
      (k v1_4 v2_4 q3.2)
    else
      ((cha K 20 (wR q3.2 1004 o)).bind fun a5 =>
      (ixa v2_4 a5.2).bind fun j6 =>
      (f_J6_bitCount_0f7a4 K (aI q3.2 a5.1 j6) q3.2).bind fun q7 =>
      f_X10_countBars_L4 K o k n (v1_4 + q7.1) (v2_4 + 1) q7.2)

def f_X10_countBars (K : Kd) (o : Nat) (w : Wd) : Option (Int32 × Wd) :=
  f_X10_countBars_L4 K o (fun v1_4 v2_4 w1 =>
    some (v1_4, w1)) fu 0 0 w

def f_X10_caseTaking_L3 (K : Kd) (o : Nat) (k : Int32 → Int32 → Int32 → Int32 → Wd → Option (Int32 × Wd)) : Nat → Int32 → Int32 → Int32 → Int32 → Wd → Option (Int32 × Wd)
  | 0, _, _, _, _, _ => none
  | n + 1, v1_3, v2_3, v3_3, v4_3, w =>
    (chk K 8 (wR w 1000 o)).bind fun a2 =>
    (f_X9_size K a2 3 w).bind fun q3 =>
    if q3.1 ≤ v4_3 then
      (k v1_3 v2_3 v3_3 v4_3 q3.2)
    else
      ((cha K 27 (wR q3.2 1005 o)).bind fun a5 =>
      (ixa v4_3 a5.2).bind fun j6 =>
      (chk K 6 (aR q3.2 a5.1 j6)).bind fun a7 =>
      (f_X7_isOn K a7 v2_3 q3.2).bind fun q8 =>
      if (b2i q8.1) = 0 then
        (f_X10_caseTaking_L3 K o k n v1_3 v2_3 v3_3 (v4_3 + 1) q8.2)
      else
        ((cha K 27 (wR q8.2 1005 o)).bind fun a10 =>
        (ixa v4_3 a10.2).bind fun j11 =>
        (chk K 6 (aR q8.2 a10.1 j11)).bind fun a12 =>
        if (wI q8.2 704 a12) = v1_3 then
          ((f_X10_slotsOf K o v4_3 q8.2).bind fun q14 =>
          (f_X12_has K q14.1 v3_3 q14.2).bind fun q15 =>
          if (b2i q15.1) = 0 then
            (f_X10_caseTaking_L3 K o k n v1_3 v2_3 v3_3 (v4_3 + 1) q15.2)
          else
            (some (v4_3, q15.2)))
        else
          (f_X10_caseTaking_L3 K o k n v1_3 v2_3 v3_3 (v4_3 + 1) q8.2)))

def f_X10_caseTaking (K : Kd) (o : Nat) (a_1 : Int32) (a_2 : Int32) (a_3 : Int32) (w : Wd) : Option (Int32 × Wd) :=
  f_X10_caseTaking_L3 K o (fun v1_3 v2_3 v3_3 v4_3 w1 =>
    some ((-1), w1)) fu a_1 a_2 a_3 0 w

def f_X10_sortWaiting_L4 (K : Kd) (o : Nat) (k : Option Nat → Int32 → Int32 → Wd → Option (Int32 × Wd)) : Nat → Option Nat → Int32 → Int32 → Wd → Option (Int32 × Wd)
  | 0, _, _, _, _ => none
  | n + 1, v1_4, v2_4, v3_4, w =>
    (chk K 8 (wR w 1000 o)).bind fun a2 =>
    (f_X9_size K a2 3 w).bind fun q3 =>
    if q3.1 ≤ v3_4 then
      (k v1_4 v2_4 v3_4 q3.2)
    else
      ((cha K 20 v1_4).bind fun a5 =>
      if (nI a5.2) ≤ v2_4 then
        (k v1_4 v2_4 v3_4 q3.2)
      else
        ((cha K 27 (wR q3.2 1005 o)).bind fun a7 =>
        (ixa v3_4 a7.2).bind fun j8 =>
        (chk K 6 (aR q3.2 a7.1 j8)).bind fun a9 =>
        if (wI q3.2 700 a9) = 0 then
          ((f_X10_urgencyKey K o v3_4 q3.2).bind fun q11 =>
          (f_X10_insert K v1_4 v2_4 q11.1 q11.2).bind fun q12 =>
          f_X10_sortWaiting_L4 K o k n v1_4 (v2_4 + 1) (v3_4 + 1) q12)
        else
          (f_X10_sortWaiting_L4 K o k n v1_4 v2_4 (v3_4 + 1) q3.2)))

def f_X10_sortWaiting_L55 (K : Kd) (o : Nat) (k : Option Nat → Int32 → Int32 → Wd → Option (Int32 × Wd)) : Nat → Option Nat → Int32 → Int32 → Wd → Option (Int32 × Wd)
  | 0, _, _, _, _ => none
  | n + 1, v1_55, v2_55, v3_55, w =>
    if v2_55 ≤ v3_55 then
      (k v1_55 v2_55 v3_55 w)
    else
      ((cha K 20 v1_55).bind fun a15 =>
      (ixa v3_55 a15.2).bind fun j16 =>
      (ixa v3_55 a15.2).bind fun j17 =>
      (some (tI w a15.1 j17 ((aI w a15.1 j16) - (aI w a15.1 j16) / 12 * 12))).bind fun w18 =>
      f_X10_sortWaiting_L55 K o k n v1_55 v2_55 (v3_55 + 1) w18)

def f_X10_sortWaiting (K : Kd) (o : Nat) (a_1 : Option Nat) (w : Wd) : Option (Int32 × Wd) :=
  f_X10_sortWaiting_L4 K o (fun v1_4 v2_4 v3_4 w1 =>
    f_X10_sortWaiting_L55 K o (fun v1_55 v2_55 v3_55 w13 =>
      some (v2_55, w13)) fu v1_4 v2_4 0 w1) fu a_1 0 0 w

def f_J0_checkIndex_df160 (K : Kd) (a_0 : Int32) (a_1 : Int32) (w : Wd) : Option Wd :=
  (f_J3_checkIndex_8e157 K a_0 a_1 w).bind fun q2 =>
  some q2.2

def f_J0_length_8abf5 (K : Kd) (o : Nat) (w : Wd) : Option (Int32 × Wd) :=
  (cha K 21 (wR w 2000 o)).bind fun a1 =>
  (f_J0_coder_7d493 K o w).bind fun q2 =>
  some (((nI a1.2) >>> (q2.1 &&& 31)), q2.2)

def f_CJ0_length_8abf5 (K : Kd) (i : Nat) (w : Wd) : Option (Int32 × Wd) :=
  (f_CJ0_coder_7d493 K i w).bind fun q1 =>
  some (((nI (strL.getD i 0)) >>> (q1.1 &&& 31)), q1.2)

def f_CJ5_append_cf1ce (K : Kd) (n : Nat) (o : Nat) (i : Nat) (w : Wd) : Option (Kd × Nat × Option Nat × Wd) :=
  (f_CJ0_length_8abf5 K i w).bind fun q1 =>
  (chk K 12 (some o)).bind fun a2 =>
  (f_J5_ensureCapacityInternal_d00df K n a2 ((wI q1.2 2103 a2) + q1.1) q1.2).bind fun q3 =>
  (chk q3.1 12 (some o)).bind fun a4 =>
  (f_CJ5_putStringAt_47b60 q3.1 a4 (wI q3.2.2 2103 a4) i q3.2.2).bind fun q5 =>
  (some (sI q5 2103 a4 ((wI q5 2103 a4) + q1.1))).bind fun w6 =>
  some (q3.1, q3.2.1, (some o), w6)

def f_CJ4_append_15ec4 (K : Kd) (n : Nat) (o : Nat) (i : Nat) (w : Wd) : Option (Kd × Nat × Option Nat × Wd) :=
  (chk K 12 (some o)).bind fun a1 =>
  (f_CJ5_append_cf1ce K n a1 i w).bind fun q2 =>
  some (q2.1, q2.2.1, (some o), q2.2.2.2)

def f_NX12_adjournment (K : Kd) (o : Nat) (a_1 : Int32) (a_2 : Int32) (a_3 : Int32) (w : Wd) : Option (Int32 × Wd) :=
  (f_NX12_requireExisting K o 3 a_1 w).bind fun q1 =>
  (chk K 9 (wR q1 1205 o)).bind fun a2 =>
  (cha K 27 (wR q1 1005 a2)).bind fun a3 =>
  (ixa a_1 a3.2).bind fun j4 =>
  if a_2 < 0 then
    (none)
  else
    ((chk K 6 (aR q1 a3.1 j4)).bind fun a6 =>
    if (wI q1 706 a6) ≤ a_2 then
      (none)
    else
      (if a_3 < 0 then
        (none)
      else
        (if a_3 < 4 then
          ((cha K 20 (wR q1 707 a6)).bind fun a10 =>
          (ixa ((a_2 * 4) + a_3) a10.2).bind fun j11 =>
          some ((aI q1 a10.1 j11), q1))
        else
          (none))))

def f_NX12_caseAt (K : Kd) (o : Nat) (a_1 : Int32) (a_2 : Int32) (a_3 : Int32) (w : Wd) : Option (Int32 × Wd) :=
  (f_NX12_requireExisting K o 0 a_1 w).bind fun q1 =>
  (f_NX12_requireDay K o a_2 q1).bind fun q2 =>
  (f_NX12_requireSlot K o a_3 q2).bind fun q3 =>
  (chk K 9 (wR q3 1205 o)).bind fun a4 =>
  (f_X10_caseTaking K a4 a_1 a_2 a_3 q3).bind fun q5 =>
  some (q5.1, q5.2)

def f_NX12_hearing (K : Kd) (o : Nat) (a_1 : Int32) (a_2 : Int32) (w : Wd) : Option (Int32 × Wd) :=
  (f_NX12_requireExisting K o 3 a_1 w).bind fun q1 =>
  (chk K 9 (wR q1 1205 o)).bind fun a2 =>
  (cha K 27 (wR q1 1005 a2)).bind fun a3 =>
  (ixa a_1 a3.2).bind fun j4 =>
  if a_2 < 0 ∨ 3 < a_2 then
    (none)
  else if a_2 = 0 then
    ((chk K 6 (aR q1 a3.1 j4)).bind fun a7 =>
    some ((wI q1 702 a7), q1))
  else if a_2 = 1 then
    ((chk K 6 (aR q1 a3.1 j4)).bind fun a9 =>
    some ((wI q1 703 a9), q1))
  else if a_2 = 2 then
    ((chk K 6 (aR q1 a3.1 j4)).bind fun a11 =>
    some ((wI q1 704 a11), q1))
  else if a_2 = 3 then
    ((chk K 6 (aR q1 a3.1 j4)).bind fun a13 =>
    some ((wI q1 705 a13), q1))
  else none

def f_NX12_lapsesIn (K : Kd) (o : Nat) (a_1 : Int32) (w : Wd) : Option (Int32 × Wd) :=
  (f_NX12_requirePassable K o a_1 w).bind fun q1 =>
  (chk K 9 (wR q1 1205 o)).bind fun a2 =>
  (f_X10_countPhase K a2 3 q1).bind fun q3 =>
  (chk K 9 (wR q3.2 1208 o)).bind fun a4 =>
  (f_X10_copyFrom K a4 (wR q3.2 1205 o) q3.2).bind fun q5 =>
  (chk K 9 (wR q5 1208 o)).bind fun a6 =>
  (f_X10_passDays K a6 a_1 q5).bind fun q7 =>
  (chk K 9 (wR q7.2 1208 o)).bind fun a8 =>
  (f_X10_countPhase K a8 3 q7.2).bind fun q9 =>
  some ((q9.1 - q3.1), q9.2)

def f_NX12_load (K : Kd) (o : Nat) (a_1 : Int32) (w : Wd) : Option (Int32 × Wd) :=
  (f_NX12_requireExisting K o 1 a_1 w).bind fun q1 =>
  (chk K 9 (wR q1 1205 o)).bind fun a2 =>
  (f_X10_loadOf K a2 a_1 q1).bind fun q3 =>
  some (q3.1, q3.2)

def f_NX12_matter (K : Kd) (o : Nat) (a_1 : Int32) (a_2 : Int32) (w : Wd) : Option (Int32 × Wd) :=
  (f_NX12_requireExisting K o 3 a_1 w).bind fun q1 =>
  (chk K 9 (wR q1 1205 o)).bind fun a2 =>
  (chk K 8 (wR q1 1000 a2)).bind fun a3 =>
  (cha K 25 (wR q1 909 a3)).bind fun a4 =>
  (ixa a_1 a4.2).bind fun j5 =>
  (cha K 27 (wR q1 1005 a2)).bind fun a6 =>
  (ixa a_1 a6.2).bind fun j7 =>
  if a_2 < 0 ∨ 9 < a_2 then
    (none)
  else if a_2 = 0 then
    ((chk K 2 (aR q1 a4.1 j5)).bind fun a10 =>
    some ((wI q1 300 a10), q1))
  else if a_2 = 1 then
    ((chk K 2 (aR q1 a4.1 j5)).bind fun a12 =>
    some ((wI q1 301 a12), q1))
  else if a_2 = 2 then
    ((chk K 2 (aR q1 a4.1 j5)).bind fun a14 =>
    some ((wI q1 302 a14), q1))
  else if a_2 = 3 then
    ((chk K 6 (aR q1 a6.1 j7)).bind fun a16 =>
    some ((wI q1 701 a16), q1))
  else if a_2 = 4 then
    ((f_X10_limitDay K a2 a_1 q1).bind fun q18 =>
    some (q18.1, q18.2))
  else if a_2 = 5 then
    ((chk K 6 (aR q1 a6.1 j7)).bind fun a20 =>
    some ((wI q1 700 a20), q1))
  else if a_2 = 6 then
    ((chk K 2 (aR q1 a4.1 j5)).bind fun a22 =>
    if (b2i (wZ q1 303 a22)) = 0 then
      (some (0, q1))
    else
      (some (1, q1)))
  else if a_2 = 7 then
    ((chk K 6 (aR q1 a6.1 j7)).bind fun a25 =>
    some ((wI q1 706 a25), q1))
  else if a_2 = 8 then
    ((chk K 2 (aR q1 a4.1 j5)).bind fun a27 =>
    (f_J6_bitCount_0f7a4 K (wI q1 304 a27) q1).bind fun q28 =>
    some (q28.1, q28.2))
  else if a_2 = 9 then
    ((chk K 2 (aR q1 a4.1 j5)).bind fun a30 =>
    (f_J6_bitCount_0f7a4 K (wI q1 305 a30) q1).bind fun q31 =>
    some (q31.1, q31.2))
  else none

def f_NX12_pass (K : Kd) (o : Nat) (a_1 : Int32) (w : Wd) : Option (Int32 × Wd) :=
  (f_NX12_requirePassable K o a_1 w).bind fun q1 =>
  (f_X12_remember K o q1).bind fun q2 =>
  (chk K 9 (wR q2 1205 o)).bind fun a3 =>
  (f_X10_passDays K a3 a_1 q2).bind fun q4 =>
  some (q4.1, q4.2)

def f_NX12_requireHearing (K : Kd) (o : Nat) (a_1 : Int32) (a_2 : Int32) (a_3 : Int32) (a_4 : Int32) (a_5 : Int32) (w : Wd) : Option Wd :=
  (f_NX12_requireExisting K o 3 a_1 w).bind fun q1 =>
  (f_NX12_requireExisting K o 0 a_4 q1).bind fun q2 =>
  (f_NX12_requireExisting K o 1 a_5 q2).bind fun q3 =>
  (f_NX12_requireDay K o a_2 q3).bind fun q4 =>
  (f_NX12_requireSlot K o a_3 q4).bind fun q5 =>
  some q5

def f_X12_count (K : Kd) (o : Nat) (a_1 : Int32) (w : Wd) : Option (Int32 × Wd) :=
  if a_1 < 0 ∨ 13 < a_1 then
    (some ((-1), w))
  else if a_1 = 0 then
    ((chk K 9 (wR w 1205 o)).bind fun a3 =>
    (chk K 8 (wR w 1000 a3)).bind fun a4 =>
    (f_X9_size K a4 0 w).bind fun q5 =>
    some (q5.1, q5.2))
  else if a_1 = 1 then
    ((chk K 9 (wR w 1205 o)).bind fun a7 =>
    (chk K 8 (wR w 1000 a7)).bind fun a8 =>
    (f_X9_size K a8 1 w).bind fun q9 =>
    some (q9.1, q9.2))
  else if a_1 = 2 then
    ((chk K 9 (wR w 1205 o)).bind fun a11 =>
    (chk K 8 (wR w 1000 a11)).bind fun a12 =>
    (f_X9_size K a12 2 w).bind fun q13 =>
    some (q13.1, q13.2))
  else if a_1 = 3 then
    ((chk K 9 (wR w 1205 o)).bind fun a15 =>
    (chk K 8 (wR w 1000 a15)).bind fun a16 =>
    (f_X9_size K a16 3 w).bind fun q17 =>
    some (q17.1, q17.2))
  else if a_1 = 4 then
    ((chk K 9 (wR w 1205 o)).bind fun a19 =>
    (chk K 1 (wR w 1002 a19)).bind fun a20 =>
    some ((wI w 201 a20), w))
  else if a_1 = 5 then
    ((chk K 9 (wR w 1205 o)).bind fun a22 =>
    (f_X10_countBars K a22 w).bind fun q23 =>
    some (q23.1, q23.2))
  else if a_1 = 6 then
    ((chk K 9 (wR w 1205 o)).bind fun a25 =>
    (chk K 8 (wR w 1000 a25)).bind fun a26 =>
    (f_X9_countConflicts K a26 w).bind fun q27 =>
    some (q27.1, q27.2))
  else if a_1 = 7 then
    ((chk K 9 (wR w 1205 o)).bind fun a29 =>
    some ((wI w 1001 a29), w))
  else if a_1 = 8 then
    ((chk K 9 (wR w 1205 o)).bind fun a31 =>
    (chk K 8 (wR w 1000 a31)).bind fun a32 =>
    some ((wI w 913 a32), w))
  else if a_1 = 9 then
    (some ((wI w 1210 o), w))
  else if a_1 = 10 then
    ((chk K 9 (wR w 1205 o)).bind fun a35 =>
    (f_X10_countPhase K a35 0 w).bind fun q36 =>
    some (q36.1, q36.2))
  else if a_1 = 11 then
    ((chk K 9 (wR w 1205 o)).bind fun a38 =>
    (f_X10_countPhase K a38 1 w).bind fun q39 =>
    some (q39.1, q39.2))
  else if a_1 = 12 then
    ((chk K 9 (wR w 1205 o)).bind fun a41 =>
    (f_X10_countPhase K a41 2 w).bind fun q42 =>
    some (q42.1, q42.2))
  else if a_1 = 13 then
    ((chk K 9 (wR w 1205 o)).bind fun a44 =>
    (f_X10_countPhase K a44 3 w).bind fun q45 =>
    some (q45.1, q45.2))
  else none

def f_X12_adjourn (K : Kd) (o : Nat) (a_1 : Int32) (a_2 : Int32) (w : Wd) : Option ((Int32 ⊕ Nat) × Wd) :=
  (f_X12_requireExisting K o 3 a_1 w).bind fun q1 =>
  xk q1 fun _ =>
  (f_X12_requireReason K o a_2 q1.2).bind fun q3 =>
  xk q3 fun _ =>
  (chk K 9 (wR q3.2 1205 o)).bind fun a5 =>
  (cha K 27 (wR q3.2 1005 a5)).bind fun a6 =>
  (ixa a_1 a6.2).bind fun j7 =>
  (chk K 6 (aR q3.2 a6.1 j7)).bind fun a8 =>
  if (wI q3.2 700 a8) = 1 then
    (if (wI q3.2 706 a8) < 5 then
      ((f_X12_remember K o q3.2).bind fun q11 =>
      (chk K 9 (wR q11 1205 o)).bind fun a12 =>
      (f_X10_takeAway K a12 a_1 a_2 q11).bind fun q13 =>
      (chk K 9 (wR q13 1205 o)).bind fun a14 =>
      (f_X10_limitDay K a14 a_1 q13).bind fun q15 =>
      some (.inl q15.1, q15.2))
    else
      (some (.inr 3, q3.2)))
  else
    (some (.inr 3, q3.2))

def f_X12_withdraw_L44 (K : Kd) (o : Nat) (k : Int32 → Int32 → Int32 → Int32 → Wd → Option ((Int32 ⊕ Nat) × Wd)) : Nat → Int32 → Int32 → Int32 → Int32 → Wd → Option ((Int32 ⊕ Nat) × Wd)
  | 0, _, _, _, _, _ => none
  | n + 1, v1_44, v2_44, v3_44, v4_44, w =>
    (chk K 9 (wR w 1205 o)).bind fun a12 =>
    (chk K 8 (wR w 1000 a12)).bind fun a13 =>
    (f_X9_size K a13 3 w).bind fun q14 =>
    if q14.1 ≤ v4_44 then
      (k v1_44 v2_44 v3_44 v4_44 q14.2)
    else
      ((chk K 9 (wR q14.2 1205 o)).bind fun a16 =>
      (cha K 27 (wR q14.2 1005 a16)).bind fun a17 =>
      (ixa v4_44 a17.2).bind fun j18 =>
      (chk K 8 (wR q14.2 1000 a16)).bind fun a19 =>
      (cha K 25 (wR q14.2 909 a19)).bind fun a20 =>
      (ixa v4_44 a20.2).bind fun j21 =>
      (chk K 2 (aR q14.2 a20.1 j21)).bind fun a22 =>
      (f_X12_has K (wI q14.2 304 a22) v1_44 q14.2).bind fun q23 =>
      (chk K 6 (aR q14.2 a17.1 j18)).bind fun a24 =>
      if (wI q23.2 700 a24) = 1 then
        (if (wI q23.2 702 a24) < v2_44 then
          (f_X12_withdraw_L44 K o k n v1_44 v2_44 v3_44 (v4_44 + 1) q23.2)
        else
          (if (b2i q23.1) = 0 then
            (f_X12_withdraw_L44 K o k n v1_44 v2_44 v3_44 (v4_44 + 1) q23.2)
          else
            ((chk K 9 (wR q23.2 1205 o)).bind fun a28 =>
            (f_X10_takeAway K a28 v4_44 0 q23.2).bind fun q29 =>
            f_X12_withdraw_L44 K o k n v1_44 v2_44 (v3_44 + 1) (v4_44 + 1) q29)))
      else
        (f_X12_withdraw_L44 K o k n v1_44 v2_44 v3_44 (v4_44 + 1) q23.2))

def f_X12_withdraw (K : Kd) (o : Nat) (a_1 : Int32) (a_2 : Int32) (w : Wd) : Option ((Int32 ⊕ Nat) × Wd) :=
  (f_X12_requireExisting K o 2 a_1 w).bind fun q1 =>
  xk q1 fun _ =>
  (f_X12_requireComingDay K o a_2 q1.2).bind fun q3 =>
  xk q3 fun _ =>
  (f_X12_remember K o q3.2).bind fun q5 =>
  (chk K 9 (wR q5 1205 o)).bind fun a6 =>
  (cha K 20 (wR q5 1003 a6)).bind fun a7 =>
  (ixa a_1 a7.2).bind fun j8 =>
  (ixa a_1 a7.2).bind fun j9 =>
  (some (tI q5 a7.1 j9 (imin (aI q5 a7.1 j8) (a_2 - 1)))).bind fun w10 =>
  f_X12_withdraw_L44 K o (fun v1_44 v2_44 v3_44 v4_44 w11 =>
    some (.inl v3_44, w11)) fu a_1 a_2 0 0 w10

def f_X12_addHoliday_L58 (K : Kd) (o : Nat) (k : Int32 → Int32 → Int32 → Wd → Option ((Int32 ⊕ Nat) × Wd)) : Nat → Int32 → Int32 → Int32 → Wd → Option ((Int32 ⊕ Nat) × Wd)
  | 0, _, _, _, _ => none
  | n + 1, v1_58, v2_58, v3_58, w =>
    (chk K 9 (wR w 1205 o)).bind fun a14 =>
    (chk K 8 (wR w 1000 a14)).bind fun a15 =>
    (f_X9_size K a15 3 w).bind fun q16 =>
    if q16.1 ≤ v3_58 then
      (k v1_58 v2_58 v3_58 q16.2)
    else
      ((chk K 9 (wR q16.2 1205 o)).bind fun a18 =>
      (cha K 27 (wR q16.2 1005 a18)).bind fun a19 =>
      (ixa v3_58 a19.2).bind fun j20 =>
      (chk K 6 (aR q16.2 a19.1 j20)).bind fun a21 =>
      if (wI q16.2 700 a21) = 1 then
        (if (wI q16.2 702 a21) = v1_58 then
          ((f_X10_takeAway K a18 v3_58 3 q16.2).bind fun q24 =>
          f_X12_addHoliday_L58 K o k n v1_58 (v2_58 + 1) (v3_58 + 1) q24)
        else
          (f_X12_addHoliday_L58 K o k n v1_58 v2_58 (v3_58 + 1) q16.2))
      else
        (f_X12_addHoliday_L58 K o k n v1_58 v2_58 (v3_58 + 1) q16.2))

def f_X12_addHoliday (K : Kd) (o : Nat) (a_1 : Int32) (w : Wd) : Option ((Int32 ⊕ Nat) × Wd) :=
  (f_X12_requireComingDay K o a_1 w).bind fun q1 =>
  xk q1 fun _ =>
  (chk K 9 (wR q1.2 1205 o)).bind fun a3 =>
  (f_X10_works K a3 a_1 q1.2).bind fun q4 =>
  if (b2i q4.1) = 0 then
    (some (.inr 3, q4.2))
  else
    ((chk K 9 (wR q4.2 1205 o)).bind fun a6 =>
    (chk K 1 (wR q4.2 1002 a6)).bind fun a7 =>
    if (wI q4.2 201 a7) < 20 then
      ((f_X12_remember K o q4.2).bind fun q9 =>
      (chk K 9 (wR q9 1205 o)).bind fun a10 =>
      (chk K 1 (wR q9 1002 a10)).bind fun a11 =>
      (f_X2_add K a11 a_1 q9).bind fun q12 =>
      f_X12_addHoliday_L58 K o (fun v1_58 v2_58 v3_58 w13 =>
        some (.inl v2_58, w13)) fu a_1 0 0 q12)
    else
      (some (.inr 3, q4.2)))

def f_X12_addBar (K : Kd) (o : Nat) (a_1 : Int32) (a_2 : Int32) (w : Wd) : Option ((Bool ⊕ Nat) × Wd) :=
  (f_X12_requireExisting K o 1 a_1 w).bind fun q1 =>
  xk q1 fun _ =>
  (f_X12_requireExisting K o 3 a_2 q1.2).bind fun q3 =>
  xk q3 fun _ =>
  (chk K 9 (wR q3.2 1205 o)).bind fun a5 =>
  (cha K 20 (wR q3.2 1004 a5)).bind fun a6 =>
  (ixa a_2 a6.2).bind fun j7 =>
  (f_X12_has K (aI q3.2 a6.1 j7) a_1 q3.2).bind fun q8 =>
  if (b2i q8.1) = 0 then
    ((f_X12_remember K o q8.2).bind fun q10 =>
    (chk K 9 (wR q10 1205 o)).bind fun a11 =>
    (cha K 20 (wR q10 1004 a11)).bind fun a12 =>
    (ixa a_2 a12.2).bind fun j13 =>
    (ixa a_2 a12.2).bind fun j14 =>
    (some (tI q10 a12.1 j14 ((aI q10 a12.1 j13) ||| (1 <<< (a_1 &&& 31))))).bind fun w15 =>
    (chk K 9 (wR w15 1205 o)).bind fun a16 =>
    (cha K 27 (wR w15 1005 a16)).bind fun a17 =>
    (ixa a_2 a17.2).bind fun j18 =>
    (chk K 6 (aR w15 a17.1 j18)).bind fun a19 =>
    if (wI w15 700 a19) = 1 then
      (if (wI w15 705 a19) = a_1 then
        ((f_X10_takeAway K a16 a_2 1 w15).bind fun q25 =>
        some (.inl true, q25))
      else
        (some (.inl false, w15)))
    else
      (some (.inl false, w15)))
  else
    (some (.inr 3, q8.2))

def f_X5_takesHoliday (K : Kd) (o : Nat) (w : Wd) : Option (Bool × Wd) :=
  (chk K 8 (wR w 501 o)).bind fun a1 =>
  (chk K 1 (wR w 910 a1)).bind fun a2 =>
  if (wI w 201 a2) < 20 then
    ((chk K 7 (wR w 500 o)).bind fun a4 =>
    (f_X8_advance K a4 w).bind fun q5 =>
    (f_X5_seesNumber K o 0 599 q5).bind fun q6 =>
    if (b2i q6.1) = 0 then
      (some (false, q6.2))
    else
      ((chk K 8 (wR q6.2 501 o)).bind fun a8 =>
      (chk K 7 (wR q6.2 500 o)).bind fun a9 =>
      (chk K 1 (wR q6.2 910 a8)).bind fun a10 =>
      (f_X2_contains K a10 (wI q6.2 806 a9) q6.2).bind fun q11 =>
      if (b2i q11.1) = 0 then
        ((chk K 8 (wR q11.2 501 o)).bind fun a13 =>
        (chk K 7 (wR q11.2 500 o)).bind fun a14 =>
        (chk K 1 (wR q11.2 910 a13)).bind fun a15 =>
        (f_X2_add K a15 (wI q11.2 806 a14) q11.2).bind fun q16 =>
        (chk K 7 (wR q16 500 o)).bind fun a17 =>
        (f_X8_advance K a17 q16).bind fun q18 =>
        some (true, q18))
      else
        ((f_X5_fail K o 3 q11.2).bind fun q19 =>
        some (q19.1, q19.2))))
  else
    ((f_X5_fail K o 4 w).bind fun q20 =>
    some (q20.1, q20.2))

def f_X5_takesNeeds_L2 (K : Kd) (o : Nat) (k : Option Nat → Int32 → Wd → Option (Bool × Wd)) : Nat → Option Nat → Int32 → Wd → Option (Bool × Wd)
  | 0, _, _, _ => none
  | n + 1, v1_2, v2_2, w =>
    (chk K 7 (wR w 500 o)).bind fun a2 =>
    (grd (tkB (wR w 804 a2) = true)).bind fun _ =>
    if (wR w 804 a2) = (some 11) then
      (if v2_2 < 4 then
        ((f_X8_advance K a2 w).bind fun q6 =>
        (f_X5_seesToldName K o 2 q6).bind fun q7 =>
        if (b2i q7.1) = 0 then
          (some (false, q7.2))
        else
          ((chk K 2 v1_2).bind fun a9 =>
          (f_X12_has K (wI q7.2 304 a9) (wI q7.2 504 o) q7.2).bind fun q10 =>
          if (b2i q10.1) = 0 then
            ((some (sI q10.2 304 a9 ((wI q10.2 304 a9) ||| (1 <<< ((wI q10.2 504 o) &&& 31))))).bind fun w12 =>
            (chk K 7 (wR w12 500 o)).bind fun a13 =>
            (f_X8_advance K a13 w12).bind fun q14 =>
            f_X5_takesNeeds_L2 K o k n v1_2 (v2_2 + 1) q14)
          else
            ((f_X5_fail K o 3 q10.2).bind fun q15 =>
            some (q15.1, q15.2))))
      else
        ((f_X5_fail K o 4 w).bind fun q16 =>
        some (q16.1, q16.2)))
    else
      (k v1_2 v2_2 w)

def f_X5_takesNeeds (K : Kd) (o : Nat) (a_1 : Option Nat) (w : Wd) : Option (Bool × Wd) :=
  f_X5_takesNeeds_L2 K o (fun v1_2 v2_2 w1 =>
    some (true, w1)) fu a_1 0 w

def f_X5_takesBar (K : Kd) (o : Nat) (w : Wd) : Option (Bool × Wd) :=
  (chk K 7 (wR w 500 o)).bind fun a1 =>
  (f_X8_advance K a1 w).bind fun q2 =>
  (f_X5_seesToldName K o 1 q2).bind fun q3 =>
  if (b2i q3.1) = 0 then
    (some (false, q3.2))
  else
    ((chk K 7 (wR q3.2 500 o)).bind fun a5 =>
    (f_X8_advance K a5 q3.2).bind fun q6 =>
    (f_X5_seesToldName K o 3 q6).bind fun q7 =>
    if (b2i q7.1) = 0 then
      (some (false, q7.2))
    else
      ((chk K 8 (wR q7.2 501 o)).bind fun a9 =>
      (cha K 25 (wR q7.2 909 a9)).bind fun a10 =>
      (ixa (wI q7.2 504 o) a10.2).bind fun j11 =>
      (chk K 2 (aR q7.2 a10.1 j11)).bind fun a12 =>
      (f_X12_has K (wI q7.2 306 a12) (wI q3.2 504 o) q7.2).bind fun q13 =>
      if (b2i q13.1) = 0 then
        ((some (sI q13.2 306 a12 ((wI q13.2 306 a12) ||| (1 <<< ((wI q3.2 504 o) &&& 31))))).bind fun w15 =>
        (chk K 7 (wR w15 500 o)).bind fun a16 =>
        (f_X8_advance K a16 w15).bind fun q17 =>
        some (true, q17))
      else
        ((f_X5_fail K o 3 q13.2).bind fun q18 =>
        some (q18.1, q18.2))))

def f_X5_takesConflict (K : Kd) (o : Nat) (w : Wd) : Option (Bool × Wd) :=
  (chk K 7 (wR w 500 o)).bind fun a1 =>
  (f_X8_advance K a1 w).bind fun q2 =>
  (f_X5_seesToldName K o 3 q2).bind fun q3 =>
  if (b2i q3.1) = 0 then
    (some (false, q3.2))
  else
    ((chk K 7 (wR q3.2 500 o)).bind fun a5 =>
    (f_X8_advance K a5 q3.2).bind fun q6 =>
    (f_X5_seesToldName K o 3 q6).bind fun q7 =>
    if (b2i q7.1) = 0 then
      (some (false, q7.2))
    else
      (if (wI q7.2 504 o) = (wI q3.2 504 o) then
        ((f_X5_fail K o 3 q7.2).bind fun q10 =>
        some (q10.1, q10.2))
      else
        ((chk K 8 (wR q7.2 501 o)).bind fun a11 =>
        (cha K 25 (wR q7.2 909 a11)).bind fun a12 =>
        (ixa (wI q3.2 504 o) a12.2).bind fun j13 =>
        (chk K 2 (aR q7.2 a12.1 j13)).bind fun a14 =>
        (f_X12_has K (wI q7.2 305 a14) (wI q7.2 504 o) q7.2).bind fun q15 =>
        if (b2i q15.1) = 0 then
          ((chk K 8 (wR q15.2 501 o)).bind fun a17 =>
          (cha K 25 (wR q15.2 909 a17)).bind fun a18 =>
          (ixa (wI q3.2 504 o) a18.2).bind fun j19 =>
          (chk K 2 (aR q15.2 a18.1 j19)).bind fun a20 =>
          (some (sI q15.2 305 a20 ((wI q15.2 305 a20) ||| (1 <<< ((wI q7.2 504 o) &&& 31))))).bind fun w21 =>
          (chk K 8 (wR w21 501 o)).bind fun a22 =>
          (cha K 25 (wR w21 909 a22)).bind fun a23 =>
          (ixa (wI q7.2 504 o) a23.2).bind fun j24 =>
          (chk K 2 (aR w21 a23.1 j24)).bind fun a25 =>
          (some (sI w21 305 a25 ((wI w21 305 a25) ||| (1 <<< ((wI q3.2 504 o) &&& 31))))).bind fun w26 =>
          (chk K 7 (wR w26 500 o)).bind fun a27 =>
          (f_X8_advance K a27 w26).bind fun q28 =>
          some (true, q28))
        else
          ((f_X5_fail K o 3 q15.2).bind fun q29 =>
          some (q29.1, q29.2)))))

def f_X5_takes (K : Kd) (o : Nat) (a_1 : Option Nat) (w : Wd) : Option (Bool × Wd) :=
  (chk K 7 (wR w 500 o)).bind fun a1 =>
  (grd (tkB (wR w 804 a1) = true)).bind fun _ =>
  (grd (tkB a_1 = true)).bind fun _ =>
  if (wR w 804 a1) = a_1 then
    ((f_X8_advance K a1 w).bind fun q5 =>
    some (true, q5))
  else
    ((f_X5_fail K o 1 w).bind fun q6 =>
    some (q6.1, q6.2))

def f_X5_takesNewName (K : Kd) (o : Nat) (a_1 : Int32) (w : Wd) : Option (Bool × Wd) :=
  (chk K 8 (wR w 501 o)).bind fun a1 =>
  (cha K 26 (wR w 900 a1)).bind fun a2 =>
  (ixa a_1 a2.2).bind fun j3 =>
  (chk K 3 (aR w a2.1 j3)).bind fun a4 =>
  (f_X4_isFull K a4 w).bind fun q5 =>
  if (b2i q5.1) = 0 then
    ((chk K 7 (wR q5.2 500 o)).bind fun a7 =>
    (f_X8_advance K a7 q5.2).bind fun q8 =>
    (chk K 7 (wR q8 500 o)).bind fun a9 =>
    (grd (tkB (wR q8 804 a9) = true)).bind fun _ =>
    if (wR q8 804 a9) = (some 16) then
      ((f_X4_indexOf K a4 (wJ q8 805 a9) q8).bind fun q12 =>
      if q12.1 = (-1) then
        ((chk K 7 (wR q12.2 500 o)).bind fun a14 =>
        (f_X4_add K a4 (wJ q12.2 805 a14) q12.2).bind fun q15 =>
        (chk K 7 (wR q15 500 o)).bind fun a16 =>
        (f_X8_advance K a16 q15).bind fun q17 =>
        some (true, q17))
      else
        ((f_X5_fail K o 3 q12.2).bind fun q18 =>
        some (q18.1, q18.2)))
    else
      ((f_X5_fail K o 1 q8).bind fun q19 =>
      some (q19.1, q19.2)))
  else
    ((f_X5_fail K o 4 q5.2).bind fun q20 =>
    some (q20.1, q20.2))

def f_X5_takesNumber (K : Kd) (o : Nat) (a_1 : Int32) (a_2 : Int32) (w : Wd) : Option (Bool × Wd) :=
  (f_X5_seesNumber K o a_1 a_2 w).bind fun q1 =>
  if (b2i q1.1) = 0 then
    (some (false, q1.2))
  else
    ((chk K 7 (wR q1.2 500 o)).bind fun a3 =>
    (some (sI q1.2 504 o (wI q1.2 806 a3))).bind fun w4 =>
    (chk K 7 (wR w4 500 o)).bind fun a5 =>
    (f_X8_advance K a5 w4).bind fun q6 =>
    some (true, q6))

def f_X5_takesSpan (K : Kd) (o : Nat) (a_1 : Int32) (w : Wd) : Option (Bool × Wd) :=
  (f_X5_takesNumber K o 0 a_1 w).bind fun q1 =>
  if (b2i q1.1) = 0 then
    (some (false, q1.2))
  else
    ((some (sI q1.2 505 o (wI q1.2 504 o))).bind fun w3 =>
    (f_X5_takesNumber K o (wI w3 505 o) a_1 w3).bind fun q4 =>
    if (b2i q4.1) = 0 then
      (some (false, q4.2))
    else
      ((some (sI q4.2 506 o (wI q4.2 504 o))).bind fun w6 =>
      some (true, w6)))

def f_X6_faultOf (K : Kd) (o : Nat) (a_1 : Option Nat) (a_2 : Int32) (a_3 : Int32) (a_4 : Int32) (a_5 : Int32) (a_6 : Int32) (w : Wd) : Option (Int32 × Wd) :=
  (chk K 9 a_1).bind fun a1 =>
  (chk K 8 (wR w 1000 a1)).bind fun a2 =>
  (cha K 25 (wR w 909 a2)).bind fun a3 =>
  (ixa a_2 a3.2).bind fun j4 =>
  if a_3 < (wI w 1001 a1) then
    (some (1, w))
  else
    ((chk K 2 (aR w a3.1 j4)).bind fun a6 =>
    if a_3 < (wI w 300 a6) then
      (some (1, w))
    else
      ((f_X10_works K a1 a_3 w).bind fun q8 =>
      if (b2i q8.1) = 0 then
        (some (1, q8.2))
      else
        ((f_X10_limitDay K a1 a_2 q8.2).bind fun q10 =>
        if a_3 ≤ q10.1 then
          ((f_X6_lookAtOfficers K o a_1 a_2 q10.2).bind fun q12 =>
          (f_X6_lookAtDay K o a_1 a_2 a_3 0 q12).bind fun q13 =>
          (f_X12_slotSet K a_4 (wI q13 301 a6) q13).bind fun q14 =>
          (chk K 8 (wR q14.2 1000 a1)).bind fun a15 =>
          (cha K 20 (wR q14.2 901 a15)).bind fun a16 =>
          (ixa a_5 a16.2).bind fun j17 =>
          if (q14.1 &&& ((aI q14.2 a16.1 j17) ^^^ (-1))) = 0 then
            ((cha K 20 (wR q14.2 600 o)).bind fun a19 =>
            (ixa a_5 a19.2).bind fun j20 =>
            if (q14.1 &&& (aI q14.2 a19.1 j20)) = 0 then
              ((f_X12_has K (wI q14.2 605 o) a_6 q14.2).bind fun q22 =>
              if (b2i q22.1) = 0 then
                ((cha K 20 (wR q22.2 601 o)).bind fun a24 =>
                (ixa a_6 a24.2).bind fun j25 =>
                if (q14.1 &&& (aI q22.2 a24.1 j25)) = 0 then
                  ((f_X12_has K (wI q22.2 604 o) a_6 q22.2).bind fun q27 =>
                  if (b2i q27.1) = 0 then
                    (if (q14.1 &&& (wI q27.2 606 o)) = 0 then
                      (if (q14.1 &&& (wI q27.2 607 o)) = 0 then
                        (some (0, q27.2))
                      else
                        (some (9, q27.2)))
                    else
                      (some (8, q27.2)))
                  else
                    (some (7, q27.2)))
                else
                  (some (6, q22.2)))
              else
                (some (5, q22.2)))
            else
              (some (4, q14.2)))
          else
            (some (3, q14.2)))
        else
          (some (2, q10.2)))))

def f_X6_findOn_L36 (K : Kd) (o : Nat) (k : Option Nat → Int32 → Int32 → Int32 → Int32 → Int32 → Wd → Option (Bool × Wd)) : Nat → Option Nat → Int32 → Int32 → Int32 → Int32 → Int32 → Wd → Option (Bool × Wd)
  | 0, _, _, _, _, _, _, _ => none
  | n + 1, v1_36, v2_36, v3_36, v4_36, v5_36, v6_36, w =>
    if 8 < (v6_36 + v5_36) then
      (k v1_36 v2_36 v3_36 v4_36 v5_36 v6_36 w)
    else
      ((f_X12_slotSet K v6_36 v5_36 w).bind fun q11 =>
      if (q11.1 &&& ((wI q11.2 606 o) ||| (wI q11.2 607 o))) = 0 then
        ((chk K 9 v1_36).bind fun a13 =>
        (f_X6_findIn K o (wR q11.2 1000 a13) q11.1 q11.2).bind fun q14 =>
        if (b2i q14.1) = 0 then
          (f_X6_findOn_L36 K o k n v1_36 v2_36 v3_36 v4_36 v5_36 (v6_36 + 1) q14.2)
        else
          ((some (sI q14.2 608 o v3_36)).bind fun w16 =>
          (some (sI w16 609 o v6_36)).bind fun w17 =>
          some (true, w17)))
      else
        (f_X6_findOn_L36 K o k n v1_36 v2_36 v3_36 v4_36 v5_36 (v6_36 + 1) q11.2))

def f_X6_findOn (K : Kd) (o : Nat) (a_1 : Option Nat) (a_2 : Int32) (a_3 : Int32) (a_4 : Int32) (w : Wd) : Option (Bool × Wd) :=
  (chk K 9 a_1).bind fun a1 =>
  (f_X10_works K a1 a_3 w).bind fun q2 =>
  if (b2i q2.1) = 0 then
    (some (false, q2.2))
  else
    ((f_X6_lookAtDay K o a_1 a_2 a_3 a_4 q2.2).bind fun q4 =>
    (chk K 8 (wR q4 1000 a1)).bind fun a5 =>
    (cha K 25 (wR q4 909 a5)).bind fun a6 =>
    (ixa a_2 a6.2).bind fun j7 =>
    (chk K 2 (aR q4 a6.1 j7)).bind fun a8 =>
    f_X6_findOn_L36 K o (fun v1_36 v2_36 v3_36 v4_36 v5_36 v6_36 w9 =>
      some (false, w9)) fu a_1 a_2 a_3 a_4 (wI q4 301 a8) 0 q4)

def f_X8_begin (K : Kd) (o : Nat) (a_1 : Option Nat) (a_2 : Int32) (w : Wd) : Option Wd :=
  (some (sR w 800 o a_1)).bind fun w1 =>
  (cha K 21 a_1).bind fun a2 =>
  (some (sI w1 801 o (imin a_2 (nI a2.2)))).bind fun w3 =>
  (some (sI w3 803 o 0)).bind fun w4 =>
  (f_X8_advance K o w4).bind fun q5 =>
  some q5

def f_X9_init (K : Kd) (n : Nat) (o : Nat) (w : Wd) : Option (Kd × Nat × Wd) :=
  (some (kup K n (26, 4))).bind fun K1 =>
  (some (clr w n)).bind fun w2 =>
  (chk K1 8 (some o)).bind fun a3 =>
  (some (sR w2 900 a3 (some n))).bind fun w4 =>
  (some (kup K1 (n + 1) (20, 3))).bind fun K5 =>
  (some (clr w4 (n + 1))).bind fun w6 =>
  (chk K5 8 (some o)).bind fun a7 =>
  (some (sR w6 901 a7 (some (n + 1)))).bind fun w8 =>
  (some (kup K5 ((n + 1) + 1) (20, 6))).bind fun K9 =>
  (some (clr w8 ((n + 1) + 1))).bind fun w10 =>
  (chk K9 8 (some o)).bind fun a11 =>
  (some (sR w10 902 a11 (some ((n + 1) + 1)))).bind fun w12 =>
  (some (kup K9 (((n + 1) + 1) + 1) (20, 18))).bind fun K13 =>
  (some (clr w12 (((n + 1) + 1) + 1))).bind fun w14 =>
  (chk K13 8 (some o)).bind fun a15 =>
  (some (sR w14 903 a15 (some (((n + 1) + 1) + 1)))).bind fun w16 =>
  (some (kup K13 ((((n + 1) + 1) + 1) + 1) (20, 18))).bind fun K17 =>
  (some (clr w16 ((((n + 1) + 1) + 1) + 1))).bind fun w18 =>
  (chk K17 8 (some o)).bind fun a19 =>
  (some (sR w18 904 a19 (some ((((n + 1) + 1) + 1) + 1)))).bind fun w20 =>
  (some (kup K17 (((((n + 1) + 1) + 1) + 1) + 1) (20, 12))).bind fun K21 =>
  (some (clr w20 (((((n + 1) + 1) + 1) + 1) + 1))).bind fun w22 =>
  (chk K21 8 (some o)).bind fun a23 =>
  (some (sR w22 905 a23 (some (((((n + 1) + 1) + 1) + 1) + 1)))).bind fun w24 =>
  (some (kup K21 ((((((n + 1) + 1) + 1) + 1) + 1) + 1) (20, 12))).bind fun K25 =>
  (some (clr w24 ((((((n + 1) + 1) + 1) + 1) + 1) + 1))).bind fun w26 =>
  (chk K25 8 (some o)).bind fun a27 =>
  (some (sR w26 906 a27 (some ((((((n + 1) + 1) + 1) + 1) + 1) + 1)))).bind fun w28 =>
  (some (kup K25 (((((((n + 1) + 1) + 1) + 1) + 1) + 1) + 1) (20, 12))).bind fun K29 =>
  (some (clr w28 (((((((n + 1) + 1) + 1) + 1) + 1) + 1) + 1))).bind fun w30 =>
  (chk K29 8 (some o)).bind fun a31 =>
  (some (sR w30 907 a31 (some (((((((n + 1) + 1) + 1) + 1) + 1) + 1) + 1)))).bind fun w32 =>
  (some (kup K29 ((((((((n + 1) + 1) + 1) + 1) + 1) + 1) + 1) + 1) (20, 12))).bind fun K33 =>
  (some (clr w32 ((((((((n + 1) + 1) + 1) + 1) + 1) + 1) + 1) + 1))).bind fun w34 =>
  (chk K33 8 (some o)).bind fun a35 =>
  (some (sR w34 908 a35 (some ((((((((n + 1) + 1) + 1) + 1) + 1) + 1) + 1) + 1)))).bind fun w36 =>
  (some (kup K33 (((((((((n + 1) + 1) + 1) + 1) + 1) + 1) + 1) + 1) + 1) (25, 12))).bind fun K37 =>
  (some (clr w36 (((((((((n + 1) + 1) + 1) + 1) + 1) + 1) + 1) + 1) + 1))).bind fun w38 =>
  (chk K37 8 (some o)).bind fun a39 =>
  (some (sR w38 909 a39 (some (((((((((n + 1) + 1) + 1) + 1) + 1) + 1) + 1) + 1) + 1)))).bind fun w40 =>
  (some (kup K37 ((((((((((n + 1) + 1) + 1) + 1) + 1) + 1) + 1) + 1) + 1) + 1) (1, 0))).bind fun K41 =>
  (some (clr w40 ((((((((((n + 1) + 1) + 1) + 1) + 1) + 1) + 1) + 1) + 1) + 1))).bind fun w42 =>
  (f_X2_init K41 (((((((((((n + 1) + 1) + 1) + 1) + 1) + 1) + 1) + 1) + 1) + 1) + 1) ((((((((((n + 1) + 1) + 1) + 1) + 1) + 1) + 1) + 1) + 1) + 1) w42).bind fun q43 =>
  (chk q43.1 8 (some o)).bind fun a44 =>
  (some (sR q43.2.2 910 a44 (some ((((((((((n + 1) + 1) + 1) + 1) + 1) + 1) + 1) + 1) + 1) + 1)))).bind fun w45 =>
  (some (kup q43.1 q43.2.1 (20, 4))).bind fun K46 =>
  (some (clr w45 q43.2.1)).bind fun w47 =>
  (chk K46 8 (some o)).bind fun a48 =>
  (some (sR w47 911 a48 (some q43.2.1))).bind fun w49 =>
  (some (kup K46 (q43.2.1 + 1) (3, 0))).bind fun K50 =>
  (some (clr w49 (q43.2.1 + 1))).bind fun w51 =>
  (f_X4_init K50 ((q43.2.1 + 1) + 1) (q43.2.1 + 1) 3 w51).bind fun q52 =>
  (cha q52.1 26 (wR w49 900 a48)).bind fun a53 =>
  (ixa 0 a53.2).bind fun j54 =>
  (chk q52.1 3 (some (q43.2.1 + 1))).bind fun a55 =>
  (some (tR q52.2.2 a53.1 j54 (some a55))).bind fun w56 =>
  (chk q52.1 8 (some o)).bind fun a57 =>
  (some (kup q52.1 q52.2.1 (3, 0))).bind fun K58 =>
  (some (clr w56 q52.2.1)).bind fun w59 =>
  (f_X4_init K58 (q52.2.1 + 1) q52.2.1 6 w59).bind fun q60 =>
  (cha q60.1 26 (wR w56 900 a57)).bind fun a61 =>
  (ixa 1 a61.2).bind fun j62 =>
  (chk q60.1 3 (some q52.2.1)).bind fun a63 =>
  (some (tR q60.2.2 a61.1 j62 (some a63))).bind fun w64 =>
  (chk q60.1 8 (some o)).bind fun a65 =>
  (some (kup q60.1 q60.2.1 (3, 0))).bind fun K66 =>
  (some (clr w64 q60.2.1)).bind fun w67 =>
  (f_X4_init K66 (q60.2.1 + 1) q60.2.1 12 w67).bind fun q68 =>
  (cha q68.1 26 (wR w64 900 a65)).bind fun a69 =>
  (ixa 2 a69.2).bind fun j70 =>
  (chk q68.1 3 (some q60.2.1)).bind fun a71 =>
  (some (tR q68.2.2 a69.1 j70 (some a71))).bind fun w72 =>
  (chk q68.1 8 (some o)).bind fun a73 =>
  (some (kup q68.1 q68.2.1 (3, 0))).bind fun K74 =>
  (some (clr w72 q68.2.1)).bind fun w75 =>
  (f_X4_init K74 (q68.2.1 + 1) q68.2.1 12 w75).bind fun q76 =>
  (cha q76.1 26 (wR w72 900 a73)).bind fun a77 =>
  (ixa 3 a77.2).bind fun j78 =>
  (chk q76.1 3 (some q68.2.1)).bind fun a79 =>
  (some (tR q76.2.2 a77.1 j78 (some a79))).bind fun w80 =>
  (chk q76.1 8 (some o)).bind fun a82 =>
  (some (kup q76.1 q76.2.1 (2, 0))).bind fun K83 =>
  (some (clr w80 q76.2.1)).bind fun w84 =>
  (f_X3_init K83 (q76.2.1 + 1) q76.2.1 w84).bind fun q85 =>
  (cha q85.1 25 (wR w80 909 a82)).bind fun a86 =>
  (ixa 0 a86.2).bind fun j87 =>
  (chk q85.1 2 (some q76.2.1)).bind fun a88 =>
  (some (tR q85.2.2 a86.1 j87 (some a88))).bind fun w89 =>
  (chk q85.1 8 (some o)).bind fun a91 =>
  (some (kup q85.1 q85.2.1 (2, 0))).bind fun K92 =>
  (some (clr w89 q85.2.1)).bind fun w93 =>
  (f_X3_init K92 (q85.2.1 + 1) q85.2.1 w93).bind fun q94 =>
  (cha q94.1 25 (wR w89 909 a91)).bind fun a95 =>
  (ixa 1 a95.2).bind fun j96 =>
  (chk q94.1 2 (some q85.2.1)).bind fun a97 =>
  (some (tR q94.2.2 a95.1 j96 (some a97))).bind fun w98 =>
  (chk q94.1 8 (some o)).bind fun a100 =>
  (some (kup q94.1 q94.2.1 (2, 0))).bind fun K101 =>
  (some (clr w98 q94.2.1)).bind fun w102 =>
  (f_X3_init K101 (q94.2.1 + 1) q94.2.1 w102).bind fun q103 =>
  (cha q103.1 25 (wR w98 909 a100)).bind fun a104 =>
  (ixa 2 a104.2).bind fun j105 =>
  (chk q103.1 2 (some q94.2.1)).bind fun a106 =>
  (some (tR q103.2.2 a104.1 j105 (some a106))).bind fun w107 =>
  (chk q103.1 8 (some o)).bind fun a109 =>
  (some (kup q103.1 q103.2.1 (2, 0))).bind fun K110 =>
  (some (clr w107 q103.2.1)).bind fun w111 =>
  (f_X3_init K110 (q103.2.1 + 1) q103.2.1 w111).bind fun q112 =>
  (cha q112.1 25 (wR w107 909 a109)).bind fun a113 =>
  (ixa 3 a113.2).bind fun j114 =>
  (chk q112.1 2 (some q103.2.1)).bind fun a115 =>
  (some (tR q112.2.2 a113.1 j114 (some a115))).bind fun w116 =>
  (chk q112.1 8 (some o)).bind fun a118 =>
  (some (kup q112.1 q112.2.1 (2, 0))).bind fun K119 =>
  (some (clr w116 q112.2.1)).bind fun w120 =>
  (f_X3_init K119 (q112.2.1 + 1) q112.2.1 w120).bind fun q121 =>
  (cha q121.1 25 (wR w116 909 a118)).bind fun a122 =>
  (ixa 4 a122.2).bind fun j123 =>
  (chk q121.1 2 (some q112.2.1)).bind fun a124 =>
  (some (tR q121.2.2 a122.1 j123 (some a124))).bind fun w125 =>
  (chk q121.1 8 (some o)).bind fun a127 =>
  (some (kup q121.1 q121.2.1 (2, 0))).bind fun K128 =>
  (some (clr w125 q121.2.1)).bind fun w129 =>
  (f_X3_init K128 (q121.2.1 + 1) q121.2.1 w129).bind fun q130 =>
  (cha q130.1 25 (wR w125 909 a127)).bind fun a131 =>
  (ixa 5 a131.2).bind fun j132 =>
  (chk q130.1 2 (some q121.2.1)).bind fun a133 =>
  (some (tR q130.2.2 a131.1 j132 (some a133))).bind fun w134 =>
  (chk q130.1 8 (some o)).bind fun a136 =>
  (some (kup q130.1 q130.2.1 (2, 0))).bind fun K137 =>
  (some (clr w134 q130.2.1)).bind fun w138 =>
  (f_X3_init K137 (q130.2.1 + 1) q130.2.1 w138).bind fun q139 =>
  (cha q139.1 25 (wR w134 909 a136)).bind fun a140 =>
  (ixa 6 a140.2).bind fun j141 =>
  (chk q139.1 2 (some q130.2.1)).bind fun a142 =>
  (some (tR q139.2.2 a140.1 j141 (some a142))).bind fun w143 =>
  (chk q139.1 8 (some o)).bind fun a145 =>
  (some (kup q139.1 q139.2.1 (2, 0))).bind fun K146 =>
  (some (clr w143 q139.2.1)).bind fun w147 =>
  (f_X3_init K146 (q139.2.1 + 1) q139.2.1 w147).bind fun q148 =>
  (cha q148.1 25 (wR w143 909 a145)).bind fun a149 =>
  (ixa 7 a149.2).bind fun j150 =>
  (chk q148.1 2 (some q139.2.1)).bind fun a151 =>
  (some (tR q148.2.2 a149.1 j150 (some a151))).bind fun w152 =>
  (chk q148.1 8 (some o)).bind fun a154 =>
  (some (kup q148.1 q148.2.1 (2, 0))).bind fun K155 =>
  (some (clr w152 q148.2.1)).bind fun w156 =>
  (f_X3_init K155 (q148.2.1 + 1) q148.2.1 w156).bind fun q157 =>
  (cha q157.1 25 (wR w152 909 a154)).bind fun a158 =>
  (ixa 8 a158.2).bind fun j159 =>
  (chk q157.1 2 (some q148.2.1)).bind fun a160 =>
  (some (tR q157.2.2 a158.1 j159 (some a160))).bind fun w161 =>
  (chk q157.1 8 (some o)).bind fun a163 =>
  (some (kup q157.1 q157.2.1 (2, 0))).bind fun K164 =>
  (some (clr w161 q157.2.1)).bind fun w165 =>
  (f_X3_init K164 (q157.2.1 + 1) q157.2.1 w165).bind fun q166 =>
  (cha q166.1 25 (wR w161 909 a163)).bind fun a167 =>
  (ixa 9 a167.2).bind fun j168 =>
  (chk q166.1 2 (some q157.2.1)).bind fun a169 =>
  (some (tR q166.2.2 a167.1 j168 (some a169))).bind fun w170 =>
  (chk q166.1 8 (some o)).bind fun a172 =>
  (some (kup q166.1 q166.2.1 (2, 0))).bind fun K173 =>
  (some (clr w170 q166.2.1)).bind fun w174 =>
  (f_X3_init K173 (q166.2.1 + 1) q166.2.1 w174).bind fun q175 =>
  (cha q175.1 25 (wR w170 909 a172)).bind fun a176 =>
  (ixa 10 a176.2).bind fun j177 =>
  (chk q175.1 2 (some q166.2.1)).bind fun a178 =>
  (some (tR q175.2.2 a176.1 j177 (some a178))).bind fun w179 =>
  (chk q175.1 8 (some o)).bind fun a181 =>
  (some (kup q175.1 q175.2.1 (2, 0))).bind fun K182 =>
  (some (clr w179 q175.2.1)).bind fun w183 =>
  (f_X3_init K182 (q175.2.1 + 1) q175.2.1 w183).bind fun q184 =>
  (cha q184.1 25 (wR w179 909 a181)).bind fun a185 =>
  (ixa 11 a185.2).bind fun j186 =>
  (chk q184.1 2 (some q175.2.1)).bind fun a187 =>
  (some (tR q184.2.2 a185.1 j186 (some a187))).bind fun w188 =>
  (chk q184.1 8 (some o)).bind fun a190 =>
  (f_X9_clear q184.1 a190 w188).bind fun q191 =>
  some (q184.1, q184.2.1, q191)

def f_L_adjourned (K : Kd) (a_0 : Option Nat) (a_1 : Int32) (a_2 : Int32) (w : Wd) : Option (Int32 × Wd) :=
  (chk K 10 a_0).bind fun a1 =>
  (f_X12_adjourn K a1 a_1 a_2 w).bind fun q2 =>
  xh q2 (fun v3 =>
    some (v3, q2.2)) (fun c4 =>
    if c4 = 3 then
      (some ((-1), q2.2))
    else none)

def f_L_withdrawn (K : Kd) (a_0 : Option Nat) (a_1 : Int32) (a_2 : Int32) (w : Wd) : Option (Int32 × Wd) :=
  (chk K 10 a_0).bind fun a1 =>
  (f_X12_withdraw K a1 a_1 a_2 w).bind fun q2 =>
  xh q2 (fun v3 =>
    some (v3, q2.2)) (fun c4 =>
    if c4 = 2 then
      (some ((-1), q2.2))
    else none)

def f_L_closed (K : Kd) (a_0 : Option Nat) (a_1 : Int32) (w : Wd) : Option (Int32 × Wd) :=
  (chk K 10 a_0).bind fun a1 =>
  (f_X12_addHoliday K a1 a_1 w).bind fun q2 =>
  xh q2 (fun v3 =>
    some (v3, q2.2)) (fun c4 =>
    if c4 = 2 then
      (some ((-1), q2.2))
    else
    if c4 = 3 then
      (some ((-2), q2.2))
    else none)

def f_L_barred (K : Kd) (a_0 : Option Nat) (a_1 : Int32) (a_2 : Int32) (w : Wd) : Option (Bool × Wd) :=
  (chk K 10 a_0).bind fun a1 =>
  (f_X12_addBar K a1 a_1 a_2 w).bind fun q2 =>
  xh q2 (fun v3 =>
    some (v3, q2.2)) (fun c4 =>
    if c4 = 3 then
      (some (false, q2.2))
    else none)

def f_L_setup_H256_4 (L : Nat) (xs : Nat → Int32) (K : Kd) (n : Nat) (u1 : Option Nat) (w : Wd) : Option (Kd × Nat × Option Nat × Wd) :=
  (chk K 12 u1).bind fun a246 =>
  (f_CJ4_append_15ec4 K n a246 14 w).bind fun q247 =>
  (f_L_draw L xs q247.1 32 0 20 q247.2.2.2).bind fun q248 =>
  (chk q247.1 12 q247.2.2.1).bind fun a249 =>
  (f_J4_append_bf812 q247.1 q247.2.1 a249 q248.1 q248.2).bind fun q250 =>
  (chk q250.1 12 q250.2.2.1).bind fun a251 =>
  (f_J4_append_cf468 q250.1 q250.2.1 a251 59 q250.2.2.2).bind fun q252 =>
  (chk q252.1 12 q252.2.2.1).bind fun a253 =>
  (f_J4_toString_0e30d q252.1 q252.2.1 a253 q252.2.2.2).bind fun q254 =>
  some (q254.1, q254.2.1, q254.2.2.1, q254.2.2.2)

def f_L_setup_H256_3 (L : Nat) (xs : Nat → Int32) (K : Kd) (n : Nat) (u1 : Option Nat) (w : Wd) : Option (Kd × Nat × Option Nat × Wd) :=
  (chk K 12 u1).bind fun a217 =>
  (f_CJ4_append_15ec4 K n a217 6 w).bind fun q218 =>
  (chk q218.1 12 q218.2.2.1).bind fun a219 =>
  (f_J4_append_cf468 q218.1 q218.2.1 a219 (i2cI (97 + 3)) q218.2.2.2).bind fun q220 =>
  (chk q220.1 12 q220.2.2.1).bind fun a221 =>
  (f_CJ4_append_15ec4 q220.1 q220.2.1 a221 7 q220.2.2.2).bind fun q222 =>
  (f_L_draw L xs q222.1 (16 + 3) 0 9 q222.2.2.2).bind fun q223 =>
  (chk q222.1 12 q222.2.2.1).bind fun a224 =>
  (f_J4_append_bf812 q222.1 q222.2.1 a224 q223.1 q223.2).bind fun q225 =>
  (chk q225.1 12 q225.2.2.1).bind fun a226 =>
  (f_CJ4_append_15ec4 q225.1 q225.2.1 a226 1 q225.2.2.2).bind fun q227 =>
  (f_L_draw L xs q227.1 (20 + 3) 1 4 q227.2.2.2).bind fun q228 =>
  (chk q227.1 12 q227.2.2.1).bind fun a229 =>
  (f_J4_append_bf812 q227.1 q227.2.1 a229 q228.1 q228.2).bind fun q230 =>
  (chk q230.1 12 q230.2.2.1).bind fun a231 =>
  (f_CJ4_append_15ec4 q230.1 q230.2.1 a231 8 q230.2.2.2).bind fun q232 =>
  (f_L_draw L xs q232.1 (24 + 3) 1 20 q232.2.2.2).bind fun q233 =>
  (chk q232.1 12 q232.2.2.1).bind fun a234 =>
  (f_J4_append_bf812 q232.1 q232.2.1 a234 q233.1 q233.2).bind fun q235 =>
  (chk q235.1 12 q235.2.2.1).bind fun a237 =>
  (f_CJ4_append_15ec4 q235.1 q235.2.1 a237 10 q235.2.2.2).bind fun q238 =>
  (f_L_draw L xs q238.1 (28 + 3) 0 2 q238.2.2.2).bind fun q239 =>
  if q239.1 = 0 then
    ((chk q238.1 12 q238.2.2.1).bind fun a257 =>
    (f_CJ4_append_15ec4 q238.1 q238.2.1 a257 11 q239.2).bind fun q258 =>
    f_L_setup_H256_4 L xs q258.1 q258.2.1 u1 q258.2.2.2)
  else
    ((f_L_draw L xs q238.1 (28 + 3) 0 2 q239.2).bind fun q241 =>
    if q241.1 = 1 then
      ((chk q238.1 12 q238.2.2.1).bind fun a255 =>
      (f_CJ4_append_15ec4 q238.1 q238.2.1 a255 12 q241.2).bind fun q256 =>
      f_L_setup_H256_4 L xs q256.1 q256.2.1 u1 q256.2.2.2)
    else
      ((chk q238.1 12 q238.2.2.1).bind fun a243 =>
      (f_CJ4_append_15ec4 q238.1 q238.2.1 a243 13 q241.2).bind fun q244 =>
      f_L_setup_H256_4 L xs q244.1 q244.2.1 u1 q244.2.2.2))

def f_L_setup_H256_2 (L : Nat) (xs : Nat → Int32) (K : Kd) (n : Nat) (u1 : Option Nat) (w : Wd) : Option (Kd × Nat × Option Nat × Wd) :=
  (chk K 12 u1).bind fun a188 =>
  (f_CJ4_append_15ec4 K n a188 6 w).bind fun q189 =>
  (chk q189.1 12 q189.2.2.1).bind fun a190 =>
  (f_J4_append_cf468 q189.1 q189.2.1 a190 (i2cI (97 + 2)) q189.2.2.2).bind fun q191 =>
  (chk q191.1 12 q191.2.2.1).bind fun a192 =>
  (f_CJ4_append_15ec4 q191.1 q191.2.1 a192 7 q191.2.2.2).bind fun q193 =>
  (f_L_draw L xs q193.1 (16 + 2) 0 9 q193.2.2.2).bind fun q194 =>
  (chk q193.1 12 q193.2.2.1).bind fun a195 =>
  (f_J4_append_bf812 q193.1 q193.2.1 a195 q194.1 q194.2).bind fun q196 =>
  (chk q196.1 12 q196.2.2.1).bind fun a197 =>
  (f_CJ4_append_15ec4 q196.1 q196.2.1 a197 1 q196.2.2.2).bind fun q198 =>
  (f_L_draw L xs q198.1 (20 + 2) 1 4 q198.2.2.2).bind fun q199 =>
  (chk q198.1 12 q198.2.2.1).bind fun a200 =>
  (f_J4_append_bf812 q198.1 q198.2.1 a200 q199.1 q199.2).bind fun q201 =>
  (chk q201.1 12 q201.2.2.1).bind fun a202 =>
  (f_CJ4_append_15ec4 q201.1 q201.2.1 a202 8 q201.2.2.2).bind fun q203 =>
  (f_L_draw L xs q203.1 (24 + 2) 1 20 q203.2.2.2).bind fun q204 =>
  (chk q203.1 12 q203.2.2.1).bind fun a205 =>
  (f_J4_append_bf812 q203.1 q203.2.1 a205 q204.1 q204.2).bind fun q206 =>
  (chk q206.1 12 q206.2.2.1).bind fun a208 =>
  (f_CJ4_append_15ec4 q206.1 q206.2.1 a208 9 q206.2.2.2).bind fun q209 =>
  (f_L_draw L xs q209.1 (28 + 2) 0 2 q209.2.2.2).bind fun q210 =>
  if q210.1 = 0 then
    ((chk q209.1 12 q209.2.2.1).bind fun a261 =>
    (f_CJ4_append_15ec4 q209.1 q209.2.1 a261 11 q210.2).bind fun q262 =>
    f_L_setup_H256_3 L xs q262.1 q262.2.1 u1 q262.2.2.2)
  else
    ((f_L_draw L xs q209.1 (28 + 2) 0 2 q210.2).bind fun q212 =>
    if q212.1 = 1 then
      ((chk q209.1 12 q209.2.2.1).bind fun a259 =>
      (f_CJ4_append_15ec4 q209.1 q209.2.1 a259 12 q212.2).bind fun q260 =>
      f_L_setup_H256_3 L xs q260.1 q260.2.1 u1 q260.2.2.2)
    else
      ((chk q209.1 12 q209.2.2.1).bind fun a214 =>
      (f_CJ4_append_15ec4 q209.1 q209.2.1 a214 13 q212.2).bind fun q215 =>
      f_L_setup_H256_3 L xs q215.1 q215.2.1 u1 q215.2.2.2))

def f_L_setup_H256_1 (L : Nat) (xs : Nat → Int32) (K : Kd) (n : Nat) (u1 : Option Nat) (w : Wd) : Option (Kd × Nat × Option Nat × Wd) :=
  (chk K 12 u1).bind fun a159 =>
  (f_CJ4_append_15ec4 K n a159 6 w).bind fun q160 =>
  (chk q160.1 12 q160.2.2.1).bind fun a161 =>
  (f_J4_append_cf468 q160.1 q160.2.1 a161 (i2cI (97 + 1)) q160.2.2.2).bind fun q162 =>
  (chk q162.1 12 q162.2.2.1).bind fun a163 =>
  (f_CJ4_append_15ec4 q162.1 q162.2.1 a163 7 q162.2.2.2).bind fun q164 =>
  (f_L_draw L xs q164.1 (16 + 1) 0 9 q164.2.2.2).bind fun q165 =>
  (chk q164.1 12 q164.2.2.1).bind fun a166 =>
  (f_J4_append_bf812 q164.1 q164.2.1 a166 q165.1 q165.2).bind fun q167 =>
  (chk q167.1 12 q167.2.2.1).bind fun a168 =>
  (f_CJ4_append_15ec4 q167.1 q167.2.1 a168 1 q167.2.2.2).bind fun q169 =>
  (f_L_draw L xs q169.1 (20 + 1) 1 4 q169.2.2.2).bind fun q170 =>
  (chk q169.1 12 q169.2.2.1).bind fun a171 =>
  (f_J4_append_bf812 q169.1 q169.2.1 a171 q170.1 q170.2).bind fun q172 =>
  (chk q172.1 12 q172.2.2.1).bind fun a173 =>
  (f_CJ4_append_15ec4 q172.1 q172.2.1 a173 8 q172.2.2.2).bind fun q174 =>
  (f_L_draw L xs q174.1 (24 + 1) 1 20 q174.2.2.2).bind fun q175 =>
  (chk q174.1 12 q174.2.2.1).bind fun a176 =>
  (f_J4_append_bf812 q174.1 q174.2.1 a176 q175.1 q175.2).bind fun q177 =>
  (chk q177.1 12 q177.2.2.1).bind fun a179 =>
  (f_CJ4_append_15ec4 q177.1 q177.2.1 a179 10 q177.2.2.2).bind fun q180 =>
  (f_L_draw L xs q180.1 (28 + 1) 0 2 q180.2.2.2).bind fun q181 =>
  if q181.1 = 0 then
    ((chk q180.1 12 q180.2.2.1).bind fun a265 =>
    (f_CJ4_append_15ec4 q180.1 q180.2.1 a265 11 q181.2).bind fun q266 =>
    f_L_setup_H256_2 L xs q266.1 q266.2.1 u1 q266.2.2.2)
  else
    ((f_L_draw L xs q180.1 (28 + 1) 0 2 q181.2).bind fun q183 =>
    if q183.1 = 1 then
      ((chk q180.1 12 q180.2.2.1).bind fun a263 =>
      (f_CJ4_append_15ec4 q180.1 q180.2.1 a263 12 q183.2).bind fun q264 =>
      f_L_setup_H256_2 L xs q264.1 q264.2.1 u1 q264.2.2.2)
    else
      ((chk q180.1 12 q180.2.2.1).bind fun a185 =>
      (f_CJ4_append_15ec4 q180.1 q180.2.1 a185 13 q183.2).bind fun q186 =>
      f_L_setup_H256_2 L xs q186.1 q186.2.1 u1 q186.2.2.2))

def f_L_setup_H256_0 (L : Nat) (xs : Nat → Int32) (K : Kd) (n : Nat) (u1 : Option Nat) (w : Wd) : Option (Kd × Nat × Option Nat × Wd) :=
  (chk K 12 u1).bind fun a130 =>
  (f_CJ4_append_15ec4 K n a130 6 w).bind fun q131 =>
  (chk q131.1 12 q131.2.2.1).bind fun a132 =>
  (f_J4_append_cf468 q131.1 q131.2.1 a132 (i2cI (97 + 0)) q131.2.2.2).bind fun q133 =>
  (chk q133.1 12 q133.2.2.1).bind fun a134 =>
  (f_CJ4_append_15ec4 q133.1 q133.2.1 a134 7 q133.2.2.2).bind fun q135 =>
  (f_L_draw L xs q135.1 (16 + 0) 0 9 q135.2.2.2).bind fun q136 =>
  (chk q135.1 12 q135.2.2.1).bind fun a137 =>
  (f_J4_append_bf812 q135.1 q135.2.1 a137 q136.1 q136.2).bind fun q138 =>
  (chk q138.1 12 q138.2.2.1).bind fun a139 =>
  (f_CJ4_append_15ec4 q138.1 q138.2.1 a139 1 q138.2.2.2).bind fun q140 =>
  (f_L_draw L xs q140.1 (20 + 0) 1 4 q140.2.2.2).bind fun q141 =>
  (chk q140.1 12 q140.2.2.1).bind fun a142 =>
  (f_J4_append_bf812 q140.1 q140.2.1 a142 q141.1 q141.2).bind fun q143 =>
  (chk q143.1 12 q143.2.2.1).bind fun a144 =>
  (f_CJ4_append_15ec4 q143.1 q143.2.1 a144 8 q143.2.2.2).bind fun q145 =>
  (f_L_draw L xs q145.1 (24 + 0) 1 20 q145.2.2.2).bind fun q146 =>
  (chk q145.1 12 q145.2.2.1).bind fun a147 =>
  (f_J4_append_bf812 q145.1 q145.2.1 a147 q146.1 q146.2).bind fun q148 =>
  (chk q148.1 12 q148.2.2.1).bind fun a150 =>
  (f_CJ4_append_15ec4 q148.1 q148.2.1 a150 9 q148.2.2.2).bind fun q151 =>
  (f_L_draw L xs q151.1 (28 + 0) 0 2 q151.2.2.2).bind fun q152 =>
  if q152.1 = 0 then
    ((chk q151.1 12 q151.2.2.1).bind fun a269 =>
    (f_CJ4_append_15ec4 q151.1 q151.2.1 a269 11 q152.2).bind fun q270 =>
    f_L_setup_H256_1 L xs q270.1 q270.2.1 u1 q270.2.2.2)
  else
    ((f_L_draw L xs q151.1 (28 + 0) 0 2 q152.2).bind fun q154 =>
    if q154.1 = 1 then
      ((chk q151.1 12 q151.2.2.1).bind fun a267 =>
      (f_CJ4_append_15ec4 q151.1 q151.2.1 a267 12 q154.2).bind fun q268 =>
      f_L_setup_H256_1 L xs q268.1 q268.2.1 u1 q268.2.2.2)
    else
      ((chk q151.1 12 q151.2.2.1).bind fun a156 =>
      (f_CJ4_append_15ec4 q151.1 q151.2.1 a156 13 q154.2).bind fun q157 =>
      f_L_setup_H256_1 L xs q157.1 q157.2.1 u1 q157.2.2.2))

def f_L_setup_H147_2 (L : Nat) (xs : Nat → Int32) (K : Kd) (n : Nat) (u1 : Option Nat) (w : Wd) : Option (Kd × Nat × Option Nat × Wd) :=
  f_L_setup_H256_0 L xs K n u1 w

def f_L_setup_H147_1 (L : Nat) (xs : Nat → Int32) (K : Kd) (n : Nat) (u1 : Option Nat) (w : Wd) : Option (Kd × Nat × Option Nat × Wd) :=
  (chk K 12 u1).bind fun a102 =>
  (f_CJ4_append_15ec4 K n a102 4 w).bind fun q103 =>
  (chk q103.1 12 q103.2.2.1).bind fun a104 =>
  (f_J4_append_cf468 q103.1 q103.2.1 a104 (i2cI (119 + 1)) q103.2.2.2).bind fun q105 =>
  (chk q105.1 12 q105.2.2.1).bind fun a106 =>
  (f_CJ4_append_15ec4 q105.1 q105.2.1 a106 5 q105.2.2.2).bind fun q107 =>
  (f_L_draw L xs q107.1 (8 + 1) 0 9 q107.2.2.2).bind fun q108 =>
  (chk q107.1 12 q107.2.2.1).bind fun a109 =>
  (f_J4_append_bf812 q107.1 q107.2.1 a109 q108.1 q108.2).bind fun q110 =>
  (chk q110.1 12 q110.2.2.1).bind fun a111 =>
  (f_J4_append_cf468 q110.1 q110.2.1 a111 32 q110.2.2.2).bind fun q112 =>
  (f_L_draw L xs q112.1 (10 + 1) 9 60 q112.2.2.2).bind fun q113 =>
  (chk q112.1 12 q112.2.2.1).bind fun a114 =>
  (f_J4_append_bf812 q112.1 q112.2.1 a114 q113.1 q113.2).bind fun q115 =>
  (chk q115.1 12 q115.2.2.1).bind fun a116 =>
  (f_CJ4_append_15ec4 q115.1 q115.2.1 a116 1 q115.2.2.2).bind fun q117 =>
  (f_L_draw L xs q117.1 (12 + 1) 0 1 q117.2.2.2).bind fun q118 =>
  (chk q117.1 12 q117.2.2.1).bind fun a119 =>
  (f_J4_append_bf812 q117.1 q117.2.1 a119 q118.1 q118.2).bind fun q120 =>
  (chk q120.1 12 q120.2.2.1).bind fun a121 =>
  (f_J4_append_cf468 q120.1 q120.2.1 a121 32 q120.2.2.2).bind fun q122 =>
  (f_L_draw L xs q122.1 (14 + 1) 4 7 q122.2.2.2).bind fun q123 =>
  (chk q122.1 12 q122.2.2.1).bind fun a124 =>
  (f_J4_append_bf812 q122.1 q122.2.1 a124 q123.1 q123.2).bind fun q125 =>
  (chk q125.1 12 q125.2.2.1).bind fun a126 =>
  (f_J4_append_cf468 q125.1 q125.2.1 a126 59 q125.2.2.2).bind fun q127 =>
  f_L_setup_H147_2 L xs q127.1 q127.2.1 u1 q127.2.2.2

def f_L_setup_H147_0 (L : Nat) (xs : Nat → Int32) (K : Kd) (n : Nat) (u1 : Option Nat) (w : Wd) : Option (Kd × Nat × Option Nat × Wd) :=
  (chk K 12 u1).bind fun a75 =>
  (f_CJ4_append_15ec4 K n a75 4 w).bind fun q76 =>
  (chk q76.1 12 q76.2.2.1).bind fun a77 =>
  (f_J4_append_cf468 q76.1 q76.2.1 a77 (i2cI (119 + 0)) q76.2.2.2).bind fun q78 =>
  (chk q78.1 12 q78.2.2.1).bind fun a79 =>
  (f_CJ4_append_15ec4 q78.1 q78.2.1 a79 5 q78.2.2.2).bind fun q80 =>
  (f_L_draw L xs q80.1 (8 + 0) 0 9 q80.2.2.2).bind fun q81 =>
  (chk q80.1 12 q80.2.2.1).bind fun a82 =>
  (f_J4_append_bf812 q80.1 q80.2.1 a82 q81.1 q81.2).bind fun q83 =>
  (chk q83.1 12 q83.2.2.1).bind fun a84 =>
  (f_J4_append_cf468 q83.1 q83.2.1 a84 32 q83.2.2.2).bind fun q85 =>
  (f_L_draw L xs q85.1 (10 + 0) 9 60 q85.2.2.2).bind fun q86 =>
  (chk q85.1 12 q85.2.2.1).bind fun a87 =>
  (f_J4_append_bf812 q85.1 q85.2.1 a87 q86.1 q86.2).bind fun q88 =>
  (chk q88.1 12 q88.2.2.1).bind fun a89 =>
  (f_CJ4_append_15ec4 q88.1 q88.2.1 a89 1 q88.2.2.2).bind fun q90 =>
  (f_L_draw L xs q90.1 (12 + 0) 0 1 q90.2.2.2).bind fun q91 =>
  (chk q90.1 12 q90.2.2.1).bind fun a92 =>
  (f_J4_append_bf812 q90.1 q90.2.1 a92 q91.1 q91.2).bind fun q93 =>
  (chk q93.1 12 q93.2.2.1).bind fun a94 =>
  (f_J4_append_cf468 q93.1 q93.2.1 a94 32 q93.2.2.2).bind fun q95 =>
  (f_L_draw L xs q95.1 (14 + 0) 4 7 q95.2.2.2).bind fun q96 =>
  (chk q95.1 12 q95.2.2.1).bind fun a97 =>
  (f_J4_append_bf812 q95.1 q95.2.1 a97 q96.1 q96.2).bind fun q98 =>
  (chk q98.1 12 q98.2.2.1).bind fun a99 =>
  (f_J4_append_cf468 q98.1 q98.2.1 a99 59 q98.2.2.2).bind fun q100 =>
  f_L_setup_H147_1 L xs q100.1 q100.2.1 u1 q100.2.2.2

def f_L_setup_H76_2 (L : Nat) (xs : Nat → Int32) (K : Kd) (n : Nat) (u1 : Option Nat) (w : Wd) : Option (Kd × Nat × Option Nat × Wd) :=
  f_L_setup_H147_0 L xs K n u1 w

def f_L_setup_H76_1 (L : Nat) (xs : Nat → Int32) (K : Kd) (n : Nat) (u1 : Option Nat) (w : Wd) : Option (Kd × Nat × Option Nat × Wd) :=
  (chk K 12 u1).bind fun a57 =>
  (f_CJ4_append_15ec4 K n a57 2 w).bind fun q58 =>
  (chk q58.1 12 q58.2.2.1).bind fun a59 =>
  (f_J4_append_cf468 q58.1 q58.2.1 a59 (i2cI (111 + 1)) q58.2.2.2).bind fun q60 =>
  (chk q60.1 12 q60.2.2.1).bind fun a61 =>
  (f_CJ4_append_15ec4 q60.1 q60.2.1 a61 3 q60.2.2.2).bind fun q62 =>
  (f_L_draw L xs q62.1 (4 + 1) 0 9 q62.2.2.2).bind fun q63 =>
  (chk q62.1 12 q62.2.2.1).bind fun a64 =>
  (f_J4_append_bf812 q62.1 q62.2.1 a64 q63.1 q63.2).bind fun q65 =>
  (chk q65.1 12 q65.2.2.1).bind fun a66 =>
  (f_J4_append_cf468 q65.1 q65.2.1 a66 32 q65.2.2.2).bind fun q67 =>
  (f_L_draw L xs q67.1 (6 + 1) 9 15 q67.2.2.2).bind fun q68 =>
  (chk q67.1 12 q67.2.2.1).bind fun a69 =>
  (f_J4_append_bf812 q67.1 q67.2.1 a69 q68.1 q68.2).bind fun q70 =>
  (chk q70.1 12 q70.2.2.1).bind fun a71 =>
  (f_J4_append_cf468 q70.1 q70.2.1 a71 59 q70.2.2.2).bind fun q72 =>
  f_L_setup_H76_2 L xs q72.1 q72.2.1 u1 q72.2.2.2

def f_L_setup_H76_0 (L : Nat) (xs : Nat → Int32) (K : Kd) (n : Nat) (u1 : Option Nat) (w : Wd) : Option (Kd × Nat × Option Nat × Wd) :=
  (chk K 12 u1).bind fun a40 =>
  (f_CJ4_append_15ec4 K n a40 2 w).bind fun q41 =>
  (chk q41.1 12 q41.2.2.1).bind fun a42 =>
  (f_J4_append_cf468 q41.1 q41.2.1 a42 (i2cI (111 + 0)) q41.2.2.2).bind fun q43 =>
  (chk q43.1 12 q43.2.2.1).bind fun a44 =>
  (f_CJ4_append_15ec4 q43.1 q43.2.1 a44 3 q43.2.2.2).bind fun q45 =>
  (f_L_draw L xs q45.1 (4 + 0) 0 9 q45.2.2.2).bind fun q46 =>
  (chk q45.1 12 q45.2.2.1).bind fun a47 =>
  (f_J4_append_bf812 q45.1 q45.2.1 a47 q46.1 q46.2).bind fun q48 =>
  (chk q48.1 12 q48.2.2.1).bind fun a49 =>
  (f_J4_append_cf468 q48.1 q48.2.1 a49 32 q48.2.2.2).bind fun q50 =>
  (f_L_draw L xs q50.1 (6 + 0) 9 15 q50.2.2.2).bind fun q51 =>
  (chk q50.1 12 q50.2.2.1).bind fun a52 =>
  (f_J4_append_bf812 q50.1 q50.2.1 a52 q51.1 q51.2).bind fun q53 =>
  (chk q53.1 12 q53.2.2.1).bind fun a54 =>
  (f_J4_append_cf468 q53.1 q53.2.1 a54 59 q53.2.2.2).bind fun q55 =>
  f_L_setup_H76_1 L xs q55.1 q55.2.1 u1 q55.2.2.2

def f_L_setup_H10_2 (L : Nat) (xs : Nat → Int32) (K : Kd) (n : Nat) (u1 : Option Nat) (w : Wd) : Option (Kd × Nat × Option Nat × Wd) :=
  f_L_setup_H76_0 L xs K n u1 w

def f_L_setup_H10_1 (L : Nat) (xs : Nat → Int32) (K : Kd) (n : Nat) (u1 : Option Nat) (w : Wd) : Option (Kd × Nat × Option Nat × Wd) :=
  (chk K 12 u1).bind fun a22 =>
  (f_CJ4_append_15ec4 K n a22 0 w).bind fun q23 =>
  (chk q23.1 12 q23.2.2.1).bind fun a24 =>
  (f_J4_append_cf468 q23.1 q23.2.1 a24 (i2cI (114 + 1)) q23.2.2.2).bind fun q25 =>
  (chk q25.1 12 q25.2.2.1).bind fun a26 =>
  (f_CJ4_append_15ec4 q25.1 q25.2.1 a26 1 q25.2.2.2).bind fun q27 =>
  (f_L_draw L xs q27.1 1 0 2 q27.2.2.2).bind fun q28 =>
  (chk q27.1 12 q27.2.2.1).bind fun a29 =>
  (f_J4_append_bf812 q27.1 q27.2.1 a29 q28.1 q28.2).bind fun q30 =>
  (chk q30.1 12 q30.2.2.1).bind fun a31 =>
  (f_J4_append_cf468 q30.1 q30.2.1 a31 32 q30.2.2.2).bind fun q32 =>
  (f_L_draw L xs q32.1 (2 + 1) 3 7 q32.2.2.2).bind fun q33 =>
  (chk q32.1 12 q32.2.2.1).bind fun a34 =>
  (f_J4_append_bf812 q32.1 q32.2.1 a34 q33.1 q33.2).bind fun q35 =>
  (chk q35.1 12 q35.2.2.1).bind fun a36 =>
  (f_J4_append_cf468 q35.1 q35.2.1 a36 59 q35.2.2.2).bind fun q37 =>
  f_L_setup_H10_2 L xs q37.1 q37.2.1 u1 q37.2.2.2

def f_L_setup_H10_0 (L : Nat) (xs : Nat → Int32) (K : Kd) (n : Nat) (u1 : Option Nat) (w : Wd) : Option (Kd × Nat × Option Nat × Wd) :=
  (chk K 12 u1).bind fun a5 =>
  (f_CJ4_append_15ec4 K n a5 0 w).bind fun q6 =>
  (chk q6.1 12 q6.2.2.1).bind fun a7 =>
  (f_J4_append_cf468 q6.1 q6.2.1 a7 (i2cI (114 + 0)) q6.2.2.2).bind fun q8 =>
  (chk q8.1 12 q8.2.2.1).bind fun a9 =>
  (f_CJ4_append_15ec4 q8.1 q8.2.1 a9 1 q8.2.2.2).bind fun q10 =>
  (f_L_draw L xs q10.1 0 0 2 q10.2.2.2).bind fun q11 =>
  (chk q10.1 12 q10.2.2.1).bind fun a12 =>
  (f_J4_append_bf812 q10.1 q10.2.1 a12 q11.1 q11.2).bind fun q13 =>
  (chk q13.1 12 q13.2.2.1).bind fun a14 =>
  (f_J4_append_cf468 q13.1 q13.2.1 a14 32 q13.2.2.2).bind fun q15 =>
  (f_L_draw L xs q15.1 (2 + 0) 3 7 q15.2.2.2).bind fun q16 =>
  (chk q15.1 12 q15.2.2.1).bind fun a17 =>
  (f_J4_append_bf812 q15.1 q15.2.1 a17 q16.1 q16.2).bind fun q18 =>
  (chk q18.1 12 q18.2.2.1).bind fun a19 =>
  (f_J4_append_cf468 q18.1 q18.2.1 a19 59 q18.2.2.2).bind fun q20 =>
  f_L_setup_H10_1 L xs q20.1 q20.2.1 u1 q20.2.2.2

def f_L_setup (L : Nat) (xs : Nat → Int32) (K : Kd) (n : Nat) (w : Wd) : Option (Kd × Nat × Option Nat × Wd) :=
  (some (kup K n (12, 0))).bind fun K1 =>
  (some (clr w n)).bind fun w2 =>
  (f_J4_init_da8c8 K1 (n + 1) n w2).bind fun q3 =>
  f_L_setup_H10_0 L xs q3.1 q3.2.1 (some n) q3.2.2

def f_J1_charAt_3b067 (K : Kd) (a_0 : Option Nat) (a_1 : Int32) (w : Wd) : Option (Int32 × Wd) :=
  (cha K 21 a_0).bind fun a1 =>
  (f_J0_checkIndex_df160 K a_1 (nI a1.2) w).bind fun q2 =>
  (ixa a_1 a1.2).bind fun j3 =>
  some ((i2cI ((aI q2 a1.1 j3) &&& 255)), q2)

def f_J0_charAt_5068e (K : Kd) (o : Nat) (a_1 : Int32) (w : Wd) : Option (Int32 × Wd) :=
  (f_J0_isLatin1_aae02 K o w).bind fun q1 =>
  if (b2i q1.1) = 0 then
    (none)
  else
    ((f_J1_charAt_3b067 K (wR q1.2 2000 o) a_1 q1.2).bind fun q3 =>
    (grd (i2cI q3.1 = q3.1)).bind fun _ =>
    some (q3.1, q3.2))

def f_NX12_problem (K : Kd) (o : Nat) (a_1 : Int32) (a_2 : Int32) (a_3 : Int32) (a_4 : Int32) (a_5 : Int32) (w : Wd) : Option (Int32 × Wd) :=
  (f_NX12_requireHearing K o a_1 a_2 a_3 a_4 a_5 w).bind fun q1 =>
  (f_NX12_requireUnfinished K o a_1 q1).bind fun q2 =>
  (chk K 5 (wR q2 1211 o)).bind fun a3 =>
  (f_X6_faultOf K a3 (wR q2 1205 o) a_1 a_2 a_3 a_4 a_5 q2).bind fun q4 =>
  some (q4.1, q4.2)

def f_X5_init (K : Kd) (n : Nat) (o : Nat) (w : Wd) : Option (Kd × Nat × Wd) :=
  (some (kup K n (7, 0))).bind fun K1 =>
  (some (clr w n)).bind fun w2 =>
  (f_X8_init K1 (n + 1) n w2).bind fun q3 =>
  (chk q3.1 4 (some o)).bind fun a4 =>
  (some (sR q3.2.2 500 a4 (some n))).bind fun w5 =>
  (some (kup q3.1 q3.2.1 (8, 0))).bind fun K6 =>
  (some (clr w5 q3.2.1)).bind fun w7 =>
  (f_X9_init K6 (q3.2.1 + 1) q3.2.1 w7).bind fun q8 =>
  (chk q8.1 4 (some o)).bind fun a9 =>
  (some (sR q8.2.2 501 a9 (some q3.2.1))).bind fun w10 =>
  (some (sI w10 503 a9 (-1))).bind fun w11 =>
  some (q8.1, q8.2.1, w11)

def f_X5_takesRoom (K : Kd) (o : Nat) (w : Wd) : Option (Bool × Wd) :=
  (f_X5_takesNewName K o 0 w).bind fun q1 =>
  if (b2i q1.1) = 0 then
    (some (false, q1.2))
  else
    ((f_X5_takes K o (some 2) q1.2).bind fun q3 =>
    if (b2i q3.1) = 0 then
      (some (false, q3.2))
    else
      ((f_X5_takesSpan K o 7 q3.2).bind fun q5 =>
      if (b2i q5.1) = 0 then
        (some (false, q5.2))
      else
        ((chk K 8 (wR q5.2 501 o)).bind fun a7 =>
        (f_X9_size K a7 0 q5.2).bind fun q8 =>
        (f_X12_slotSet K (wI q8.2 505 o) (((wI q8.2 506 o) - (wI q8.2 505 o)) + 1) q8.2).bind fun q9 =>
        (cha K 20 (wR q5.2 901 a7)).bind fun a10 =>
        (ixa (q8.1 - 1) a10.2).bind fun j11 =>
        (some (tI q9.2 a10.1 j11 q9.1)).bind fun w12 =>
        some (true, w12))))

def f_X5_takesOfficer_L12 (K : Kd) (o : Nat) (k : Int32 → Wd → Option (Bool × Wd)) : Nat → Int32 → Wd → Option (Bool × Wd)
  | 0, _, _ => none
  | n + 1, v1_12, w =>
    (chk K 7 (wR w 500 o)).bind fun a4 =>
    (grd (tkB (wR w 804 a4) = true)).bind fun _ =>
    if (wR w 804 a4) = (some 4) then
      (if v1_12 < 3 then
        ((f_X8_advance K a4 w).bind fun q8 =>
        (f_X5_takesSpan K o 599 q8).bind fun q9 =>
        if (b2i q9.1) = 0 then
          (some (false, q9.2))
        else
          ((chk K 8 (wR q9.2 501 o)).bind fun a11 =>
          (f_X9_size K a11 1 q9.2).bind fun q12 =>
          (f_X9_addOff K a11 (q12.1 - 1) (wI q12.2 505 o) (wI q12.2 506 o) q12.2).bind fun q13 =>
          f_X5_takesOfficer_L12 K o k n (v1_12 + 1) q13))
      else
        ((f_X5_fail K o 4 w).bind fun q14 =>
        some (q14.1, q14.2)))
    else
      (k v1_12 w)

def f_X5_takesOfficer (K : Kd) (o : Nat) (w : Wd) : Option (Bool × Wd) :=
  (f_X5_takesNewName K o 1 w).bind fun q1 =>
  if (b2i q1.1) = 0 then
    (some (false, q1.2))
  else
    (f_X5_takesOfficer_L12 K o (fun v1_12 w3 =>
      some (true, w3)) fu 0 q1.2)

def f_X5_takesWitness (K : Kd) (o : Nat) (w : Wd) : Option (Bool × Wd) :=
  (f_X5_takesNewName K o 2 w).bind fun q1 =>
  if (b2i q1.1) = 0 then
    (some (false, q1.2))
  else
    ((f_X5_takes K o (some 6) q1.2).bind fun q3 =>
    if (b2i q3.1) = 0 then
      (some (false, q3.2))
    else
      ((f_X5_takesSpan K o 599 q3.2).bind fun q5 =>
      if (b2i q5.1) = 0 then
        (some (false, q5.2))
      else
        ((chk K 8 (wR q5.2 501 o)).bind fun a7 =>
        (f_X9_size K a7 2 q5.2).bind fun q8 =>
        (chk K 8 (wR q8.2 501 o)).bind fun a9 =>
        (cha K 20 (wR q8.2 905 a9)).bind fun a10 =>
        (ixa (q8.1 - 1) a10.2).bind fun j11 =>
        (some (tI q8.2 a10.1 j11 (wI q8.2 505 o))).bind fun w12 =>
        (chk K 8 (wR w12 501 o)).bind fun a13 =>
        (cha K 20 (wR w12 906 a13)).bind fun a14 =>
        (ixa (q8.1 - 1) a14.2).bind fun j15 =>
        (some (tI w12 a14.1 j15 (wI w12 506 o))).bind fun w16 =>
        (some (sI w16 505 o 0)).bind fun w17 =>
        (some (sI w17 506 o 7)).bind fun w18 =>
        (chk K 7 (wR w18 500 o)).bind fun a19 =>
        (grd (tkB (wR w18 804 a19) = true)).bind fun _ =>
        if (wR w18 804 a19) = (some 2) then
          ((f_X8_advance K a19 w18).bind fun q30 =>
          (f_X5_takesSpan K o 7 q30).bind fun q31 =>
          if (b2i q31.1) = 0 then
            (some (false, q31.2))
          else
            ((chk K 8 (wR q31.2 501 o)).bind fun a33 =>
            (cha K 20 (wR q31.2 907 a33)).bind fun a34 =>
            (ixa (q8.1 - 1) a34.2).bind fun j35 =>
            (some (tI q31.2 a34.1 j35 (wI q31.2 505 o))).bind fun w36 =>
            (chk K 8 (wR w36 501 o)).bind fun a37 =>
            (cha K 20 (wR w36 908 a37)).bind fun a38 =>
            (ixa (q8.1 - 1) a38.2).bind fun j39 =>
            (some (tI w36 a38.1 j39 (wI w36 506 o))).bind fun w40 =>
            some (true, w40)))
        else
          ((chk K 8 (wR w18 501 o)).bind fun a22 =>
          (cha K 20 (wR w18 907 a22)).bind fun a23 =>
          (ixa (q8.1 - 1) a23.2).bind fun j24 =>
          (some (tI w18 a23.1 j24 (wI w18 505 o))).bind fun w25 =>
          (chk K 8 (wR w25 501 o)).bind fun a26 =>
          (cha K 20 (wR w25 908 a26)).bind fun a27 =>
          (ixa (q8.1 - 1) a27.2).bind fun j28 =>
          (some (tI w25 a27.1 j28 (wI w25 506 o))).bind fun w29 =>
          some (true, w29)))))

def f_X5_takesCase (K : Kd) (o : Nat) (w : Wd) : Option (Bool × Wd) :=
  (f_X5_takesNewName K o 3 w).bind fun q1 =>
  if (b2i q1.1) = 0 then
    (some (false, q1.2))
  else
    ((chk K 8 (wR q1.2 501 o)).bind fun a3 =>
    (f_X9_size K a3 3 q1.2).bind fun q4 =>
    (cha K 25 (wR q1.2 909 a3)).bind fun a5 =>
    (ixa (q4.1 - 1) a5.2).bind fun j6 =>
    (f_X5_takes K o (some 8) q4.2).bind fun q7 =>
    if (b2i q7.1) = 0 then
      (some (false, q7.2))
    else
      ((f_X5_takesNumber K o 0 99 q7.2).bind fun q9 =>
      if (b2i q9.1) = 0 then
        (some (false, q9.2))
      else
        ((chk K 2 (aR q4.2 a5.1 j6)).bind fun a11 =>
        (some (sI q9.2 300 a11 (wI q9.2 504 o))).bind fun w12 =>
        (f_X5_takes K o (some 2) w12).bind fun q13 =>
        if (b2i q13.1) = 0 then
          (some (false, q13.2))
        else
          ((f_X5_takesNumber K o 1 4 q13.2).bind fun q15 =>
          if (b2i q15.1) = 0 then
            (some (false, q15.2))
          else
            ((some (sI q15.2 301 a11 (wI q15.2 504 o))).bind fun w17 =>
            (f_X5_takes K o (some 9) w17).bind fun q18 =>
            if (b2i q18.1) = 0 then
              (some (false, q18.2))
            else
              ((f_X5_takesNumber K o 1 60 q18.2).bind fun q20 =>
              if (b2i q20.1) = 0 then
                (some (false, q20.2))
              else
                ((some (sI q20.2 302 a11 (wI q20.2 504 o))).bind fun w22 =>
                (chk K 7 (wR w22 500 o)).bind fun a23 =>
                (grd (tkB (wR w22 804 a23) = true)).bind fun _ =>
                if (wR w22 804 a23) = (some 10) then
                  ((some (sZ w22 303 a11 true)).bind fun w27 =>
                  (chk K 7 (wR w27 500 o)).bind fun a28 =>
                  (f_X8_advance K a28 w27).bind fun q29 =>
                  (f_X5_takesNeeds K o (aR q4.2 a5.1 j6) q29).bind fun q30 =>
                  some (q30.1, q30.2))
                else
                  ((f_X5_takesNeeds K o (aR q4.2 a5.1 j6) w22).bind fun q26 =>
                  some (q26.1, q26.2)))))))))

def f_X5_takesLengthen (K : Kd) (o : Nat) (w : Wd) : Option (Bool × Wd) :=
  (chk K 7 (wR w 500 o)).bind fun a1 =>
  (f_X8_advance K a1 w).bind fun q2 =>
  (f_X5_seesNumber K o 0 3 q2).bind fun q3 =>
  if (b2i q3.1) = 0 then
    (some (false, q3.2))
  else
    ((chk K 7 (wR q3.2 500 o)).bind fun a5 =>
    (chk K 8 (wR q3.2 501 o)).bind fun a6 =>
    (f_X12_has K (wI q3.2 912 a6) (wI q3.2 806 a5) q3.2).bind fun q7 =>
    if (b2i q7.1) = 0 then
      ((chk K 8 (wR q7.2 501 o)).bind fun a9 =>
      (some (sI q7.2 912 a9 ((wI q7.2 912 a9) ||| (1 <<< ((wI q3.2 806 a5) &&& 31))))).bind fun w10 =>
      (chk K 7 (wR w10 500 o)).bind fun a11 =>
      (f_X8_advance K a11 w10).bind fun q12 =>
      (f_X5_takesNumber K o 0 30 q12).bind fun q13 =>
      if (b2i q13.1) = 0 then
        (some (false, q13.2))
      else
        ((chk K 8 (wR q13.2 501 o)).bind fun a15 =>
        (cha K 20 (wR q13.2 911 a15)).bind fun a16 =>
        (ixa (wI q3.2 806 a5) a16.2).bind fun j17 =>
        (some (tI q13.2 a16.1 j17 (wI q13.2 504 o))).bind fun w18 =>
        some (true, w18)))
    else
      ((f_X5_fail K o 3 q7.2).bind fun q19 =>
      some (q19.1, q19.2)))

def f_X5_takesCap (K : Kd) (o : Nat) (w : Wd) : Option (Bool × Wd) :=
  (chk K 8 (wR w 501 o)).bind fun a1 =>
  if (b2i (wZ w 914 a1)) = 0 then
    ((some (sZ w 914 a1 true)).bind fun w3 =>
    (chk K 7 (wR w3 500 o)).bind fun a4 =>
    (f_X8_advance K a4 w3).bind fun q5 =>
    (f_X5_takesNumber K o 0 60 q5).bind fun q6 =>
    if (b2i q6.1) = 0 then
      (some (false, q6.2))
    else
      ((chk K 8 (wR q6.2 501 o)).bind fun a8 =>
      (some (sI q6.2 913 a8 (wI q6.2 504 o))).bind fun w9 =>
      some (true, w9)))
  else
    ((f_X5_fail K o 3 w).bind fun q10 =>
    some (q10.1, q10.2))

def f_X6_findFirst_L20 (K : Kd) (o : Nat) (k : Option Nat → Int32 → Int32 → Int32 → Int32 → Wd → Option (Bool × Wd)) : Nat → Option Nat → Int32 → Int32 → Int32 → Int32 → Wd → Option (Bool × Wd)
  | 0, _, _, _, _, _, _ => none
  | n + 1, v1_20, v2_20, v3_20, v4_20, v5_20, w =>
    if v4_20 < v5_20 then
      (k v1_20 v2_20 v3_20 v4_20 v5_20 w)
    else
      ((f_X6_findOn K o v1_20 v2_20 v5_20 v3_20 w).bind fun q6 =>
      if (b2i q6.1) = 0 then
        (f_X6_findFirst_L20 K o k n v1_20 v2_20 v3_20 v4_20 (v5_20 + 1) q6.2)
      else
        (some (true, q6.2)))

def f_X6_findFirst (K : Kd) (o : Nat) (a_1 : Option Nat) (a_2 : Int32) (a_3 : Int32) (w : Wd) : Option (Bool × Wd) :=
  (f_X6_lookAtOfficers K o a_1 a_2 w).bind fun q1 =>
  (f_X6_lastDay K a_1 a_2 q1).bind fun q2 =>
  (f_X6_firstDay K a_1 a_2 q2.2).bind fun q3 =>
  f_X6_findFirst_L20 K o (fun v1_20 v2_20 v3_20 v4_20 v5_20 w4 =>
    some (false, w4)) fu a_1 a_2 a_3 q2.1 q3.1 q3.2

def f_X6_countOpenDays_L22 (K : Kd) (o : Nat) (k : Option Nat → Int32 → Int32 → Int32 → Int32 → Wd → Option (Int32 × Wd)) : Nat → Option Nat → Int32 → Int32 → Int32 → Int32 → Wd → Option (Int32 × Wd)
  | 0, _, _, _, _, _, _ => none
  | n + 1, v1_22, v2_22, v3_22, v4_22, v5_22, w =>
    if v3_22 < v5_22 then
      (k v1_22 v2_22 v3_22 v4_22 v5_22 w)
    else
      ((f_X6_findOn K o v1_22 v2_22 v5_22 0 w).bind fun q6 =>
      if (b2i q6.1) = 0 then
        (f_X6_countOpenDays_L22 K o k n v1_22 v2_22 v3_22 v4_22 (v5_22 + 1) q6.2)
      else
        (f_X6_countOpenDays_L22 K o k n v1_22 v2_22 v3_22 (v4_22 + 1) (v5_22 + 1) q6.2))

def f_X6_countOpenDays (K : Kd) (o : Nat) (a_1 : Option Nat) (a_2 : Int32) (w : Wd) : Option (Int32 × Wd) :=
  (f_X6_lookAtOfficers K o a_1 a_2 w).bind fun q1 =>
  (f_X6_lastDay K a_1 a_2 q1).bind fun q2 =>
  (f_X6_firstDay K a_1 a_2 q2.2).bind fun q3 =>
  f_X6_countOpenDays_L22 K o (fun v1_22 v2_22 v3_22 v4_22 v5_22 w4 =>
    some (v4_22, w4)) fu a_1 a_2 q2.1 0 q3.1 q3.2

def f_X6_planWaiting_L15 (K : Kd) (o : Nat) (k : Option Nat → Int32 → Int32 → Int32 → Int32 → Wd → Option (Int32 × Wd)) : Nat → Option Nat → Int32 → Int32 → Int32 → Int32 → Wd → Option (Int32 × Wd)
  | 0, _, _, _, _, _, _ => none
  | n + 1, v1_15, v2_15, v3_15, v4_15, v5_15, w =>
    if v3_15 ≤ v5_15 then
      (k v1_15 v2_15 v3_15 v4_15 v5_15 w)
    else
      ((cha K 20 (wR w 603 o)).bind fun a5 =>
      (ixa v5_15 a5.2).bind fun j6 =>
      (f_X6_findFirst K o v1_15 (aI w a5.1 j6) v2_15 w).bind fun q7 =>
      if (b2i q7.1) = 0 then
        (f_X6_planWaiting_L15 K o k n v1_15 v2_15 v3_15 v4_15 (v5_15 + 1) q7.2)
      else
        ((cha K 20 (wR q7.2 603 o)).bind fun a9 =>
        (ixa v5_15 a9.2).bind fun j10 =>
        (f_X6_setFound K o v1_15 (aI q7.2 a9.1 j10) q7.2).bind fun q11 =>
        f_X6_planWaiting_L15 K o k n v1_15 v2_15 v3_15 (v4_15 + 1) (v5_15 + 1) q11))

def f_X6_planWaiting (K : Kd) (o : Nat) (a_1 : Option Nat) (a_2 : Int32) (w : Wd) : Option (Int32 × Wd) :=
  (chk K 9 a_1).bind fun a1 =>
  (f_X10_sortWaiting K a1 (wR w 603 o) w).bind fun q2 =>
  f_X6_planWaiting_L15 K o (fun v1_15 v2_15 v3_15 v4_15 v5_15 w3 =>
    some (v4_15, w3)) fu a_1 a_2 q2.1 0 0 q2.2

def f_L_feed_L17 (K : Kd) (k : Option Nat → Option Nat → Int32 → Option Nat → Int32 → Wd → Option (Int32 × Option Nat × Option Nat × Wd)) : Nat → Option Nat → Option Nat → Int32 → Option Nat → Int32 → Wd → Option (Int32 × Option Nat × Option Nat × Wd)
  | 0, _, _, _, _, _, _ => none
  | n + 1, v0_17, v1_17, v2_17, v3_17, v4_17, w =>
    if 20 ≤ v4_17 then
      (k v0_17 v1_17 v2_17 v3_17 v4_17 w)
    else
      ((cha K 20 v3_17).bind fun a4 =>
      (ixa (v4_17 / 4) a4.2).bind fun j5 =>
      (chk K 11 v1_17).bind fun a6 =>
      (f_J0_length_8abf5 K a6 w).bind fun q7 =>
      if q7.1 ≤ (v2_17 + v4_17) then
        ((ixa (v4_17 / 4) a4.2).bind fun j9 =>
        (some (tI q7.2 a4.1 j9 ((aI w a4.1 j5) ||| (32 <<< ((24 - (8 * (v4_17 - v4_17 / 4 * 4))) &&& 31))))).bind fun w10 =>
        f_L_feed_L17 K k n v0_17 v1_17 v2_17 v3_17 (v4_17 + 1) w10)
      else
        ((f_J0_charAt_5068e K a6 (v2_17 + v4_17) q7.2).bind fun q11 =>
        (ixa (v4_17 / 4) a4.2).bind fun j12 =>
        (some (tI q11.2 a4.1 j12 ((aI w a4.1 j5) ||| (q11.1 <<< ((24 - (8 * (v4_17 - v4_17 / 4 * 4))) &&& 31))))).bind fun w13 =>
        f_L_feed_L17 K k n v0_17 v1_17 v2_17 v3_17 (v4_17 + 1) w13))

def f_L_feed_it (K : Kd) (n : Nat) (v0 v1 : Option Nat) (v2 : Int32) (w : Wd) : Option (Int32 × Option Nat × Option Nat × Wd) :=
  (some (clr w n)).bind fun w1 =>
  f_L_feed_L17 (kup K n (20, 5)) (fun v0_17 v1_17 v2_17 v3_17 v4_17 w2 =>
    (cha (kup K n (20, 5)) 20 v3_17).bind fun a14 =>
    (ixa 0 a14.2).bind fun j15 =>
    (ixa 1 a14.2).bind fun j16 =>
    (ixa 2 a14.2).bind fun j17 =>
    (ixa 3 a14.2).bind fun j18 =>
    (ixa 4 a14.2).bind fun j19 =>
    (chk (kup K n (20, 5)) 10 v0_17).bind fun a20 =>
    (f_X12_feed (kup K n (20, 5)) a20 (aI w2 a14.1 j15) (aI w2 a14.1 j16) (aI w2 a14.1 j17) (aI w2 a14.1 j18) (aI w2 a14.1 j19) w2).bind fun q21 =>
    some ((v2_17 + 20), v1_17, v0_17, q21.2)) fu v0 v1 v2 (some n) 0 w1

def f_L_feed_L2 (K : Kd) : Nat → Nat → Option Nat → Option Nat → Int32 → Wd → Option Wd
  | 0, _, _, _, _, _ => none
  | m9 + 1, n, v0, v1, v2, w =>
    (chk K 11 v1).bind fun a22 =>
    (f_J0_length_8abf5 K a22 w).bind fun q23 =>
    if q23.1 ≤ v2 then
      ((f_J0_length_8abf5 K a22 q23.2).bind fun q25 =>
      (chk K 10 v0).bind fun a26 =>
      (f_X12_truncate K a26 q25.1 q25.2).bind fun q27 =>
      some q27.2)
    else
      ((f_L_feed_it K n v0 v1 v2 q23.2).bind fun r9 =>
      f_L_feed_L2 K m9 (n + 1) r9.2.2.1 r9.2.1 r9.1 r9.2.2.2)

def f_L_feed (K : Kd) (n : Nat) (a_0 a_1 : Option Nat) (w : Wd) : Option Wd := f_L_feed_L2 K 59 n a_0 a_1 0 w

def f_L_isGood_L136 (K : Kd) (k : Option Nat → Option Nat → Int32 → Int32 → Int32 → Int32 → Wd → Option (Bool × Wd)) : Nat → Option Nat → Option Nat → Int32 → Int32 → Int32 → Int32 → Wd → Option (Bool × Wd)
  | 0, _, _, _, _, _, _, _ => none
  | n + 1, v0_136, v1_136, v2_136, v3_136, v4_136, v5_136, w =>
    (chk K 10 v0_136).bind fun a21 =>
    (f_NX12_matter K a21 v2_136 7 w).bind fun q22 =>
    if q22.1 ≤ v5_136 then
      (k v0_136 v1_136 v2_136 v3_136 v4_136 v5_136 q22.2)
    else
      ((f_NX12_adjournment K a21 v2_136 v5_136 3 q22.2).bind fun q24 =>
      f_L_isGood_L136 K k n v0_136 v1_136 v2_136 v3_136 (v4_136 + q24.1) (v5_136 + 1) q24.2)

def f_L_isGood_L39 (K : Kd) (k : Option Nat → Option Nat → Int32 → Wd → Option (Bool × Wd)) : Nat → Option Nat → Option Nat → Int32 → Wd → Option (Bool × Wd)
  | 0, _, _, _, _ => none
  | n + 1, v0_39, v1_39, v2_39, w =>
    if 4 ≤ v2_39 then
      (k v0_39 v1_39 v2_39 w)
    else
      ((chk K 10 v0_39).bind fun a10 =>
      (f_NX12_matter K a10 v2_39 5 w).bind fun q11 =>
      if q11.1 = 1 then
        ((f_NX12_hearing K a10 v2_39 0 q11.2).bind fun q13 =>
        if q13.1 < 0 then
          (some (false, q13.2))
        else
          (if q11.1 = 0 then
            ((f_NX12_matter K a10 v2_39 4 q13.2).bind fun q75 =>
            (f_X12_count K a10 7 q75.2).bind fun q76 =>
            if q75.1 < q76.1 then
              (some (false, q76.2))
            else
              ((f_NX12_matter K a10 v2_39 6 q76.2).bind fun q78 =>
              if q78.1 = 1 then
                ((f_NX12_matter K a10 v2_39 3 q78.2).bind fun q104 =>
                (f_X12_count K a10 8 q104.2).bind fun q105 =>
                if q104.1 ≤ q105.1 then
                  (f_L_isGood_L136 K (fun v0_136 v1_136 v2_136 v3_136 v4_136 v5_136 w107 =>
                    (chk K 10 v0_136).bind fun a108 =>
                    (f_NX12_matter K a108 v2_136 3 w107).bind fun q109 =>
                    if v4_136 = q109.1 then
                      ((f_NX12_hearing K a108 v2_136 0 q109.2).bind fun q111 =>
                      if 0 ≤ q111.1 then
                        ((f_NX12_hearing K a108 v2_136 3 q111.2).bind fun q113 =>
                        (cha K 20 v1_136).bind fun a114 =>
                        (ixa q113.1 a114.2).bind fun j115 =>
                        (f_NX12_matter K a108 v2_136 1 q113.2).bind fun q116 =>
                        (ixa q113.1 a114.2).bind fun j117 =>
                        (some (tI q116.2 a114.1 j117 ((aI q113.2 a114.1 j115) + q116.1))).bind fun w118 =>
                        (f_NX12_hearing K a108 v2_136 2 w118).bind fun q119 =>
                        (f_NX12_hearing K a108 v2_136 0 q119.2).bind fun q120 =>
                        (f_NX12_hearing K a108 v2_136 1 q120.2).bind fun q121 =>
                        (f_NX12_caseAt K a108 q119.1 q120.1 q121.1 q121.2).bind fun q122 =>
                        if q122.1 = v2_136 then
                          (if v3_136 = 1 then
                            ((f_NX12_hearing K a108 v2_136 0 q122.2).bind fun q125 =>
                            (f_NX12_hearing K a108 v2_136 1 q125.2).bind fun q126 =>
                            (f_NX12_hearing K a108 v2_136 2 q126.2).bind fun q127 =>
                            (f_NX12_hearing K a108 v2_136 3 q127.2).bind fun q128 =>
                            (f_NX12_problem K a108 v2_136 q125.1 q126.1 q127.1 q128.1 q128.2).bind fun q129 =>
                            if q129.1 = 0 then
                              (f_L_isGood_L39 K k n v0_136 v1_136 (v2_136 + 1) q129.2)
                            else
                              (some (false, q129.2)))
                          else
                            (f_L_isGood_L39 K k n v0_136 v1_136 (v2_136 + 1) q122.2))
                        else
                          (some (false, q122.2)))
                      else
                        (f_L_isGood_L39 K k n v0_136 v1_136 (v2_136 + 1) q111.2))
                    else
                      (some (false, q109.2))) fu v0_39 v1_39 v2_39 q11.1 0 0 q105.2)
                else
                  (some (false, q105.2)))
              else
                (f_L_isGood_L136 K (fun v0_136 v1_136 v2_136 v3_136 v4_136 v5_136 w80 =>
                  (chk K 10 v0_136).bind fun a81 =>
                  (f_NX12_matter K a81 v2_136 3 w80).bind fun q82 =>
                  if v4_136 = q82.1 then
                    ((f_NX12_hearing K a81 v2_136 0 q82.2).bind fun q84 =>
                    if 0 ≤ q84.1 then
                      ((f_NX12_hearing K a81 v2_136 3 q84.2).bind fun q86 =>
                      (cha K 20 v1_136).bind fun a87 =>
                      (ixa q86.1 a87.2).bind fun j88 =>
                      (f_NX12_matter K a81 v2_136 1 q86.2).bind fun q89 =>
                      (ixa q86.1 a87.2).bind fun j90 =>
                      (some (tI q89.2 a87.1 j90 ((aI q86.2 a87.1 j88) + q89.1))).bind fun w91 =>
                      (f_NX12_hearing K a81 v2_136 2 w91).bind fun q92 =>
                      (f_NX12_hearing K a81 v2_136 0 q92.2).bind fun q93 =>
                      (f_NX12_hearing K a81 v2_136 1 q93.2).bind fun q94 =>
                      (f_NX12_caseAt K a81 q92.1 q93.1 q94.1 q94.2).bind fun q95 =>
                      if q95.1 = v2_136 then
                        (if v3_136 = 1 then
                          ((f_NX12_hearing K a81 v2_136 0 q95.2).bind fun q98 =>
                          (f_NX12_hearing K a81 v2_136 1 q98.2).bind fun q99 =>
                          (f_NX12_hearing K a81 v2_136 2 q99.2).bind fun q100 =>
                          (f_NX12_hearing K a81 v2_136 3 q100.2).bind fun q101 =>
                          (f_NX12_problem K a81 v2_136 q98.1 q99.1 q100.1 q101.1 q101.2).bind fun q102 =>
                          if q102.1 = 0 then
                            (f_L_isGood_L39 K k n v0_136 v1_136 (v2_136 + 1) q102.2)
                          else
                            (some (false, q102.2)))
                        else
                          (f_L_isGood_L39 K k n v0_136 v1_136 (v2_136 + 1) q95.2))
                      else
                        (some (false, q95.2)))
                    else
                      (f_L_isGood_L39 K k n v0_136 v1_136 (v2_136 + 1) q84.2))
                  else
                    (some (false, q82.2))) fu v0_39 v1_39 v2_39 q11.1 0 0 q78.2)))
          else
            ((f_NX12_matter K a10 v2_39 6 q13.2).bind fun q18 =>
            if q18.1 = 1 then
              ((f_NX12_matter K a10 v2_39 3 q18.2).bind fun q48 =>
              (f_X12_count K a10 8 q48.2).bind fun q49 =>
              if q48.1 ≤ q49.1 then
                (f_L_isGood_L136 K (fun v0_136 v1_136 v2_136 v3_136 v4_136 v5_136 w51 =>
                  (chk K 10 v0_136).bind fun a52 =>
                  (f_NX12_matter K a52 v2_136 3 w51).bind fun q53 =>
                  if v4_136 = q53.1 then
                    ((f_NX12_hearing K a52 v2_136 0 q53.2).bind fun q55 =>
                    if 0 ≤ q55.1 then
                      ((f_NX12_hearing K a52 v2_136 3 q55.2).bind fun q57 =>
                      (cha K 20 v1_136).bind fun a58 =>
                      (ixa q57.1 a58.2).bind fun j59 =>
                      (f_NX12_matter K a52 v2_136 1 q57.2).bind fun q60 =>
                      (ixa q57.1 a58.2).bind fun j61 =>
                      (some (tI q60.2 a58.1 j61 ((aI q57.2 a58.1 j59) + q60.1))).bind fun w62 =>
                      (f_NX12_hearing K a52 v2_136 2 w62).bind fun q63 =>
                      (f_NX12_hearing K a52 v2_136 0 q63.2).bind fun q64 =>
                      (f_NX12_hearing K a52 v2_136 1 q64.2).bind fun q65 =>
                      (f_NX12_caseAt K a52 q63.1 q64.1 q65.1 q65.2).bind fun q66 =>
                      if q66.1 = v2_136 then
                        (if v3_136 = 1 then
                          ((f_NX12_hearing K a52 v2_136 0 q66.2).bind fun q69 =>
                          (f_NX12_hearing K a52 v2_136 1 q69.2).bind fun q70 =>
                          (f_NX12_hearing K a52 v2_136 2 q70.2).bind fun q71 =>
                          (f_NX12_hearing K a52 v2_136 3 q71.2).bind fun q72 =>
                          (f_NX12_problem K a52 v2_136 q69.1 q70.1 q71.1 q72.1 q72.2).bind fun q73 =>
                          if q73.1 = 0 then
                            (f_L_isGood_L39 K k n v0_136 v1_136 (v2_136 + 1) q73.2)
                          else
                            (some (false, q73.2)))
                        else
                          (f_L_isGood_L39 K k n v0_136 v1_136 (v2_136 + 1) q66.2))
                      else
                        (some (false, q66.2)))
                    else
                      (f_L_isGood_L39 K k n v0_136 v1_136 (v2_136 + 1) q55.2))
                  else
                    (some (false, q53.2))) fu v0_39 v1_39 v2_39 q11.1 0 0 q49.2)
              else
                (some (false, q49.2)))
            else
              (f_L_isGood_L136 K (fun v0_136 v1_136 v2_136 v3_136 v4_136 v5_136 w20 =>
                (chk K 10 v0_136).bind fun a25 =>
                (f_NX12_matter K a25 v2_136 3 w20).bind fun q26 =>
                if v4_136 = q26.1 then
                  ((f_NX12_hearing K a25 v2_136 0 q26.2).bind fun q28 =>
                  if 0 ≤ q28.1 then
                    ((f_NX12_hearing K a25 v2_136 3 q28.2).bind fun q30 =>
                    (cha K 20 v1_136).bind fun a31 =>
                    (ixa q30.1 a31.2).bind fun j32 =>
                    (f_NX12_matter K a25 v2_136 1 q30.2).bind fun q33 =>
                    (ixa q30.1 a31.2).bind fun j34 =>
                    (some (tI q33.2 a31.1 j34 ((aI q30.2 a31.1 j32) + q33.1))).bind fun w35 =>
                    (f_NX12_hearing K a25 v2_136 2 w35).bind fun q36 =>
                    (f_NX12_hearing K a25 v2_136 0 q36.2).bind fun q37 =>
                    (f_NX12_hearing K a25 v2_136 1 q37.2).bind fun q38 =>
                    (f_NX12_caseAt K a25 q36.1 q37.1 q38.1 q38.2).bind fun q39 =>
                    if q39.1 = v2_136 then
                      (if v3_136 = 1 then
                        ((f_NX12_hearing K a25 v2_136 0 q39.2).bind fun q42 =>
                        (f_NX12_hearing K a25 v2_136 1 q42.2).bind fun q43 =>
                        (f_NX12_hearing K a25 v2_136 2 q43.2).bind fun q44 =>
                        (f_NX12_hearing K a25 v2_136 3 q44.2).bind fun q45 =>
                        (f_NX12_problem K a25 v2_136 q42.1 q43.1 q44.1 q45.1 q45.2).bind fun q46 =>
                        if q46.1 = 0 then
                          (f_L_isGood_L39 K k n v0_136 v1_136 (v2_136 + 1) q46.2)
                        else
                          (some (false, q46.2)))
                      else
                        (f_L_isGood_L39 K k n v0_136 v1_136 (v2_136 + 1) q39.2))
                    else
                      (some (false, q39.2)))
                  else
                    (f_L_isGood_L39 K k n v0_136 v1_136 (v2_136 + 1) q28.2))
                else
                  (some (false, q26.2))) fu v0_39 v1_39 v2_39 q11.1 0 0 q18.2))))
      else
        (if q11.1 = 2 then
          ((f_NX12_hearing K a10 v2_39 0 q11.2).bind fun q246 =>
          if q246.1 < 0 then
            (some (false, q246.2))
          else
            (if q11.1 = 0 then
              ((f_NX12_matter K a10 v2_39 4 q246.2).bind fun q304 =>
              (f_X12_count K a10 7 q304.2).bind fun q305 =>
              if q304.1 < q305.1 then
                (some (false, q305.2))
              else
                ((f_NX12_matter K a10 v2_39 6 q305.2).bind fun q307 =>
                if q307.1 = 1 then
                  ((f_NX12_matter K a10 v2_39 3 q307.2).bind fun q333 =>
                  (f_X12_count K a10 8 q333.2).bind fun q334 =>
                  if q333.1 ≤ q334.1 then
                    (f_L_isGood_L136 K (fun v0_136 v1_136 v2_136 v3_136 v4_136 v5_136 w336 =>
                      (chk K 10 v0_136).bind fun a337 =>
                      (f_NX12_matter K a337 v2_136 3 w336).bind fun q338 =>
                      if v4_136 = q338.1 then
                        ((f_NX12_hearing K a337 v2_136 0 q338.2).bind fun q340 =>
                        if 0 ≤ q340.1 then
                          ((f_NX12_hearing K a337 v2_136 3 q340.2).bind fun q342 =>
                          (cha K 20 v1_136).bind fun a343 =>
                          (ixa q342.1 a343.2).bind fun j344 =>
                          (f_NX12_matter K a337 v2_136 1 q342.2).bind fun q345 =>
                          (ixa q342.1 a343.2).bind fun j346 =>
                          (some (tI q345.2 a343.1 j346 ((aI q342.2 a343.1 j344) + q345.1))).bind fun w347 =>
                          (f_NX12_hearing K a337 v2_136 2 w347).bind fun q348 =>
                          (f_NX12_hearing K a337 v2_136 0 q348.2).bind fun q349 =>
                          (f_NX12_hearing K a337 v2_136 1 q349.2).bind fun q350 =>
                          (f_NX12_caseAt K a337 q348.1 q349.1 q350.1 q350.2).bind fun q351 =>
                          if q351.1 = v2_136 then
                            (if v3_136 = 1 then
                              ((f_NX12_hearing K a337 v2_136 0 q351.2).bind fun q354 =>
                              (f_NX12_hearing K a337 v2_136 1 q354.2).bind fun q355 =>
                              (f_NX12_hearing K a337 v2_136 2 q355.2).bind fun q356 =>
                              (f_NX12_hearing K a337 v2_136 3 q356.2).bind fun q357 =>
                              (f_NX12_problem K a337 v2_136 q354.1 q355.1 q356.1 q357.1 q357.2).bind fun q358 =>
                              if q358.1 = 0 then
                                (f_L_isGood_L39 K k n v0_136 v1_136 (v2_136 + 1) q358.2)
                              else
                                (some (false, q358.2)))
                            else
                              (f_L_isGood_L39 K k n v0_136 v1_136 (v2_136 + 1) q351.2))
                          else
                            (some (false, q351.2)))
                        else
                          (f_L_isGood_L39 K k n v0_136 v1_136 (v2_136 + 1) q340.2))
                      else
                        (some (false, q338.2))) fu v0_39 v1_39 v2_39 q11.1 0 0 q334.2)
                  else
                    (some (false, q334.2)))
                else
                  (f_L_isGood_L136 K (fun v0_136 v1_136 v2_136 v3_136 v4_136 v5_136 w309 =>
                    (chk K 10 v0_136).bind fun a310 =>
                    (f_NX12_matter K a310 v2_136 3 w309).bind fun q311 =>
                    if v4_136 = q311.1 then
                      ((f_NX12_hearing K a310 v2_136 0 q311.2).bind fun q313 =>
                      if 0 ≤ q313.1 then
                        ((f_NX12_hearing K a310 v2_136 3 q313.2).bind fun q315 =>
                        (cha K 20 v1_136).bind fun a316 =>
                        (ixa q315.1 a316.2).bind fun j317 =>
                        (f_NX12_matter K a310 v2_136 1 q315.2).bind fun q318 =>
                        (ixa q315.1 a316.2).bind fun j319 =>
                        (some (tI q318.2 a316.1 j319 ((aI q315.2 a316.1 j317) + q318.1))).bind fun w320 =>
                        (f_NX12_hearing K a310 v2_136 2 w320).bind fun q321 =>
                        (f_NX12_hearing K a310 v2_136 0 q321.2).bind fun q322 =>
                        (f_NX12_hearing K a310 v2_136 1 q322.2).bind fun q323 =>
                        (f_NX12_caseAt K a310 q321.1 q322.1 q323.1 q323.2).bind fun q324 =>
                        if q324.1 = v2_136 then
                          (if v3_136 = 1 then
                            ((f_NX12_hearing K a310 v2_136 0 q324.2).bind fun q327 =>
                            (f_NX12_hearing K a310 v2_136 1 q327.2).bind fun q328 =>
                            (f_NX12_hearing K a310 v2_136 2 q328.2).bind fun q329 =>
                            (f_NX12_hearing K a310 v2_136 3 q329.2).bind fun q330 =>
                            (f_NX12_problem K a310 v2_136 q327.1 q328.1 q329.1 q330.1 q330.2).bind fun q331 =>
                            if q331.1 = 0 then
                              (f_L_isGood_L39 K k n v0_136 v1_136 (v2_136 + 1) q331.2)
                            else
                              (some (false, q331.2)))
                          else
                            (f_L_isGood_L39 K k n v0_136 v1_136 (v2_136 + 1) q324.2))
                        else
                          (some (false, q324.2)))
                      else
                        (f_L_isGood_L39 K k n v0_136 v1_136 (v2_136 + 1) q313.2))
                    else
                      (some (false, q311.2))) fu v0_39 v1_39 v2_39 q11.1 0 0 q307.2)))
            else
              ((f_NX12_matter K a10 v2_39 6 q246.2).bind fun q251 =>
              if q251.1 = 1 then
                ((f_NX12_matter K a10 v2_39 3 q251.2).bind fun q277 =>
                (f_X12_count K a10 8 q277.2).bind fun q278 =>
                if q277.1 ≤ q278.1 then
                  (f_L_isGood_L136 K (fun v0_136 v1_136 v2_136 v3_136 v4_136 v5_136 w280 =>
                    (chk K 10 v0_136).bind fun a281 =>
                    (f_NX12_matter K a281 v2_136 3 w280).bind fun q282 =>
                    if v4_136 = q282.1 then
                      ((f_NX12_hearing K a281 v2_136 0 q282.2).bind fun q284 =>
                      if 0 ≤ q284.1 then
                        ((f_NX12_hearing K a281 v2_136 3 q284.2).bind fun q286 =>
                        (cha K 20 v1_136).bind fun a287 =>
                        (ixa q286.1 a287.2).bind fun j288 =>
                        (f_NX12_matter K a281 v2_136 1 q286.2).bind fun q289 =>
                        (ixa q286.1 a287.2).bind fun j290 =>
                        (some (tI q289.2 a287.1 j290 ((aI q286.2 a287.1 j288) + q289.1))).bind fun w291 =>
                        (f_NX12_hearing K a281 v2_136 2 w291).bind fun q292 =>
                        (f_NX12_hearing K a281 v2_136 0 q292.2).bind fun q293 =>
                        (f_NX12_hearing K a281 v2_136 1 q293.2).bind fun q294 =>
                        (f_NX12_caseAt K a281 q292.1 q293.1 q294.1 q294.2).bind fun q295 =>
                        if q295.1 = v2_136 then
                          (if v3_136 = 1 then
                            ((f_NX12_hearing K a281 v2_136 0 q295.2).bind fun q298 =>
                            (f_NX12_hearing K a281 v2_136 1 q298.2).bind fun q299 =>
                            (f_NX12_hearing K a281 v2_136 2 q299.2).bind fun q300 =>
                            (f_NX12_hearing K a281 v2_136 3 q300.2).bind fun q301 =>
                            (f_NX12_problem K a281 v2_136 q298.1 q299.1 q300.1 q301.1 q301.2).bind fun q302 =>
                            if q302.1 = 0 then
                              (f_L_isGood_L39 K k n v0_136 v1_136 (v2_136 + 1) q302.2)
                            else
                              (some (false, q302.2)))
                          else
                            (f_L_isGood_L39 K k n v0_136 v1_136 (v2_136 + 1) q295.2))
                        else
                          (some (false, q295.2)))
                      else
                        (f_L_isGood_L39 K k n v0_136 v1_136 (v2_136 + 1) q284.2))
                    else
                      (some (false, q282.2))) fu v0_39 v1_39 v2_39 q11.1 0 0 q278.2)
                else
                  (some (false, q278.2)))
              else
                (f_L_isGood_L136 K (fun v0_136 v1_136 v2_136 v3_136 v4_136 v5_136 w253 =>
                  (chk K 10 v0_136).bind fun a254 =>
                  (f_NX12_matter K a254 v2_136 3 w253).bind fun q255 =>
                  if v4_136 = q255.1 then
                    ((f_NX12_hearing K a254 v2_136 0 q255.2).bind fun q257 =>
                    if 0 ≤ q257.1 then
                      ((f_NX12_hearing K a254 v2_136 3 q257.2).bind fun q259 =>
                      (cha K 20 v1_136).bind fun a260 =>
                      (ixa q259.1 a260.2).bind fun j261 =>
                      (f_NX12_matter K a254 v2_136 1 q259.2).bind fun q262 =>
                      (ixa q259.1 a260.2).bind fun j263 =>
                      (some (tI q262.2 a260.1 j263 ((aI q259.2 a260.1 j261) + q262.1))).bind fun w264 =>
                      (f_NX12_hearing K a254 v2_136 2 w264).bind fun q265 =>
                      (f_NX12_hearing K a254 v2_136 0 q265.2).bind fun q266 =>
                      (f_NX12_hearing K a254 v2_136 1 q266.2).bind fun q267 =>
                      (f_NX12_caseAt K a254 q265.1 q266.1 q267.1 q267.2).bind fun q268 =>
                      if q268.1 = v2_136 then
                        (if v3_136 = 1 then
                          ((f_NX12_hearing K a254 v2_136 0 q268.2).bind fun q271 =>
                          (f_NX12_hearing K a254 v2_136 1 q271.2).bind fun q272 =>
                          (f_NX12_hearing K a254 v2_136 2 q272.2).bind fun q273 =>
                          (f_NX12_hearing K a254 v2_136 3 q273.2).bind fun q274 =>
                          (f_NX12_problem K a254 v2_136 q271.1 q272.1 q273.1 q274.1 q274.2).bind fun q275 =>
                          if q275.1 = 0 then
                            (f_L_isGood_L39 K k n v0_136 v1_136 (v2_136 + 1) q275.2)
                          else
                            (some (false, q275.2)))
                        else
                          (f_L_isGood_L39 K k n v0_136 v1_136 (v2_136 + 1) q268.2))
                      else
                        (some (false, q268.2)))
                    else
                      (f_L_isGood_L39 K k n v0_136 v1_136 (v2_136 + 1) q257.2))
                  else
                    (some (false, q255.2))) fu v0_39 v1_39 v2_39 q11.1 0 0 q251.2))))
        else
          ((f_NX12_hearing K a10 v2_39 0 q11.2).bind fun q132 =>
          if q132.1 < 0 then
            (if q11.1 = 0 then
              ((f_NX12_matter K a10 v2_39 4 q132.2).bind fun q189 =>
              (f_X12_count K a10 7 q189.2).bind fun q190 =>
              if q189.1 < q190.1 then
                (some (false, q190.2))
              else
                ((f_NX12_matter K a10 v2_39 6 q190.2).bind fun q192 =>
                if q192.1 = 1 then
                  ((f_NX12_matter K a10 v2_39 3 q192.2).bind fun q218 =>
                  (f_X12_count K a10 8 q218.2).bind fun q219 =>
                  if q218.1 ≤ q219.1 then
                    (f_L_isGood_L136 K (fun v0_136 v1_136 v2_136 v3_136 v4_136 v5_136 w221 =>
                      (chk K 10 v0_136).bind fun a222 =>
                      (f_NX12_matter K a222 v2_136 3 w221).bind fun q223 =>
                      if v4_136 = q223.1 then
                        ((f_NX12_hearing K a222 v2_136 0 q223.2).bind fun q225 =>
                        if 0 ≤ q225.1 then
                          ((f_NX12_hearing K a222 v2_136 3 q225.2).bind fun q227 =>
                          (cha K 20 v1_136).bind fun a228 =>
                          (ixa q227.1 a228.2).bind fun j229 =>
                          (f_NX12_matter K a222 v2_136 1 q227.2).bind fun q230 =>
                          (ixa q227.1 a228.2).bind fun j231 =>
                          (some (tI q230.2 a228.1 j231 ((aI q227.2 a228.1 j229) + q230.1))).bind fun w232 =>
                          (f_NX12_hearing K a222 v2_136 2 w232).bind fun q233 =>
                          (f_NX12_hearing K a222 v2_136 0 q233.2).bind fun q234 =>
                          (f_NX12_hearing K a222 v2_136 1 q234.2).bind fun q235 =>
                          (f_NX12_caseAt K a222 q233.1 q234.1 q235.1 q235.2).bind fun q236 =>
                          if q236.1 = v2_136 then
                            (if v3_136 = 1 then
                              ((f_NX12_hearing K a222 v2_136 0 q236.2).bind fun q239 =>
                              (f_NX12_hearing K a222 v2_136 1 q239.2).bind fun q240 =>
                              (f_NX12_hearing K a222 v2_136 2 q240.2).bind fun q241 =>
                              (f_NX12_hearing K a222 v2_136 3 q241.2).bind fun q242 =>
                              (f_NX12_problem K a222 v2_136 q239.1 q240.1 q241.1 q242.1 q242.2).bind fun q243 =>
                              if q243.1 = 0 then
                                (f_L_isGood_L39 K k n v0_136 v1_136 (v2_136 + 1) q243.2)
                              else
                                (some (false, q243.2)))
                            else
                              (f_L_isGood_L39 K k n v0_136 v1_136 (v2_136 + 1) q236.2))
                          else
                            (some (false, q236.2)))
                        else
                          (f_L_isGood_L39 K k n v0_136 v1_136 (v2_136 + 1) q225.2))
                      else
                        (some (false, q223.2))) fu v0_39 v1_39 v2_39 q11.1 0 0 q219.2)
                  else
                    (some (false, q219.2)))
                else
                  (f_L_isGood_L136 K (fun v0_136 v1_136 v2_136 v3_136 v4_136 v5_136 w194 =>
                    (chk K 10 v0_136).bind fun a195 =>
                    (f_NX12_matter K a195 v2_136 3 w194).bind fun q196 =>
                    if v4_136 = q196.1 then
                      ((f_NX12_hearing K a195 v2_136 0 q196.2).bind fun q198 =>
                      if 0 ≤ q198.1 then
                        ((f_NX12_hearing K a195 v2_136 3 q198.2).bind fun q200 =>
                        (cha K 20 v1_136).bind fun a201 =>
                        (ixa q200.1 a201.2).bind fun j202 =>
                        (f_NX12_matter K a195 v2_136 1 q200.2).bind fun q203 =>
                        (ixa q200.1 a201.2).bind fun j204 =>
                        (some (tI q203.2 a201.1 j204 ((aI q200.2 a201.1 j202) + q203.1))).bind fun w205 =>
                        (f_NX12_hearing K a195 v2_136 2 w205).bind fun q206 =>
                        (f_NX12_hearing K a195 v2_136 0 q206.2).bind fun q207 =>
                        (f_NX12_hearing K a195 v2_136 1 q207.2).bind fun q208 =>
                        (f_NX12_caseAt K a195 q206.1 q207.1 q208.1 q208.2).bind fun q209 =>
                        if q209.1 = v2_136 then
                          (if v3_136 = 1 then
                            ((f_NX12_hearing K a195 v2_136 0 q209.2).bind fun q212 =>
                            (f_NX12_hearing K a195 v2_136 1 q212.2).bind fun q213 =>
                            (f_NX12_hearing K a195 v2_136 2 q213.2).bind fun q214 =>
                            (f_NX12_hearing K a195 v2_136 3 q214.2).bind fun q215 =>
                            (f_NX12_problem K a195 v2_136 q212.1 q213.1 q214.1 q215.1 q215.2).bind fun q216 =>
                            if q216.1 = 0 then
                              (f_L_isGood_L39 K k n v0_136 v1_136 (v2_136 + 1) q216.2)
                            else
                              (some (false, q216.2)))
                          else
                            (f_L_isGood_L39 K k n v0_136 v1_136 (v2_136 + 1) q209.2))
                        else
                          (some (false, q209.2)))
                      else
                        (f_L_isGood_L39 K k n v0_136 v1_136 (v2_136 + 1) q198.2))
                    else
                      (some (false, q196.2))) fu v0_39 v1_39 v2_39 q11.1 0 0 q192.2)))
            else
              ((f_NX12_matter K a10 v2_39 6 q132.2).bind fun q136 =>
              if q136.1 = 1 then
                ((f_NX12_matter K a10 v2_39 3 q136.2).bind fun q162 =>
                (f_X12_count K a10 8 q162.2).bind fun q163 =>
                if q162.1 ≤ q163.1 then
                  (f_L_isGood_L136 K (fun v0_136 v1_136 v2_136 v3_136 v4_136 v5_136 w165 =>
                    (chk K 10 v0_136).bind fun a166 =>
                    (f_NX12_matter K a166 v2_136 3 w165).bind fun q167 =>
                    if v4_136 = q167.1 then
                      ((f_NX12_hearing K a166 v2_136 0 q167.2).bind fun q169 =>
                      if 0 ≤ q169.1 then
                        ((f_NX12_hearing K a166 v2_136 3 q169.2).bind fun q171 =>
                        (cha K 20 v1_136).bind fun a172 =>
                        (ixa q171.1 a172.2).bind fun j173 =>
                        (f_NX12_matter K a166 v2_136 1 q171.2).bind fun q174 =>
                        (ixa q171.1 a172.2).bind fun j175 =>
                        (some (tI q174.2 a172.1 j175 ((aI q171.2 a172.1 j173) + q174.1))).bind fun w176 =>
                        (f_NX12_hearing K a166 v2_136 2 w176).bind fun q177 =>
                        (f_NX12_hearing K a166 v2_136 0 q177.2).bind fun q178 =>
                        (f_NX12_hearing K a166 v2_136 1 q178.2).bind fun q179 =>
                        (f_NX12_caseAt K a166 q177.1 q178.1 q179.1 q179.2).bind fun q180 =>
                        if q180.1 = v2_136 then
                          (if v3_136 = 1 then
                            ((f_NX12_hearing K a166 v2_136 0 q180.2).bind fun q183 =>
                            (f_NX12_hearing K a166 v2_136 1 q183.2).bind fun q184 =>
                            (f_NX12_hearing K a166 v2_136 2 q184.2).bind fun q185 =>
                            (f_NX12_hearing K a166 v2_136 3 q185.2).bind fun q186 =>
                            (f_NX12_problem K a166 v2_136 q183.1 q184.1 q185.1 q186.1 q186.2).bind fun q187 =>
                            if q187.1 = 0 then
                              (f_L_isGood_L39 K k n v0_136 v1_136 (v2_136 + 1) q187.2)
                            else
                              (some (false, q187.2)))
                          else
                            (f_L_isGood_L39 K k n v0_136 v1_136 (v2_136 + 1) q180.2))
                        else
                          (some (false, q180.2)))
                      else
                        (f_L_isGood_L39 K k n v0_136 v1_136 (v2_136 + 1) q169.2))
                    else
                      (some (false, q167.2))) fu v0_39 v1_39 v2_39 q11.1 0 0 q163.2)
                else
                  (some (false, q163.2)))
              else
                (f_L_isGood_L136 K (fun v0_136 v1_136 v2_136 v3_136 v4_136 v5_136 w138 =>
                  (chk K 10 v0_136).bind fun a139 =>
                  (f_NX12_matter K a139 v2_136 3 w138).bind fun q140 =>
                  if v4_136 = q140.1 then
                    ((f_NX12_hearing K a139 v2_136 0 q140.2).bind fun q142 =>
                    if 0 ≤ q142.1 then
                      ((f_NX12_hearing K a139 v2_136 3 q142.2).bind fun q144 =>
                      (cha K 20 v1_136).bind fun a145 =>
                      (ixa q144.1 a145.2).bind fun j146 =>
                      (f_NX12_matter K a139 v2_136 1 q144.2).bind fun q147 =>
                      (ixa q144.1 a145.2).bind fun j148 =>
                      (some (tI q147.2 a145.1 j148 ((aI q144.2 a145.1 j146) + q147.1))).bind fun w149 =>
                      (f_NX12_hearing K a139 v2_136 2 w149).bind fun q150 =>
                      (f_NX12_hearing K a139 v2_136 0 q150.2).bind fun q151 =>
                      (f_NX12_hearing K a139 v2_136 1 q151.2).bind fun q152 =>
                      (f_NX12_caseAt K a139 q150.1 q151.1 q152.1 q152.2).bind fun q153 =>
                      if q153.1 = v2_136 then
                        (if v3_136 = 1 then
                          ((f_NX12_hearing K a139 v2_136 0 q153.2).bind fun q156 =>
                          (f_NX12_hearing K a139 v2_136 1 q156.2).bind fun q157 =>
                          (f_NX12_hearing K a139 v2_136 2 q157.2).bind fun q158 =>
                          (f_NX12_hearing K a139 v2_136 3 q158.2).bind fun q159 =>
                          (f_NX12_problem K a139 v2_136 q156.1 q157.1 q158.1 q159.1 q159.2).bind fun q160 =>
                          if q160.1 = 0 then
                            (f_L_isGood_L39 K k n v0_136 v1_136 (v2_136 + 1) q160.2)
                          else
                            (some (false, q160.2)))
                        else
                          (f_L_isGood_L39 K k n v0_136 v1_136 (v2_136 + 1) q153.2))
                      else
                        (some (false, q153.2)))
                    else
                      (f_L_isGood_L39 K k n v0_136 v1_136 (v2_136 + 1) q142.2))
                  else
                    (some (false, q140.2))) fu v0_39 v1_39 v2_39 q11.1 0 0 q136.2)))
          else
            (some (false, q132.2)))))

def f_L_isGood (K : Kd) (n : Nat) (a_0 : Option Nat) (w : Wd) : Option (Bool × Wd) :=
  (chk K 10 a_0).bind fun a1 =>
  (f_X12_count K a1 10 w).bind fun q2 =>
  (f_X12_count K a1 11 q2.2).bind fun q3 =>
  (f_X12_count K a1 12 q3.2).bind fun q4 =>
  (f_X12_count K a1 13 q4.2).bind fun q5 =>
  if (((q2.1 + q3.1) + q4.1) + q5.1) = 4 then
    ((some (clr q5.2 n)).bind fun w7 =>
    f_L_isGood_L39 (kup K n (20, 2)) (fun v0_39 v1_39 v2_39 w8 =>
      (cha (kup K n (20, 2)) 20 v1_39).bind fun a360 =>
      (ixa 0 a360.2).bind fun j361 =>
      (chk (kup K n (20, 2)) 10 v0_39).bind fun a362 =>
      (f_NX12_load (kup K n (20, 2)) a362 0 w8).bind fun q363 =>
      if (aI w8 a360.1 j361) = q363.1 then
        ((ixa 1 a360.2).bind fun j365 =>
        (f_NX12_load (kup K n (20, 2)) a362 1 q363.2).bind fun q366 =>
        if (aI q363.2 a360.1 j365) = q366.1 then
          (some (true, q366.2))
        else
          (some (false, q366.2)))
      else
        (some (false, q363.2))) fu a_0 (some n) 0 w7)
  else
    (none)

def f_NX12_openDays (K : Kd) (o : Nat) (a_1 : Int32) (w : Wd) : Option (Int32 × Wd) :=
  (f_NX12_requireExisting K o 3 a_1 w).bind fun q1 =>
  (f_NX12_requireUnfinished K o a_1 q1).bind fun q2 =>
  (chk K 5 (wR q2 1211 o)).bind fun a3 =>
  (f_X6_countOpenDays K a3 (wR q2 1205 o) a_1 q2).bind fun q4 =>
  some (q4.1, q4.2)

def f_NX12_opening (K : Kd) (o : Nat) (a_1 : Int32) (a_2 : Int32) (w : Wd) : Option (Int32 × Wd) :=
  (f_NX12_requireExisting K o 3 a_1 w).bind fun q1 =>
  if a_2 < 0 then
    (none)
  else
    (if a_2 ≤ 3 then
      ((f_NX12_requireUnfinished K o a_1 q1).bind fun q4 =>
      (chk K 5 (wR q4 1211 o)).bind fun a5 =>
      (f_X6_findFirst K a5 (wR q4 1205 o) a_1 0 q4).bind fun q6 =>
      if (b2i q6.1) = 0 then
        (some ((-1), q6.2))
      else
        (if a_2 < 0 ∨ 2 < a_2 then
          ((chk K 5 (wR q6.2 1211 o)).bind fun a9 =>
          some ((wI q6.2 611 a9), q6.2))
        else if a_2 = 0 then
          ((chk K 5 (wR q6.2 1211 o)).bind fun a11 =>
          some ((wI q6.2 608 a11), q6.2))
        else if a_2 = 1 then
          ((chk K 5 (wR q6.2 1211 o)).bind fun a13 =>
          some ((wI q6.2 609 a13), q6.2))
        else if a_2 = 2 then
          ((chk K 5 (wR q6.2 1211 o)).bind fun a15 =>
          some ((wI q6.2 610 a15), q6.2))
        else none))
    else
      (none))

def f_X12_init (K : Kd) (n : Nat) (o : Nat) (w : Wd) : Option (Kd × Nat × Wd) :=
  (some (kup K n (8, 0))).bind fun K1 =>
  (some (clr w n)).bind fun w2 =>
  (f_X9_init K1 (n + 1) n w2).bind fun q3 =>
  (some (kup q3.1 q3.2.1 (21, 900))).bind fun K4 =>
  (some (clr q3.2.2 q3.2.1)).bind fun w5 =>
  (chk K4 10 (some o)).bind fun a6 =>
  (some (sR w5 1200 a6 (some q3.2.1))).bind fun w7 =>
  (some (kup K4 (q3.2.1 + 1) (4, 0))).bind fun K8 =>
  (some (clr w7 (q3.2.1 + 1))).bind fun w9 =>
  (f_X5_init K8 ((q3.2.1 + 1) + 1) (q3.2.1 + 1) w9).bind fun q10 =>
  (chk q10.1 10 (some o)).bind fun a11 =>
  (some (sR q10.2.2 1202 a11 (some (q3.2.1 + 1)))).bind fun w12 =>
  (some (sI w12 1203 a11 0)).bind fun w13 =>
  (some (sI w13 1204 a11 (-1))).bind fun w14 =>
  (some (kup q10.1 q10.2.1 (9, 0))).bind fun K15 =>
  (some (clr w14 q10.2.1)).bind fun w16 =>
  (f_X10_init K15 (q10.2.1 + 1) q10.2.1 (some n) w16).bind fun q17 =>
  (chk q17.1 10 (some o)).bind fun a18 =>
  (some (sR q17.2.2 1205 a18 (some q10.2.1))).bind fun w19 =>
  (some (kup q17.1 q17.2.1 (9, 0))).bind fun K20 =>
  (some (clr w19 q17.2.1)).bind fun w21 =>
  (f_X10_init K20 (q17.2.1 + 1) q17.2.1 (some n) w21).bind fun q22 =>
  (chk q22.1 10 (some o)).bind fun a23 =>
  (some (sR q22.2.2 1206 a23 (some q17.2.1))).bind fun w24 =>
  (some (kup q22.1 q22.2.1 (9, 0))).bind fun K25 =>
  (some (clr w24 q22.2.1)).bind fun w26 =>
  (f_X10_init K25 (q22.2.1 + 1) q22.2.1 (some n) w26).bind fun q27 =>
  (chk q27.1 10 (some o)).bind fun a28 =>
  (some (sR q27.2.2 1208 a28 (some q22.2.1))).bind fun w29 =>
  (some (kup q27.1 q27.2.1 (28, 8))).bind fun K30 =>
  (some (clr w29 q27.2.1)).bind fun w31 =>
  (chk K30 10 (some o)).bind fun a32 =>
  (some (sR w31 1209 a32 (some q27.2.1))).bind fun w33 =>
  (some (kup K30 (q27.2.1 + 1) (9, 0))).bind fun K35 =>
  (some (clr w33 (q27.2.1 + 1))).bind fun w36 =>
  (f_X10_init K35 ((q27.2.1 + 1) + 1) (q27.2.1 + 1) (some n) w36).bind fun q37 =>
  (cha q37.1 28 (wR w33 1209 a32)).bind fun a38 =>
  (ixa 0 a38.2).bind fun j39 =>
  (chk q37.1 9 (some (q27.2.1 + 1))).bind fun a40 =>
  (some (tR q37.2.2 a38.1 j39 (some a40))).bind fun w41 =>
  (chk q37.1 10 (some o)).bind fun a43 =>
  (some (kup q37.1 q37.2.1 (9, 0))).bind fun K44 =>
  (some (clr w41 q37.2.1)).bind fun w45 =>
  (f_X10_init K44 (q37.2.1 + 1) q37.2.1 (some n) w45).bind fun q46 =>
  (cha q46.1 28 (wR w41 1209 a43)).bind fun a47 =>
  (ixa 1 a47.2).bind fun j48 =>
  (chk q46.1 9 (some q37.2.1)).bind fun a49 =>
  (some (tR q46.2.2 a47.1 j48 (some a49))).bind fun w50 =>
  (chk q46.1 10 (some o)).bind fun a52 =>
  (some (kup q46.1 q46.2.1 (9, 0))).bind fun K53 =>
  (some (clr w50 q46.2.1)).bind fun w54 =>
  (f_X10_init K53 (q46.2.1 + 1) q46.2.1 (some n) w54).bind fun q55 =>
  (cha q55.1 28 (wR w50 1209 a52)).bind fun a56 =>
  (ixa 2 a56.2).bind fun j57 =>
  (chk q55.1 9 (some q46.2.1)).bind fun a58 =>
  (some (tR q55.2.2 a56.1 j57 (some a58))).bind fun w59 =>
  (chk q55.1 10 (some o)).bind fun a61 =>
  (some (kup q55.1 q55.2.1 (9, 0))).bind fun K62 =>
  (some (clr w59 q55.2.1)).bind fun w63 =>
  (f_X10_init K62 (q55.2.1 + 1) q55.2.1 (some n) w63).bind fun q64 =>
  (cha q64.1 28 (wR w59 1209 a61)).bind fun a65 =>
  (ixa 3 a65.2).bind fun j66 =>
  (chk q64.1 9 (some q55.2.1)).bind fun a67 =>
  (some (tR q64.2.2 a65.1 j66 (some a67))).bind fun w68 =>
  (chk q64.1 10 (some o)).bind fun a70 =>
  (some (kup q64.1 q64.2.1 (9, 0))).bind fun K71 =>
  (some (clr w68 q64.2.1)).bind fun w72 =>
  (f_X10_init K71 (q64.2.1 + 1) q64.2.1 (some n) w72).bind fun q73 =>
  (cha q73.1 28 (wR w68 1209 a70)).bind fun a74 =>
  (ixa 4 a74.2).bind fun j75 =>
  (chk q73.1 9 (some q64.2.1)).bind fun a76 =>
  (some (tR q73.2.2 a74.1 j75 (some a76))).bind fun w77 =>
  (chk q73.1 10 (some o)).bind fun a79 =>
  (some (kup q73.1 q73.2.1 (9, 0))).bind fun K80 =>
  (some (clr w77 q73.2.1)).bind fun w81 =>
  (f_X10_init K80 (q73.2.1 + 1) q73.2.1 (some n) w81).bind fun q82 =>
  (cha q82.1 28 (wR w77 1209 a79)).bind fun a83 =>
  (ixa 5 a83.2).bind fun j84 =>
  (chk q82.1 9 (some q73.2.1)).bind fun a85 =>
  (some (tR q82.2.2 a83.1 j84 (some a85))).bind fun w86 =>
  (chk q82.1 10 (some o)).bind fun a88 =>
  (some (kup q82.1 q82.2.1 (9, 0))).bind fun K89 =>
  (some (clr w86 q82.2.1)).bind fun w90 =>
  (f_X10_init K89 (q82.2.1 + 1) q82.2.1 (some n) w90).bind fun q91 =>
  (cha q91.1 28 (wR w86 1209 a88)).bind fun a92 =>
  (ixa 6 a92.2).bind fun j93 =>
  (chk q91.1 9 (some q82.2.1)).bind fun a94 =>
  (some (tR q91.2.2 a92.1 j93 (some a94))).bind fun w95 =>
  (chk q91.1 10 (some o)).bind fun a97 =>
  (some (kup q91.1 q91.2.1 (9, 0))).bind fun K98 =>
  (some (clr w95 q91.2.1)).bind fun w99 =>
  (f_X10_init K98 (q91.2.1 + 1) q91.2.1 (some n) w99).bind fun q100 =>
  (cha q100.1 28 (wR w95 1209 a97)).bind fun a101 =>
  (ixa 7 a101.2).bind fun j102 =>
  (chk q100.1 9 (some q91.2.1)).bind fun a103 =>
  (some (tR q100.2.2 a101.1 j102 (some a103))).bind fun w104 =>
  (some (kup q100.1 q100.2.1 (5, 0))).bind fun K106 =>
  (some (clr w104 q100.2.1)).bind fun w107 =>
  (f_X6_init K106 (q100.2.1 + 1) q100.2.1 w107).bind fun q108 =>
  (chk q108.1 10 (some o)).bind fun a109 =>
  (some (sR q108.2.2 1211 a109 (some q100.2.1))).bind fun w110 =>
  (some (kup q108.1 q108.2.1 (0, 0))).bind fun K111 =>
  (some (clr w110 q108.2.1)).bind fun w112 =>
  (f_X1_init K111 (q108.2.1 + 1) q108.2.1 w112).bind fun q113 =>
  (chk q113.1 10 (some o)).bind fun a114 =>
  (some (sR q113.2.2 1212 a114 (some q108.2.1))).bind fun w115 =>
  (some (kup q113.1 q113.2.1 (20, 12))).bind fun K116 =>
  (some (clr w115 q113.2.1)).bind fun w117 =>
  (chk K116 10 (some o)).bind fun a118 =>
  (some (sR w117 1213 a118 (some q113.2.1))).bind fun w119 =>
  (some (kup K116 (q113.2.1 + 1) (21, 348))).bind fun K120 =>
  (some (clr w119 (q113.2.1 + 1))).bind fun w121 =>
  (chk K120 10 (some o)).bind fun a122 =>
  (some (sR w121 1214 a122 (some (q113.2.1 + 1)))).bind fun w123 =>
  some (K120, ((q113.2.1 + 1) + 1), w123)

def f_X12_planNext (K : Kd) (o : Nat) (a_1 : Int32) (w : Wd) : Option ((Int32 ⊕ Nat) × Wd) :=
  (f_X12_requireExisting K o 3 a_1 w).bind fun q1 =>
  xk q1 fun _ =>
  (chk K 9 (wR q1.2 1205 o)).bind fun a3 =>
  (cha K 27 (wR q1.2 1005 a3)).bind fun a4 =>
  (ixa a_1 a4.2).bind fun j5 =>
  (chk K 6 (aR q1.2 a4.1 j5)).bind fun a6 =>
  if (wI q1.2 700 a6) = 0 then
    ((chk K 5 (wR q1.2 1211 o)).bind fun a8 =>
    (f_X6_findFirst K a8 (wR q1.2 1205 o) a_1 0 q1.2).bind fun q9 =>
    if (b2i q9.1) = 0 then
      (some (.inr 4, q9.2))
    else
      ((f_X12_remember K o q9.2).bind fun q11 =>
      (chk K 5 (wR q11 1211 o)).bind fun a12 =>
      (f_X6_setFound K a12 (wR q11 1205 o) a_1 q11).bind fun q13 =>
      (chk K 5 (wR q13 1211 o)).bind fun a14 =>
      some (.inl (wI q13 608 a14), q13)))
  else
    (some (.inr 3, q1.2))

def f_X12_planAll (K : Kd) (o : Nat) (w : Wd) : Option (Int32 × Wd) :=
  (f_X12_remember K o w).bind fun q1 =>
  (chk K 5 (wR q1 1211 o)).bind fun a2 =>
  (f_X6_planWaiting K a2 (wR q1 1205 o) 0 q1).bind fun q3 =>
  some (q3.1, q3.2)

def f_X12_forecastPlanned (K : Kd) (o : Nat) (a_1 : Int32) (w : Wd) : Option (Int32 × Wd) :=
  (chk K 9 (wR w 1208 o)).bind fun a1 =>
  (f_X10_copyFrom K a1 (wR w 1205 o) w).bind fun q2 =>
  (chk K 5 (wR q2 1211 o)).bind fun a3 =>
  (f_X6_planWaiting K a3 (wR q2 1208 o) a_1 q2).bind fun q4 =>
  some (q4.1, q4.2)

def f_X5_takesStatement (K : Kd) (o : Nat) (w : Wd) : Option (Bool × Wd) :=
  (chk K 7 (wR w 500 o)).bind fun a1 =>
  (tki (wR w 804 a1)).bind fun a2 =>
  (f_Jx29ce0_ordinal_8abf5 K a2 w).bind fun q3 =>
  (ixa q3.1 21).bind fun j4 =>
  if (swm.getD j4 0) < 1 ∨ 9 < (swm.getD j4 0) then
    ((f_X5_fail K o 1 q3.2).bind fun q6 =>
    some (q6.1, q6.2))
  else if (swm.getD j4 0) = 1 then
    ((f_X5_takesHoliday K o q3.2).bind fun q8 =>
    some (q8.1, q8.2))
  else if (swm.getD j4 0) = 2 then
    ((f_X5_takesRoom K o q3.2).bind fun q10 =>
    some (q10.1, q10.2))
  else if (swm.getD j4 0) = 3 then
    ((f_X5_takesOfficer K o q3.2).bind fun q12 =>
    some (q12.1, q12.2))
  else if (swm.getD j4 0) = 4 then
    ((f_X5_takesWitness K o q3.2).bind fun q14 =>
    some (q14.1, q14.2))
  else if (swm.getD j4 0) = 5 then
    ((f_X5_takesCase K o q3.2).bind fun q16 =>
    some (q16.1, q16.2))
  else if (swm.getD j4 0) = 6 then
    ((f_X5_takesBar K o q3.2).bind fun q18 =>
    some (q18.1, q18.2))
  else if (swm.getD j4 0) = 7 then
    ((f_X5_takesConflict K o q3.2).bind fun q20 =>
    some (q20.1, q20.2))
  else if (swm.getD j4 0) = 8 then
    ((f_X5_takesLengthen K o q3.2).bind fun q22 =>
    some (q22.1, q22.2))
  else if (swm.getD j4 0) = 9 then
    ((f_X5_takesCap K o q3.2).bind fun q24 =>
    some (q24.1, q24.2))
  else none

def f_L_planned (K : Kd) (a_0 : Option Nat) (a_1 : Int32) (w : Wd) : Option (Int32 × Wd) :=
  (chk K 10 a_0).bind fun a1 =>
  (f_X12_planNext K a1 a_1 w).bind fun q2 =>
  xh q2 (fun v3 =>
    some (v3, q2.2)) (fun c4 =>
    if c4 = 3 then
      (some ((-1), q2.2))
    else
    if c4 = 4 then
      (some ((-2), q2.2))
    else none)

def f_L_act (L : Nat) (xs : Nat → Int32) (K : Kd) (a_0 : Option Nat) (a_2 : Int32) (w : Wd) : Option Wd :=
  (f_L_draw L xs K ((4 * a_2) + 1) 0 3 w).bind fun q1 =>
  (f_L_draw L xs K ((4 * a_2) + 2) 0 3 q1.2).bind fun q2 =>
  (f_L_draw L xs K (4 * a_2) 0 7 q2.2).bind fun q3 =>
  if q3.1 < 0 ∨ 6 < q3.1 then
    ((f_L_draw L xs K ((4 * a_2) + 3) 1 5 q3.2).bind fun q5 =>
    (chk K 10 a_0).bind fun a6 =>
    (f_NX12_pass K a6 q5.1 q5.2).bind fun q7 =>
    some q7.2)
  else if q3.1 = 0 then
    ((f_L_planned K a_0 q1.1 q3.2).bind fun q9 =>
    some q9.2)
  else if q3.1 = 1 then
    ((f_L_planned K a_0 q1.1 q3.2).bind fun q11 =>
    some q11.2)
  else if q3.1 = 2 then
    ((f_L_adjourned K a_0 q1.1 q2.1 q3.2).bind fun q13 =>
    some q13.2)
  else if q3.1 = 3 then
    ((f_L_draw L xs K ((4 * a_2) + 3) 0 60 q3.2).bind fun q15 =>
    (f_L_withdrawn K a_0 (q2.1 - q2.1 / 2 * 2) q15.1 q15.2).bind fun q16 =>
    some q16.2)
  else if q3.1 = 4 then
    ((f_L_draw L xs K ((4 * a_2) + 3) 0 30 q3.2).bind fun q18 =>
    (f_L_closed K a_0 q18.1 q18.2).bind fun q19 =>
    some q19.2)
  else if q3.1 = 5 then
    ((f_L_barred K a_0 (q2.1 - q2.1 / 2 * 2) q1.1 q3.2).bind fun q21 =>
    if (b2i q21.1) = 0 then
      (some q21.2)
    else
      (some q21.2))
  else if q3.1 = 6 then
    ((chk K 10 a_0).bind fun a24 =>
    (f_X12_planAll K a24 q3.2).bind fun q25 =>
    some q25.2)
  else none

def f_L_isOpening_L99 (K : Kd) (k : Option Nat → Int32 → Int32 → Int32 → Int32 → Int32 → Wd → Option (Bool × Wd)) : Nat → Option Nat → Int32 → Int32 → Int32 → Int32 → Int32 → Wd → Option (Bool × Wd)
  | 0, _, _, _, _, _, _, _ => none
  | n + 1, v0_99, v1_99, v2_99, v3_99, v4_99, v5_99, w =>
    if 2 ≤ v5_99 then
      (k v0_99 v1_99 v2_99 v3_99 v4_99 v5_99 w)
    else
      ((chk K 10 v0_99).bind fun a20 =>
      (f_NX12_problem K a20 v1_99 (v2_99 - 1) v3_99 v4_99 v5_99 w).bind fun q21 =>
      if q21.1 = 0 then
        (some (false, q21.2))
      else
        (f_L_isOpening_L99 K k n v0_99 v1_99 v2_99 v3_99 v4_99 (v5_99 + 1) q21.2))

def f_L_isOpening_L90 (K : Kd) (k : Option Nat → Int32 → Int32 → Int32 → Int32 → Wd → Option (Bool × Wd)) : Nat → Option Nat → Int32 → Int32 → Int32 → Int32 → Wd → Option (Bool × Wd)
  | 0, _, _, _, _, _, _ => none
  | n + 1, v0_90, v1_90, v2_90, v3_90, v4_90, w =>
    if 2 ≤ v4_90 then
      (k v0_90 v1_90 v2_90 v3_90 v4_90 w)
    else
      (f_L_isOpening_L99 K (fun v0_99 v1_99 v2_99 v3_99 v4_99 v5_99 w18 =>
        f_L_isOpening_L90 K k n v0_99 v1_99 v2_99 v3_99 (v4_99 + 1) w18) fu v0_90 v1_90 v2_90 v3_90 v4_90 0 w)

def f_L_isOpening_L77 (K : Kd) (k : Option Nat → Int32 → Int32 → Int32 → Wd → Option (Bool × Wd)) : Nat → Option Nat → Int32 → Int32 → Int32 → Wd → Option (Bool × Wd)
  | 0, _, _, _, _, _ => none
  | n + 1, v0_77, v1_77, v2_77, v3_77, w =>
    if 8 ≤ v3_77 then
      (k v0_77 v1_77 v2_77 v3_77 w)
    else
      (if v2_77 ≤ 0 then
        (k v0_77 v1_77 v2_77 v3_77 w)
      else
        (f_L_isOpening_L90 K (fun v0_90 v1_90 v2_90 v3_90 v4_90 w16 =>
          f_L_isOpening_L77 K k n v0_90 v1_90 v2_90 (v3_90 + 1) w16) fu v0_77 v1_77 v2_77 v3_77 0 w))

def f_L_isOpening (K : Kd) (a_0 : Option Nat) (a_1 : Int32) (w : Wd) : Option (Bool × Wd) :=
  (chk K 10 a_0).bind fun a1 =>
  (f_NX12_matter K a1 a_1 5 w).bind fun q2 =>
  if q2.1 ≤ 1 then
    ((f_NX12_opening K a1 a_1 0 q2.2).bind fun q4 =>
    if 0 ≤ q4.1 then
      ((f_NX12_openDays K a1 a_1 q4.2).bind fun q6 =>
      if q6.1 < 1 then
        (some (false, q6.2))
      else
        ((f_NX12_opening K a1 a_1 1 q6.2).bind fun q8 =>
        (f_NX12_opening K a1 a_1 2 q8.2).bind fun q9 =>
        (f_NX12_opening K a1 a_1 3 q9.2).bind fun q10 =>
        (f_NX12_problem K a1 a_1 q4.1 q8.1 q9.1 q10.1 q10.2).bind fun q11 =>
        if q11.1 = 0 then
          (f_L_isOpening_L77 K (fun v0_77 v1_77 v2_77 v3_77 w13 =>
            some (true, w13)) fu a_0 a_1 q4.1 0 q11.2)
        else
          (some (false, q11.2))))
    else
      ((f_NX12_openDays K a1 a_1 q4.2).bind fun q23 =>
      if q23.1 = 0 then
        (some (true, q23.2))
      else
        (some (false, q23.2))))
  else
    (some (true, q2.2))

def f_X12_plannable (K : Kd) (o : Nat) (w : Wd) : Option (Int32 × Wd) :=
  (f_X12_forecastPlanned K o 0 w).bind fun q1 =>
  some (q1.1, q1.2)

def f_X5_read_L28 (K : Kd) (o : Nat) (k : Option Nat → Int32 → Int32 → Wd → Option (Bool × Wd)) : Nat → Option Nat → Int32 → Int32 → Wd → Option (Bool × Wd)
  | 0, _, _, _, _ => none
  | n + 1, v1_28, v2_28, v3_28, w =>
    if 900 < v3_28 then
      (k v1_28 v2_28 v3_28 w)
    else
      ((chk K 7 (wR w 500 o)).bind fun a9 =>
      (grd (tkB (wR w 804 a9) = true)).bind fun _ =>
      if (wR w 804 a9) = (some 19) then
        (some (true, w))
      else
        ((f_X5_takesStatement K o w).bind fun q12 =>
        if (b2i q12.1) = 0 then
          (some (false, q12.2))
        else
          ((f_X5_takes K o (some 18) q12.2).bind fun q14 =>
          if (b2i q14.1) = 0 then
            (some (false, q14.2))
          else
            (f_X5_read_L28 K o k n v1_28 v2_28 (v3_28 + 1) q14.2))))

def f_X5_read (K : Kd) (o : Nat) (a_1 : Option Nat) (a_2 : Int32) (w : Wd) : Option (Bool × Wd) :=
  (some (sI w 502 o 0)).bind fun w1 =>
  (some (sI w1 503 o (-1))).bind fun w2 =>
  (chk K 8 (wR w2 501 o)).bind fun a3 =>
  (f_X9_clear K a3 w2).bind fun q4 =>
  (chk K 7 (wR q4 500 o)).bind fun a5 =>
  (f_X8_begin K a5 a_1 a_2 q4).bind fun q6 =>
  f_X5_read_L28 K o (fun v1_28 v2_28 v3_28 w7 =>
    some (false, w7)) fu a_1 a_2 0 q6
