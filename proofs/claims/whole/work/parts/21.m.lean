def f_X9_countConflicts_L4 (K : Kd) (o : Nat) (k : Int32 → Int32 → Wd → Option (Int32 × Wd)) : Nat → Int32 → Int32 → Wd → Option (Int32 × Wd)
  | 0, _, _, _ => none
  | n + 1, v1_4, v2_4, w =>
    (f_X9_size K o 3 w).bind fun q2 =>
    if q2.1 ≤ v2_4 then
      (k v1_4 v2_4 q2.2)
    else
      ((cha K 25 (wR q2.2 909 o)).bind fun a4 =>
      (ixa v2_4 a4.2).bind fun j5 =>
      (chk K 2 (aR q2.2 a4.1 j5)).bind fun a6 =>
      (f_J6_bitCount_0f7a4 K (wI q2.2 305 a6) q2.2).bind fun q7 =>
      f_X9_countConflicts_L4 K o k n (v1_4 + q7.1) (v2_4 + 1) q7.2)

def f_X9_countConflicts (K : Kd) (o : Nat) (w : Wd) : Option (Int32 × Wd) :=
  f_X9_countConflicts_L4 K o (fun v1_4 v2_4 w1 =>
    some ((v1_4 / 2), w1)) fu 0 0 w

def f_X10_begin_L41 (K : Kd) (o : Nat) (k : Option Nat → Int32 → Wd → Option Wd) : Nat → Option Nat → Int32 → Wd → Option Wd
  | 0, _, _, _ => none
  | n + 1, v1_41, v2_41, w =>
    if 12 ≤ v2_41 then
      (k v1_41 v2_41 w)
    else
      ((chk K 8 v1_41).bind fun a12 =>
      (cha K 25 (wR w 909 a12)).bind fun a13 =>
      (ixa v2_41 a13.2).bind fun j14 =>
      (chk K 2 (aR w a13.1 j14)).bind fun a15 =>
      (cha K 20 (wR w 1004 o)).bind fun a16 =>
      (ixa v2_41 a16.2).bind fun j17 =>
      (some (tI w a16.1 j17 (wI w 306 a15))).bind fun w18 =>
      (cha K 27 (wR w18 1005 o)).bind fun a19 =>
      (ixa v2_41 a19.2).bind fun j20 =>
      (chk K 6 (aR w18 a19.1 j20)).bind fun a21 =>
      (f_X7_clear K a21 w18).bind fun q22 =>
      f_X10_begin_L41 K o k n v1_41 (v2_41 + 1) q22)

def f_X10_begin (K : Kd) (o : Nat) (a_1 : Option Nat) (w : Wd) : Option Wd :=
  (some (sR w 1000 o a_1)).bind fun w1 =>
  (some (sI w1 1001 o 0)).bind fun w2 =>
  (chk K 8 a_1).bind fun a3 =>
  (chk K 1 (wR w2 1002 o)).bind fun a4 =>
  (f_X2_copyFrom K a4 (wR w2 910 a3) w2).bind fun q5 =>
  (cha K 20 (wR q5 1003 o)).bind fun a6 =>
  (cha K 20 (wR q5 906 a3)).bind fun a7 =>
  (grd (¬ (0 : Int32) < 0 ∧ ¬ (0 : Int32) < 0 ∧ ¬ (nI a6.2) < 0 ∧ (0 : Int32).toNatClampNeg + (nI a6.2).toNatClampNeg ≤ a7.2 ∧ (0 : Int32).toNatClampNeg + (nI a6.2).toNatClampNeg ≤ a6.2)).bind fun _ =>
  (some (tA q5 a6.1 (va_cpy (aI q5 a7.1) (aI q5 a6.1) (0 : Int32).toNatClampNeg (0 : Int32).toNatClampNeg (nI a6.2).toNatClampNeg))).bind fun w9 =>
  f_X10_begin_L41 K o (fun v1_41 v2_41 w10 =>
    some w10) fu a_1 0 w9

def f_X10_countBars_L4 (K : Kd) (o : Nat) (k : Int32 → Int32 → Wd → Option (Int32 × Wd)) : Nat → Int32 → Int32 → Wd → Option (Int32 × Wd)
  | 0, _, _, _ => none
  | n + 1, v1_4, v2_4, w =>
    (chk K 8 (wR w 1000 o)).bind fun a2 =>
    (f_X9_size K a2 3 w).bind fun q3 =>
    if q3.1 ≤ v2_4 then
      (k v1_4 v2_4 q3.2)
    else
      ((cha K 20 (wR q3.2 1004 o)).bind fun a5 =>
      (ixa v2_4 a5.2).bind fun j6 =>
      (f_J6_bitCount_0f7a4 K (aI q3.2 a5.1 j6) q3.2).bind fun q7 =>
      f_X10_countBars_L4 K o k n (v1_4 + q7.1) (v2_4 + 1) q7.2)

def f_X10_countBars (K : Kd) (o : Nat) (w : Wd) : Option (Int32 × Wd) :=
  f_X10_countBars_L4 K o (fun v1_4 v2_4 w1 =>
    some (v1_4, w1)) fu 0 0 w

def f_X10_caseTaking_L3 (K : Kd) (o : Nat) (k : Int32 → Int32 → Int32 → Int32 → Wd → Option (Int32 × Wd)) : Nat → Int32 → Int32 → Int32 → Int32 → Wd → Option (Int32 × Wd)
  | 0, _, _, _, _, _ => none
  | n + 1, v1_3, v2_3, v3_3, v4_3, w =>
    (chk K 8 (wR w 1000 o)).bind fun a2 =>
    (f_X9_size K a2 3 w).bind fun q3 =>
    if q3.1 ≤ v4_3 then
      (k v1_3 v2_3 v3_3 v4_3 q3.2)
    else
      ((cha K 27 (wR q3.2 1005 o)).bind fun a5 =>
      (ixa v4_3 a5.2).bind fun j6 =>
      (chk K 6 (aR q3.2 a5.1 j6)).bind fun a7 =>
      (f_X7_isOn K a7 v2_3 q3.2).bind fun q8 =>
      if (b2i q8.1) = 0 then
        (f_X10_caseTaking_L3 K o k n v1_3 v2_3 v3_3 (v4_3 + 1) q8.2)
      else
        ((cha K 27 (wR q8.2 1005 o)).bind fun a10 =>
        (ixa v4_3 a10.2).bind fun j11 =>
        (chk K 6 (aR q8.2 a10.1 j11)).bind fun a12 =>
        if (wI q8.2 704 a12) = v1_3 then
          ((f_X10_slotsOf K o v4_3 q8.2).bind fun q14 =>
          (f_X12_has K q14.1 v3_3 q14.2).bind fun q15 =>
          if (b2i q15.1) = 0 then
            (f_X10_caseTaking_L3 K o k n v1_3 v2_3 v3_3 (v4_3 + 1) q15.2)
          else
            (some (v4_3, q15.2)))
        else
          (f_X10_caseTaking_L3 K o k n v1_3 v2_3 v3_3 (v4_3 + 1) q8.2)))

def f_X10_caseTaking (K : Kd) (o : Nat) (a_1 : Int32) (a_2 : Int32) (a_3 : Int32) (w : Wd) : Option (Int32 × Wd) :=
  f_X10_caseTaking_L3 K o (fun v1_3 v2_3 v3_3 v4_3 w1 =>
    some ((-1), w1)) fu a_1 a_2 a_3 0 w

def f_X10_sortWaiting_L4 (K : Kd) (o : Nat) (k : Option Nat → Int32 → Int32 → Wd → Option (Int32 × Wd)) : Nat → Option Nat → Int32 → Int32 → Wd → Option (Int32 × Wd)
  | 0, _, _, _, _ => none
  | n + 1, v1_4, v2_4, v3_4, w =>
    (chk K 8 (wR w 1000 o)).bind fun a2 =>
    (f_X9_size K a2 3 w).bind fun q3 =>
    if q3.1 ≤ v3_4 then
      (k v1_4 v2_4 v3_4 q3.2)
    else
      ((cha K 20 v1_4).bind fun a5 =>
      if (nI a5.2) ≤ v2_4 then
        (k v1_4 v2_4 v3_4 q3.2)
      else
        ((cha K 27 (wR q3.2 1005 o)).bind fun a7 =>
        (ixa v3_4 a7.2).bind fun j8 =>
        (chk K 6 (aR q3.2 a7.1 j8)).bind fun a9 =>
        if (wI q3.2 700 a9) = 0 then
          ((f_X10_urgencyKey K o v3_4 q3.2).bind fun q11 =>
          (f_X10_insert K v1_4 v2_4 q11.1 q11.2).bind fun q12 =>
          f_X10_sortWaiting_L4 K o k n v1_4 (v2_4 + 1) (v3_4 + 1) q12)
        else
          (f_X10_sortWaiting_L4 K o k n v1_4 v2_4 (v3_4 + 1) q3.2)))

def f_X10_sortWaiting_L55 (K : Kd) (o : Nat) (k : Option Nat → Int32 → Int32 → Wd → Option (Int32 × Wd)) : Nat → Option Nat → Int32 → Int32 → Wd → Option (Int32 × Wd)
  | 0, _, _, _, _ => none
  | n + 1, v1_55, v2_55, v3_55, w =>
    if v2_55 ≤ v3_55 then
      (k v1_55 v2_55 v3_55 w)
    else
      ((cha K 20 v1_55).bind fun a15 =>
      (ixa v3_55 a15.2).bind fun j16 =>
      (ixa v3_55 a15.2).bind fun j17 =>
      (some (tI w a15.1 j17 ((aI w a15.1 j16) - (aI w a15.1 j16) / 12 * 12))).bind fun w18 =>
      f_X10_sortWaiting_L55 K o k n v1_55 v2_55 (v3_55 + 1) w18)

def f_X10_sortWaiting (K : Kd) (o : Nat) (a_1 : Option Nat) (w : Wd) : Option (Int32 × Wd) :=
  f_X10_sortWaiting_L4 K o (fun v1_4 v2_4 v3_4 w1 =>
    f_X10_sortWaiting_L55 K o (fun v1_55 v2_55 v3_55 w13 =>
      some (v2_55, w13)) fu v1_4 v2_4 0 w1) fu a_1 0 0 w

def f_X10_takeAway (K : Kd) (o : Nat) (a_1 : Int32) (a_2 : Int32) (w : Wd) : Option Wd :=
  (cha K 27 (wR w 1005 o)).bind fun a1 =>
  (ixa a_1 a1.2).bind fun j2 =>
  (chk K 6 (aR w a1.1 j2)).bind fun a3 =>
  if 5 ≤ (wI w 706 a3) then
    ((f_X7_dropHearing K a3 w).bind fun q5 =>
    some q5)
  else
    ((chk K 8 (wR w 1000 o)).bind fun a6 =>
    (cha K 20 (wR w 911 a6)).bind fun a7 =>
    (ixa a_2 a7.2).bind fun j8 =>
    (cha K 25 (wR w 909 a6)).bind fun a9 =>
    (ixa a_1 a9.2).bind fun j10 =>
    (chk K 2 (aR w a9.1 j10)).bind fun a11 =>
    if (b2i (wZ w 303 a11)) = 0 then
      ((f_X7_note K a3 (wI w 1001 o) a_2 (((wI w 701 a3) + (aI w a7.1 j8)) - (wI w 701 a3)) w).bind fun q13 =>
      (some (sI q13 701 a3 ((wI w 701 a3) + (aI w a7.1 j8)))).bind fun w14 =>
      (f_X7_dropHearing K a3 w14).bind fun q15 =>
      some q15)
    else
      ((f_J9_min_7cf53 K ((wI w 701 a3) + (aI w a7.1 j8)) (wI w 913 a6) w).bind fun q16 =>
      (f_X7_note K a3 (wI q16.2 1001 o) a_2 (q16.1 - (wI q16.2 701 a3)) q16.2).bind fun q17 =>
      (some (sI q17 701 a3 q16.1)).bind fun w18 =>
      (f_X7_dropHearing K a3 w18).bind fun q19 =>
      some q19))

def f_X12_count (K : Kd) (o : Nat) (a_1 : Int32) (w : Wd) : Option (Int32 × Wd) :=
  if a_1 < 0 ∨ 13 < a_1 then
    (some ((-1), w))
  else if a_1 = 0 then
    ((chk K 9 (wR w 1205 o)).bind fun a3 =>
    (chk K 8 (wR w 1000 a3)).bind fun a4 =>
    (f_X9_size K a4 0 w).bind fun q5 =>
    some (q5.1, q5.2))
  else if a_1 = 1 then
    ((chk K 9 (wR w 1205 o)).bind fun a7 =>
    (chk K 8 (wR w 1000 a7)).bind fun a8 =>
    (f_X9_size K a8 1 w).bind fun q9 =>
    some (q9.1, q9.2))
  else if a_1 = 2 then
    ((chk K 9 (wR w 1205 o)).bind fun a11 =>
    (chk K 8 (wR w 1000 a11)).bind fun a12 =>
    (f_X9_size K a12 2 w).bind fun q13 =>
    some (q13.1, q13.2))
  else if a_1 = 3 then
    ((chk K 9 (wR w 1205 o)).bind fun a15 =>
    (chk K 8 (wR w 1000 a15)).bind fun a16 =>
    (f_X9_size K a16 3 w).bind fun q17 =>
    some (q17.1, q17.2))
  else if a_1 = 4 then
    ((chk K 9 (wR w 1205 o)).bind fun a19 =>
    (chk K 1 (wR w 1002 a19)).bind fun a20 =>
    some ((wI w 201 a20), w))
  else if a_1 = 5 then
    ((chk K 9 (wR w 1205 o)).bind fun a22 =>
    (f_X10_countBars K a22 w).bind fun q23 =>
    some (q23.1, q23.2))
  else if a_1 = 6 then
    ((chk K 9 (wR w 1205 o)).bind fun a25 =>
    (chk K 8 (wR w 1000 a25)).bind fun a26 =>
    (f_X9_countConflicts K a26 w).bind fun q27 =>
    some (q27.1, q27.2))
  else if a_1 = 7 then
    ((chk K 9 (wR w 1205 o)).bind fun a29 =>
    some ((wI w 1001 a29), w))
  else if a_1 = 8 then
    ((chk K 9 (wR w 1205 o)).bind fun a31 =>
    (chk K 8 (wR w 1000 a31)).bind fun a32 =>
    some ((wI w 913 a32), w))
  else if a_1 = 9 then
    (some ((wI w 1210 o), w))
  else if a_1 = 10 then
    ((chk K 9 (wR w 1205 o)).bind fun a35 =>
    (f_X10_countPhase K a35 0 w).bind fun q36 =>
    some (q36.1, q36.2))
  else if a_1 = 11 then
    ((chk K 9 (wR w 1205 o)).bind fun a38 =>
    (f_X10_countPhase K a38 1 w).bind fun q39 =>
    some (q39.1, q39.2))
  else if a_1 = 12 then
    ((chk K 9 (wR w 1205 o)).bind fun a41 =>
    (f_X10_countPhase K a41 2 w).bind fun q42 =>
    some (q42.1, q42.2))
  else if a_1 = 13 then
    ((chk K 9 (wR w 1205 o)).bind fun a44 =>
    (f_X10_countPhase K a44 3 w).bind fun q45 =>
    some (q45.1, q45.2))
  else none

def f_X12_find (K : Kd) (o : Nat) (a_1 : Int32) (w : Wd) : Option ((Int32 ⊕ Nat) × Wd) :=
  if a_1 < 0 then
    (some (.inr 2, w))
  else
    (if a_1 < 4 then
      ((f_X12_bufferedName K o w).bind fun q3 =>
      (some (sI q3.2 1201 o 0)).bind fun w4 =>
      if (lg_cmp q3.1 0) = 0 then
        (some (.inl (-1), w4))
      else
        ((chk K 9 (wR w4 1205 o)).bind fun a6 =>
        (chk K 8 (wR w4 1000 a6)).bind fun a7 =>
        (cha K 26 (wR w4 900 a7)).bind fun a8 =>
        (ixa a_1 a8.2).bind fun j9 =>
        (chk K 3 (aR w4 a8.1 j9)).bind fun a10 =>
        (f_X4_indexOf K a10 q3.1 w4).bind fun q11 =>
        some (.inl q11.1, q11.2)))
    else
      (some (.inr 2, w)))

def f_X12_witness (K : Kd) (o : Nat) (a_1 : Int32) (a_2 : Int32) (w : Wd) : Option ((Int32 ⊕ Nat) × Wd) :=
  (f_X12_requireExisting K o 2 a_1 w).bind fun q1 =>
  xk q1 fun _ =>
  if a_2 < 0 ∨ 4 < a_2 then
    (some (.inr 1, q1.2))
  else if a_2 = 0 then
    ((chk K 9 (wR q1.2 1205 o)).bind fun a5 =>
    (chk K 8 (wR q1.2 1000 a5)).bind fun a6 =>
    (cha K 20 (wR q1.2 905 a6)).bind fun a7 =>
    (ixa a_1 a7.2).bind fun j8 =>
    some (.inl (aI q1.2 a7.1 j8), q1.2))
  else if a_2 = 1 then
    ((chk K 9 (wR q1.2 1205 o)).bind fun a10 =>
    (cha K 20 (wR q1.2 1003 a10)).bind fun a11 =>
    (ixa a_1 a11.2).bind fun j12 =>
    some (.inl (aI q1.2 a11.1 j12), q1.2))
  else if a_2 = 2 then
    ((chk K 9 (wR q1.2 1205 o)).bind fun a14 =>
    (chk K 8 (wR q1.2 1000 a14)).bind fun a15 =>
    (cha K 20 (wR q1.2 907 a15)).bind fun a16 =>
    (ixa a_1 a16.2).bind fun j17 =>
    some (.inl (aI q1.2 a16.1 j17), q1.2))
  else if a_2 = 3 then
    ((chk K 9 (wR q1.2 1205 o)).bind fun a19 =>
    (chk K 8 (wR q1.2 1000 a19)).bind fun a20 =>
    (cha K 20 (wR q1.2 908 a20)).bind fun a21 =>
    (ixa a_1 a21.2).bind fun j22 =>
    some (.inl (aI q1.2 a21.1 j22), q1.2))
  else if a_2 = 4 then
    ((chk K 9 (wR q1.2 1205 o)).bind fun a24 =>
    (f_X10_countNeeding K a24 a_1 q1.2).bind fun q25 =>
    some (.inl q25.1, q25.2))
  else none

def f_X12_isOff (K : Kd) (o : Nat) (a_1 : Int32) (a_2 : Int32) (w : Wd) : Option ((Bool ⊕ Nat) × Wd) :=
  (f_X12_requireExisting K o 1 a_1 w).bind fun q1 =>
  xk q1 fun _ =>
  (f_X12_requireDay K o a_2 q1.2).bind fun q3 =>
  xk q3 fun _ =>
  (chk K 9 (wR q3.2 1205 o)).bind fun a5 =>
  (chk K 8 (wR q3.2 1000 a5)).bind fun a6 =>
  (f_X9_isAway K a6 a_1 a_2 q3.2).bind fun q7 =>
  some (.inl q7.1, q7.2)

def f_X12_isBarred (K : Kd) (o : Nat) (a_1 : Int32) (a_2 : Int32) (w : Wd) : Option ((Bool ⊕ Nat) × Wd) :=
  (f_X12_requireExisting K o 1 a_1 w).bind fun q1 =>
  xk q1 fun _ =>
  (f_X12_requireExisting K o 3 a_2 q1.2).bind fun q3 =>
  xk q3 fun _ =>
  (chk K 9 (wR q3.2 1205 o)).bind fun a5 =>
  (f_X10_barredOfficers K a5 a_2 q3.2).bind fun q6 =>
  (f_X12_has K q6.1 a_1 q6.2).bind fun q7 =>
  some (.inl q7.1, q7.2)

def f_X12_load (K : Kd) (o : Nat) (a_1 : Int32) (w : Wd) : Option ((Int32 ⊕ Nat) × Wd) :=
  (f_X12_requireExisting K o 1 a_1 w).bind fun q1 =>
  xk q1 fun _ =>
  (chk K 9 (wR q1.2 1205 o)).bind fun a3 =>
  (f_X10_loadOf K a3 a_1 q1.2).bind fun q4 =>
  some (.inl q4.1, q4.2)

def f_X12_matter (K : Kd) (o : Nat) (a_1 : Int32) (a_2 : Int32) (w : Wd) : Option ((Int32 ⊕ Nat) × Wd) :=
  (f_X12_requireExisting K o 3 a_1 w).bind fun q1 =>
  xk q1 fun _ =>
  (chk K 9 (wR q1.2 1205 o)).bind fun a3 =>
  (chk K 8 (wR q1.2 1000 a3)).bind fun a4 =>
  (cha K 25 (wR q1.2 909 a4)).bind fun a5 =>
  (ixa a_1 a5.2).bind fun j6 =>
  (cha K 27 (wR q1.2 1005 a3)).bind fun a7 =>
  (ixa a_1 a7.2).bind fun j8 =>
  if a_2 < 0 ∨ 9 < a_2 then
    (some (.inr 1, q1.2))
  else if a_2 = 0 then
    ((chk K 2 (aR q1.2 a5.1 j6)).bind fun a11 =>
    some (.inl (wI q1.2 300 a11), q1.2))
  else if a_2 = 1 then
    ((chk K 2 (aR q1.2 a5.1 j6)).bind fun a13 =>
    some (.inl (wI q1.2 301 a13), q1.2))
  else if a_2 = 2 then
    ((chk K 2 (aR q1.2 a5.1 j6)).bind fun a15 =>
    some (.inl (wI q1.2 302 a15), q1.2))
  else if a_2 = 3 then
    ((chk K 6 (aR q1.2 a7.1 j8)).bind fun a17 =>
    some (.inl (wI q1.2 701 a17), q1.2))
  else if a_2 = 4 then
    ((f_X10_limitDay K a3 a_1 q1.2).bind fun q19 =>
    some (.inl q19.1, q19.2))
  else if a_2 = 5 then
    ((chk K 6 (aR q1.2 a7.1 j8)).bind fun a21 =>
    some (.inl (wI q1.2 700 a21), q1.2))
  else if a_2 = 6 then
    ((chk K 2 (aR q1.2 a5.1 j6)).bind fun a23 =>
    if (b2i (wZ q1.2 303 a23)) = 0 then
      (some (.inl 0, q1.2))
    else
      (some (.inl 1, q1.2)))
  else if a_2 = 7 then
    ((chk K 6 (aR q1.2 a7.1 j8)).bind fun a26 =>
    some (.inl (wI q1.2 706 a26), q1.2))
  else if a_2 = 8 then
    ((chk K 2 (aR q1.2 a5.1 j6)).bind fun a28 =>
    (f_J6_bitCount_0f7a4 K (wI q1.2 304 a28) q1.2).bind fun q29 =>
    some (.inl q29.1, q29.2))
  else if a_2 = 9 then
    ((chk K 2 (aR q1.2 a5.1 j6)).bind fun a31 =>
    (f_J6_bitCount_0f7a4 K (wI q1.2 305 a31) q1.2).bind fun q32 =>
    some (.inl q32.1, q32.2))
  else none

def f_X12_hearing (K : Kd) (o : Nat) (a_1 : Int32) (a_2 : Int32) (w : Wd) : Option ((Int32 ⊕ Nat) × Wd) :=
  (f_X12_requireExisting K o 3 a_1 w).bind fun q1 =>
  xk q1 fun _ =>
  (chk K 9 (wR q1.2 1205 o)).bind fun a3 =>
  (cha K 27 (wR q1.2 1005 a3)).bind fun a4 =>
  (ixa a_1 a4.2).bind fun j5 =>
  if a_2 < 0 ∨ 3 < a_2 then
    (some (.inr 1, q1.2))
  else if a_2 = 0 then
    ((chk K 6 (aR q1.2 a4.1 j5)).bind fun a8 =>
    some (.inl (wI q1.2 702 a8), q1.2))
  else if a_2 = 1 then
    ((chk K 6 (aR q1.2 a4.1 j5)).bind fun a10 =>
    some (.inl (wI q1.2 703 a10), q1.2))
  else if a_2 = 2 then
    ((chk K 6 (aR q1.2 a4.1 j5)).bind fun a12 =>
    some (.inl (wI q1.2 704 a12), q1.2))
  else if a_2 = 3 then
    ((chk K 6 (aR q1.2 a4.1 j5)).bind fun a14 =>
    some (.inl (wI q1.2 705 a14), q1.2))
  else none

def f_X12_adjournment (K : Kd) (o : Nat) (a_1 : Int32) (a_2 : Int32) (a_3 : Int32) (w : Wd) : Option ((Int32 ⊕ Nat) × Wd) :=
  (f_X12_requireExisting K o 3 a_1 w).bind fun q1 =>
  xk q1 fun _ =>
  (chk K 9 (wR q1.2 1205 o)).bind fun a3 =>
  (cha K 27 (wR q1.2 1005 a3)).bind fun a4 =>
  (ixa a_1 a4.2).bind fun j5 =>
  if a_2 < 0 then
    (some (.inr 1, q1.2))
  else
    ((chk K 6 (aR q1.2 a4.1 j5)).bind fun a7 =>
    if (wI q1.2 706 a7) ≤ a_2 then
      (some (.inr 1, q1.2))
    else
      (if a_3 < 0 then
        (some (.inr 1, q1.2))
      else
        (if a_3 < 4 then
          ((cha K 20 (wR q1.2 707 a7)).bind fun a11 =>
          (ixa ((a_2 * 4) + a_3) a11.2).bind fun j12 =>
          some (.inl (aI q1.2 a11.1 j12), q1.2))
        else
          (some (.inr 1, q1.2)))))

def f_X12_caseAt (K : Kd) (o : Nat) (a_1 : Int32) (a_2 : Int32) (a_3 : Int32) (w : Wd) : Option ((Int32 ⊕ Nat) × Wd) :=
  (f_X12_requireExisting K o 0 a_1 w).bind fun q1 =>
  xk q1 fun _ =>
  (f_X12_requireDay K o a_2 q1.2).bind fun q3 =>
  xk q3 fun _ =>
  (f_X12_requireSlot K o a_3 q3.2).bind fun q5 =>
  xk q5 fun _ =>
  (chk K 9 (wR q5.2 1205 o)).bind fun a7 =>
  (f_X10_caseTaking K a7 a_1 a_2 a_3 q5.2).bind fun q8 =>
  some (.inl q8.1, q8.2)

def f_X12_urgent (K : Kd) (o : Nat) (a_1 : Int32) (w : Wd) : Option ((Int32 ⊕ Nat) × Wd) :=
  (chk K 9 (wR w 1205 o)).bind fun a1 =>
  (f_X10_sortWaiting K a1 (wR w 1213 o) w).bind fun q2 =>
  if a_1 < 0 then
    (some (.inr 4, q2.2))
  else
    (if a_1 < q2.1 then
      ((cha K 20 (wR q2.2 1213 o)).bind fun a5 =>
      (ixa a_1 a5.2).bind fun j6 =>
      some (.inl (aI q2.2 a5.1 j6), q2.2))
    else
      (some (.inr 4, q2.2)))

def f_X12_slack (K : Kd) (o : Nat) (a_1 : Int32) (w : Wd) : Option ((Int32 ⊕ Nat) × Wd) :=
  (f_X12_requireExisting K o 3 a_1 w).bind fun q1 =>
  xk q1 fun _ =>
  (chk K 9 (wR q1.2 1205 o)).bind fun a3 =>
  (f_X10_slackOf K a3 a_1 q1.2).bind fun q4 =>
  some (.inl q4.1, q4.2)
section
variable {p : Program} {l : Launch} {e : Env} {s : State} {m : MethodId} {args : Array Value} {below : List Frame} {meth : Method} {c : Code} {E : Ev} {K : Kd} {z : Nat}

theorem dX9_countConflicts_0 : decode cX9_countConflicts 0 = .ok (.iconst 0, 1) := by decide +kernel
theorem dX9_countConflicts_1 : decode cX9_countConflicts 1 = .ok (.istore_n 1, 1) := by decide +kernel
theorem dX9_countConflicts_2 : decode cX9_countConflicts 2 = .ok (.iconst 0, 1) := by decide +kernel
theorem dX9_countConflicts_3 : decode cX9_countConflicts 3 = .ok (.istore_n 2, 1) := by decide +kernel
theorem dX9_countConflicts_4 : decode cX9_countConflicts 4 = .ok (.iload_n 2, 1) := by decide +kernel
theorem dX9_countConflicts_5 : decode cX9_countConflicts 5 = .ok (.aload_n 0, 1) := by decide +kernel
theorem dX9_countConflicts_6 : decode cX9_countConflicts 6 = .ok (.iconst 3, 1) := by decide +kernel
theorem dX9_countConflicts_7 : decode cX9_countConflicts 7 = .ok (.invokevirtual 87, 3) := by decide +kernel
theorem dX9_countConflicts_10 : decode cX9_countConflicts 10 = .ok (.if_icmp .ge 24, 3) := by decide +kernel
theorem dX9_countConflicts_13 : decode cX9_countConflicts 13 = .ok (.iload_n 1, 1) := by decide +kernel
theorem dX9_countConflicts_14 : decode cX9_countConflicts 14 = .ok (.aload_n 0, 1) := by decide +kernel
theorem dX9_countConflicts_15 : decode cX9_countConflicts 15 = .ok (.getfield 44, 3) := by decide +kernel
theorem dX9_countConflicts_18 : decode cX9_countConflicts 18 = .ok (.iload_n 2, 1) := by decide +kernel
theorem dX9_countConflicts_19 : decode cX9_countConflicts 19 = .ok (.aaload, 1) := by decide +kernel
theorem dX9_countConflicts_20 : decode cX9_countConflicts 20 = .ok (.getfield 94, 3) := by decide +kernel
theorem dX9_countConflicts_23 : decode cX9_countConflicts 23 = .ok (.invokestatic 97, 3) := by decide +kernel
theorem dX9_countConflicts_26 : decode cX9_countConflicts 26 = .ok (.iadd, 1) := by decide +kernel
theorem dX9_countConflicts_27 : decode cX9_countConflicts 27 = .ok (.istore_n 1, 1) := by decide +kernel
theorem dX9_countConflicts_28 : decode cX9_countConflicts 28 = .ok (.iinc 2 1, 3) := by decide +kernel
theorem dX9_countConflicts_31 : decode cX9_countConflicts 31 = .ok (.goto (-27), 3) := by decide +kernel
theorem dX9_countConflicts_34 : decode cX9_countConflicts 34 = .ok (.iload_n 1, 1) := by decide +kernel
theorem dX9_countConflicts_35 : decode cX9_countConflicts 35 = .ok (.iconst 2, 1) := by decide +kernel
theorem dX9_countConflicts_36 : decode cX9_countConflicts 36 = .ok (.idiv, 1) := by decide +kernel
theorem dX9_countConflicts_37 : decode cX9_countConflicts 37 = .ok (.ireturn, 1) := by decide +kernel
theorem hd_X9_countConflicts : yX9_countConflicts.cls = RX9 ∧ yX9_countConflicts.cls ≠ "java/lang/invoke/MethodHandle" ∧ yX9_countConflicts.cls ≠ "java/lang/invoke/VarHandle" ∧ (parseMethodDescriptor yX9_countConflicts.desc).map (fun d => d.parameters.length) = some 0 := by decide +kernel
theorem hs_X9_countConflicts : yX9_countConflicts.cls ≠ "java/lang/invoke/MethodHandle" ∧ yX9_countConflicts.cls ≠ "java/lang/invoke/VarHandle" ∧ (parseMethodDescriptor yX9_countConflicts.desc).map (fun d => d.parameters.length) = some 0 := by decide +kernel
set_option maxHeartbeats 4000000 in
set_option maxRecDepth 100000 in
theorem l_X9_countConflicts_L4 (C : CX p l e s m args meth c cX9_countConflicts 3 RX9 (Option.some Jvm.ClassFile.FieldType.int) E) {o : Nat} (ho : K o = some (8, 0)) {r : Int32} {w' : Wd} (k : Int32 → Int32 → Wd → Option (Int32 × Wd)) (hk : ∀ (v1_4 : Int32) (v2_4 : Int32) (w : Wd) (H : Heap) (locs : List Loc) (ls : Array Slot), HQ E K z w s H locs → lv_has ls 3 [(1, .int v1_4), (2, .int v2_4), (0, rv E (some o))] → k v1_4 v2_4 w = some (r, w') → W p l e ({ frames := 1, cells := 0, slots := 0, locals := 21 } : Room) s m args below meth c H locs 0 0 (MQ below (QI E K z w' r) args s 0 0 (hA E)) (F0 m 34 ls [])) : ∀ (n : Nat) (v1_4 : Int32) (v2_4 : Int32) (w : Wd) (H : Heap) (locs : List Loc) (ls : Array Slot), HQ E K z w s H locs → lv_has ls 3 [(1, .int v1_4), (2, .int v2_4), (0, rv E (some o))] → f_X9_countConflicts_L4 K o k n v1_4 v2_4 w = some (r, w') → W p l e ({ frames := 1, cells := 0, slots := 0, locals := 21 } : Room) s m args below meth c H locs 0 0 (MQ below (QI E K z w' r) args s 0 0 (hA E)) (F0 m 4 ls []) := by
  obtain ⟨hx, hb, hml, hown, hts, hKs, hT, hb0, hlocks, hret⟩ := id C
  intro n
  induction n with
  | zero =>
    intro v1_4 v2_4 w H locs ls hH hl hf
    cases hf
  | succ n ih =>
    intro v1_4 v2_4 w H locs ls hH hl hf
    rw [f_X9_countConflicts_L4] at hf
    refine lv_iload_n hx hb dX9_countConflicts_4 rfl (lv_at hl 1 rfl) ?_
    refine hl_aload_n hx hb dX9_countConflicts_5 rfl (lv_at hl 2 rfl) ?_
    refine lv_iconst (v := 3) hx hb dX9_countConflicts_6 (by decide) ?_
    obtain ⟨q2, hq2, hf⟩ := bnd hf
    refine hcV_i hx hb hml hown hts hKs hT hb0 hH (As := [.int 3]) (rest := [.int v2_4]) (k_X9_size l E K H.size o 3 w ho hq2) (gV m4_17 m3_151 m3_152 m1_2 m3_153) hd_X9_size ⟨Nat.le_of_ble_eq_true rfl, Nat.le_of_ble_eq_true rfl, rfl, rfl⟩ rfl ho rfl rfl rfl hl.1 rfl (rcI rc0) rfl dX9_countConflicts_7 ⟨Nat.zero_le _, Nat.zero_le _⟩ (fun H locs hH => ?_)
    refine lv_icmp_ge (tgt := 34) hx hb dX9_countConflicts_10 (by decide) (fun c3 => ?_) (fun c3 => ?_)
    · replace hf := (if_pos c3).symm.trans hf
      exact hk v1_4 v2_4 _ _ _ _ hH (lv_sub hl [0, 1, 2] rfl) hf
    · replace hf := (if_neg c3).symm.trans hf
      refine lv_iload_n hx hb dX9_countConflicts_13 rfl (lv_at hl 0 rfl) ?_
      refine hl_aload_n hx hb dX9_countConflicts_14 rfl (lv_at hl 2 rfl) ?_
      refine g9_9 hx hb hts hown hKs hH rfl ho m1_175 dX9_countConflicts_15 ?_
      refine lv_iload_n hx hb dX9_countConflicts_18 rfl (lv_at hl 1 rfl) ?_
      obtain ⟨a4, ha4, hf⟩ := bnd hf
      replace ha4 := cha_some ha4
      obtain ⟨j5, hj5, hf⟩ := bnd hf
      refine hw_aald25 hx hb hKs hH ha4.1 ha4.2 hj5 dX9_countConflicts_19 ?_
      obtain ⟨a6, ha6, hf⟩ := bnd hf
      replace ha6 := chk_some ha6
      refine gn3_5 hx hb hts hown hKs hH ha6.1 ha6.2 m1_112 dX9_countConflicts_20 ?_
      obtain ⟨q7, hq7, hf⟩ := bnd hf
      refine hcS_i hx hb hml hown hts hKs hT hb0 hH (As := [.int ((wI q2.2 305 a6))]) (rest := [.int v1_4]) (k_J6_bitCount_0f7a4 l E K H.size (wI q2.2 305 a6) q2.2 hq7) (gS m4_18 m4_8 m1_23 m4_9) hs_J6_bitCount_0f7a4 ⟨Nat.le_of_ble_eq_true rfl, Nat.le_of_ble_eq_true rfl, rfl, rfl⟩ hl.1 rfl (rcI rc0) rfl dX9_countConflicts_23 ⟨Nat.zero_le _, Nat.zero_le _⟩ (fun H locs hH => ?_)
      refine lv_iadd hx hb dX9_countConflicts_26 ?_
      refine lv_istore_n (lv' := [(1, .int ((v1_4 + q7.1))), (2, .int v2_4), (0, rv E (some o))]) hx hb dX9_countConflicts_27 rfl hl (by decide) rfl (fun ls hl => ?_)
      refine lv_iinc (v := (v2_4 + 1)) (lv' := [(2, .int ((v2_4 + 1))), (1, .int ((v1_4 + q7.1))), (0, rv E (some o))]) hx hb dX9_countConflicts_28 hl (k := 1) rfl rfl (by decide) rfl (fun ls hl => ?_)
      refine lv_goto (tgt := 4) hx hb dX9_countConflicts_31 (by decide) ?_
      exact ih (v1_4 + q7.1) (v2_4 + 1) _ _ _ _ hH (lv_sub hl [1, 0, 2] rfl) hf
set_option maxHeartbeats 4000000 in
set_option maxRecDepth 100000 in
theorem k_X9_countConflicts (l : Launch) (E : Ev) (K : Kd) (z : Nat) (o : Nat) (w : Wd) (ho : K o = some (8, 0)) {r : Int32} {w' : Wd} (hf : f_X9_countConflicts K o w = some (r, w')) : Met l yX9_countConflicts (Cond.code yX9_countConflicts cX9_countConflicts 3 (Option.some Jvm.ClassFile.FieldType.int) :: bt) ({ frames := 1, cells := 0, slots := 0, locals := 21 } : Room) (va_Pc [rv E (some o)] (HB E K w z)) (QI E K z w' r) 0 0 (hA E) := by
  refine Met.ofW (cc := cX9_countConflicts) (maxL := 3) (ret := (Option.some Jvm.ClassFile.FieldType.int)) (by decide) rfl ?_
  intro p e s m args below meth c s₁ B hml hv
  obtain ⟨rfl, hz, hP, hKs, hT, hb0⟩ := hv
  have C : CX p l e s m _ meth c cX9_countConflicts 3 RX9 (Option.some Jvm.ClassFile.FieldType.int) E := ⟨B.exec, B.bytes, hml, findClass_of_methodNamed B.named, fun w h => atoms_spec (ws := Cond.code yX9_countConflicts cX9_countConflicts 3 (Option.some Jvm.ClassFile.FieldType.int) :: bt) B.pre w (List.mem_cons_of_mem _ h), hKs, hT, by rw [hz]; exact hb0, B.notSynchronized, B.returns⟩
  have hH : HQ E K z w s s.heap [] := ⟨hP, va_S.rf, hz⟩
  obtain ⟨hx, hb, hml, hown, hts, hKs, hT, hb0, hlocks, hret⟩ := id C
  have hl := lv_entry [rv E (some o)] (n := 3) (by simp [lg_len_nil, lg_len_i, lg_len_j, lg_len_q])
  rw [lg_entry_eq]
  generalize (lg_sl [rv E (some o)] ++ List.replicate (3 - (lg_sl [rv E (some o)]).length) Slot.unset).toArray = ls at hl ⊢
  replace hl : lv_has ls 3 [(0, rv E (some o))] := by simpa only [lv_args, cat_q, cat_i, cat_j, reduceIte, Nat.reduceEqDiff, Nat.reduceAdd, Nat.zero_add] using hl
  generalize s.heap = H at hH ⊢
  unfold f_X9_countConflicts at hf
  refine lv_iconst (v := 0) hx hb dX9_countConflicts_0 (by decide) ?_
  refine lv_istore_n (lv' := [(1, .int 0), (0, rv E (some o))]) hx hb dX9_countConflicts_1 rfl hl (by decide) rfl (fun ls hl => ?_)
  refine lv_iconst (v := 0) hx hb dX9_countConflicts_2 (by decide) ?_
  refine lv_istore_n (lv' := [(2, .int 0), (1, .int 0), (0, rv E (some o))]) hx hb dX9_countConflicts_3 rfl hl (by decide) rfl (fun ls hl => ?_)
  refine l_X9_countConflicts_L4  C ho _ (fun v1_4 v2_4 w1 H locs ls hH hl hf => ?_) fu 0 0 w _ _ _ hH (lv_sub hl [1, 0, 2] rfl) hf
  refine lv_iload_n hx hb dX9_countConflicts_34 rfl (lv_at hl 0 rfl) ?_
  refine lv_iconst (v := 2) hx hb dX9_countConflicts_35 (by decide) ?_
  refine lv_idiv hx hb dX9_countConflicts_36 (by decide) ?_
  exact hw_iret hx hb hret hf hH hlocks dX9_countConflicts_37

theorem dX10_begin_0 : decode cX10_begin 0 = .ok (.aload_n 0, 1) := by decide +kernel
theorem dX10_begin_1 : decode cX10_begin 1 = .ok (.aload_n 1, 1) := by decide +kernel
theorem dX10_begin_2 : decode cX10_begin 2 = .ok (.putfield 31, 3) := by decide +kernel
theorem dX10_begin_5 : decode cX10_begin 5 = .ok (.aload_n 0, 1) := by decide +kernel
theorem dX10_begin_6 : decode cX10_begin 6 = .ok (.iconst 0, 1) := by decide +kernel
theorem dX10_begin_7 : decode cX10_begin 7 = .ok (.putfield 39, 3) := by decide +kernel
theorem dX10_begin_10 : decode cX10_begin 10 = .ok (.aload_n 0, 1) := by decide +kernel
theorem dX10_begin_11 : decode cX10_begin 11 = .ok (.getfield 12, 3) := by decide +kernel
theorem dX10_begin_14 : decode cX10_begin 14 = .ok (.aload_n 1, 1) := by decide +kernel
theorem dX10_begin_15 : decode cX10_begin 15 = .ok (.getfield 43, 3) := by decide +kernel
theorem dX10_begin_18 : decode cX10_begin 18 = .ok (.invokevirtual 46, 3) := by decide +kernel
theorem dX10_begin_21 : decode cX10_begin 21 = .ok (.aload_n 1, 1) := by decide +kernel
theorem dX10_begin_22 : decode cX10_begin 22 = .ok (.getfield 50, 3) := by decide +kernel
theorem dX10_begin_25 : decode cX10_begin 25 = .ok (.iconst 0, 1) := by decide +kernel
theorem dX10_begin_26 : decode cX10_begin 26 = .ok (.aload_n 0, 1) := by decide +kernel
theorem dX10_begin_27 : decode cX10_begin 27 = .ok (.getfield 18, 3) := by decide +kernel
theorem dX10_begin_30 : decode cX10_begin 30 = .ok (.iconst 0, 1) := by decide +kernel
theorem dX10_begin_31 : decode cX10_begin 31 = .ok (.aload_n 0, 1) := by decide +kernel
theorem dX10_begin_32 : decode cX10_begin 32 = .ok (.getfield 18, 3) := by decide +kernel
theorem dX10_begin_35 : decode cX10_begin 35 = .ok (.arraylength, 1) := by decide +kernel
theorem dX10_begin_36 : decode cX10_begin 36 = .ok (.invokestatic 51, 3) := by decide +kernel
theorem dX10_begin_39 : decode cX10_begin 39 = .ok (.iconst 0, 1) := by decide +kernel
theorem dX10_begin_40 : decode cX10_begin 40 = .ok (.istore_n 2, 1) := by decide +kernel
theorem dX10_begin_41 : decode cX10_begin 41 = .ok (.iload_n 2, 1) := by decide +kernel
theorem dX10_begin_42 : decode cX10_begin 42 = .ok (.bipush 12, 2) := by decide +kernel
theorem dX10_begin_44 : decode cX10_begin 44 = .ok (.if_icmp .ge 33, 3) := by decide +kernel
theorem dX10_begin_47 : decode cX10_begin 47 = .ok (.aload_n 0, 1) := by decide +kernel
theorem dX10_begin_48 : decode cX10_begin 48 = .ok (.getfield 22, 3) := by decide +kernel
theorem dX10_begin_51 : decode cX10_begin 51 = .ok (.iload_n 2, 1) := by decide +kernel
theorem dX10_begin_52 : decode cX10_begin 52 = .ok (.aload_n 1, 1) := by decide +kernel
theorem dX10_begin_53 : decode cX10_begin 53 = .ok (.getfield 57, 3) := by decide +kernel
theorem dX10_begin_56 : decode cX10_begin 56 = .ok (.iload_n 2, 1) := by decide +kernel
theorem dX10_begin_57 : decode cX10_begin 57 = .ok (.aaload, 1) := by decide +kernel
theorem dX10_begin_58 : decode cX10_begin 58 = .ok (.getfield 61, 3) := by decide +kernel
theorem dX10_begin_61 : decode cX10_begin 61 = .ok (.iastore, 1) := by decide +kernel
theorem dX10_begin_62 : decode cX10_begin 62 = .ok (.aload_n 0, 1) := by decide +kernel
theorem dX10_begin_63 : decode cX10_begin 63 = .ok (.getfield 27, 3) := by decide +kernel
theorem dX10_begin_66 : decode cX10_begin 66 = .ok (.iload_n 2, 1) := by decide +kernel
theorem dX10_begin_67 : decode cX10_begin 67 = .ok (.aaload, 1) := by decide +kernel
theorem dX10_begin_68 : decode cX10_begin 68 = .ok (.invokevirtual 36, 3) := by decide +kernel
theorem dX10_begin_71 : decode cX10_begin 71 = .ok (.iinc 2 1, 3) := by decide +kernel
theorem dX10_begin_74 : decode cX10_begin 74 = .ok (.goto (-33), 3) := by decide +kernel
theorem dX10_begin_77 : decode cX10_begin 77 = .ok (.return_, 1) := by decide +kernel
theorem hd_X10_begin : yX10_begin.cls = RX10 ∧ yX10_begin.cls ≠ "java/lang/invoke/MethodHandle" ∧ yX10_begin.cls ≠ "java/lang/invoke/VarHandle" ∧ (parseMethodDescriptor yX10_begin.desc).map (fun d => d.parameters.length) = some 1 := by decide +kernel
theorem hs_X10_begin : yX10_begin.cls ≠ "java/lang/invoke/MethodHandle" ∧ yX10_begin.cls ≠ "java/lang/invoke/VarHandle" ∧ (parseMethodDescriptor yX10_begin.desc).map (fun d => d.parameters.length) = some 1 := by decide +kernel
set_option maxHeartbeats 4000000 in
set_option maxRecDepth 100000 in
theorem l_X10_begin_L41 (C : CX p l e s m args meth c cX10_begin 3 RX10 (Option.none : Option Jvm.ClassFile.FieldType) E) {o : Nat} (ho : K o = some (9, 0)) {w' : Wd} (k : Option Nat → Int32 → Wd → Option Wd) (hk : ∀ (v1_41 : Option Nat) (v2_41 : Int32) (w : Wd) (H : Heap) (locs : List Loc) (ls : Array Slot), HQ E K z w s H locs → lv_has ls 3 [(1, rv E v1_41), (2, .int v2_41), (0, rv E (some o))] → k v1_41 v2_41 w = some w' → W p l e ({ frames := 2, cells := 0, slots := 0, locals := 81 } : Room) s m args below meth c H locs 0 0 (MQ below (QV E K z w') args s 0 0 (hA E)) (F0 m 77 ls [])) : ∀ (n : Nat) (v1_41 : Option Nat) (v2_41 : Int32) (w : Wd) (H : Heap) (locs : List Loc) (ls : Array Slot), HQ E K z w s H locs → lv_has ls 3 [(1, rv E v1_41), (2, .int v2_41), (0, rv E (some o))] → f_X10_begin_L41 K o k n v1_41 v2_41 w = some w' → W p l e ({ frames := 2, cells := 0, slots := 0, locals := 81 } : Room) s m args below meth c H locs 0 0 (MQ below (QV E K z w') args s 0 0 (hA E)) (F0 m 41 ls []) := by
  obtain ⟨hx, hb, hml, hown, hts, hKs, hT, hb0, hlocks, hret⟩ := id C
  intro n
  induction n with
  | zero =>
    intro v1_41 v2_41 w H locs ls hH hl hf
    cases hf
  | succ n ih =>
    intro v1_41 v2_41 w H locs ls hH hl hf
    rw [f_X10_begin_L41] at hf
    refine lv_iload_n hx hb dX10_begin_41 rfl (lv_at hl 1 rfl) ?_
    refine lv_bipush (v := 12) hx hb dX10_begin_42 (by decide) ?_
    refine lv_icmp_ge (tgt := 77) hx hb dX10_begin_44 (by decide) (fun c11 => ?_) (fun c11 => ?_)
    · replace hf := (if_pos c11).symm.trans hf
      exact hk v1_41 v2_41 _ _ _ _ hH (lv_sub hl [0, 1, 2] rfl) hf
    · replace hf := (if_neg c11).symm.trans hf
      refine hl_aload_n hx hb dX10_begin_47 rfl (lv_at hl 2 rfl) ?_
      refine g10_4 hx hb hts hown hKs hH rfl ho m2_130 dX10_begin_48 ?_
      refine lv_iload_n hx hb dX10_begin_51 rfl (lv_at hl 1 rfl) ?_
      refine hl_aload_n hx hb dX10_begin_52 rfl (lv_at hl 0 rfl) ?_
      obtain ⟨a12, ha12, hf⟩ := bnd hf
      replace ha12 := chk_some ha12
      refine gn9_9 hx hb hts hown hKs hH ha12.1 ha12.2 m1_177 dX10_begin_53 ?_
      refine lv_iload_n hx hb dX10_begin_56 rfl (lv_at hl 1 rfl) ?_
      obtain ⟨a13, ha13, hf⟩ := bnd hf
      replace ha13 := cha_some ha13
      obtain ⟨j14, hj14, hf⟩ := bnd hf
      refine hw_aald25 hx hb hKs hH ha13.1 ha13.2 hj14 dX10_begin_57 ?_
      obtain ⟨a15, ha15, hf⟩ := bnd hf
      replace ha15 := chk_some ha15
      refine gn3_6 hx hb hts hown hKs hH ha15.1 ha15.2 m1_117 dX10_begin_58 ?_
      obtain ⟨a16, ha16, hf⟩ := bnd hf
      replace ha16 := cha_some ha16
      obtain ⟨j17, hj17, hf⟩ := bnd hf
      obtain ⟨w18, hw18, hf⟩ := bnd hf
      replace hw18 := Option.some.inj hw18
      refine hw_iast (x := (wI w 306 a15)) hx hb hKs hH ha16.1 ha16.2 hj17 dX10_begin_61 (fun H locs hH => ?_)
      rw [hw18] at hH
      refine hl_aload_n hx hb dX10_begin_62 rfl (lv_at hl 2 rfl) ?_
      refine g10_5 hx hb hts hown hKs hH rfl ho m2_133 dX10_begin_63 ?_
      refine lv_iload_n hx hb dX10_begin_66 rfl (lv_at hl 1 rfl) ?_
      obtain ⟨a19, ha19, hf⟩ := bnd hf
      replace ha19 := cha_some ha19
      obtain ⟨j20, hj20, hf⟩ := bnd hf
      refine hw_aald27 hx hb hKs hH ha19.1 ha19.2 hj20 dX10_begin_67 ?_
      obtain ⟨a21, ha21, hf⟩ := bnd hf
      replace ha21 := chk_some ha21
      obtain ⟨q22, hq22, hf⟩ := bnd hf
      refine hcV_v hx hb hml hown hts hKs hT hb0 hH (As := []) (rest := []) (k_X7_clear l E K H.size a21 w18 ha21.2 hq22) (gV m2_111 m2_112 m2_113 m1_13 m2_114) hd_X7_clear ⟨Nat.le_of_ble_eq_true rfl, Nat.le_of_ble_eq_true rfl, rfl, rfl⟩ ha21.1 ha21.2 rfl rfl rfl hl.1 rfl rc0 rfl dX10_begin_68 ⟨Nat.zero_le _, Nat.zero_le _⟩ (fun H locs hH => ?_)
      refine lv_iinc (v := (v2_41 + 1)) (lv' := [(2, .int ((v2_41 + 1))), (1, rv E v1_41), (0, rv E (some o))]) hx hb dX10_begin_71 hl (k := 1) rfl rfl (by decide) (by simp [List.filter_cons, cat_q, cat_i, cat_j]) (fun ls hl => ?_)
      refine lv_goto (tgt := 41) hx hb dX10_begin_74 (by decide) ?_
      exact ih v1_41 (v2_41 + 1) _ _ _ _ hH (lv_sub hl [1, 0, 2] rfl) hf
set_option maxHeartbeats 4000000 in
set_option maxRecDepth 100000 in
theorem k_X10_begin (l : Launch) (E : Ev) (K : Kd) (z : Nat) (o : Nat) (a_1 : Option Nat) (w : Wd) (ho : K o = some (9, 0)) {w' : Wd} (hf : f_X10_begin K o a_1 w = some w') : Met l yX10_begin (Cond.code yX10_begin cX10_begin 3 (Option.none : Option Jvm.ClassFile.FieldType) :: bt) ({ frames := 2, cells := 0, slots := 0, locals := 81 } : Room) (va_Pc [rv E (some o), rv E a_1] (HB E K w z)) (QV E K z w') 0 0 (hA E) := by
  refine Met.ofW (cc := cX10_begin) (maxL := 3) (ret := (Option.none : Option Jvm.ClassFile.FieldType)) (by decide) rfl ?_
  intro p e s m args below meth c s₁ B hml hv
  obtain ⟨rfl, hz, hP, hKs, hT, hb0⟩ := hv
  have C : CX p l e s m _ meth c cX10_begin 3 RX10 (Option.none : Option Jvm.ClassFile.FieldType) E := ⟨B.exec, B.bytes, hml, findClass_of_methodNamed B.named, fun w h => atoms_spec (ws := Cond.code yX10_begin cX10_begin 3 (Option.none : Option Jvm.ClassFile.FieldType) :: bt) B.pre w (List.mem_cons_of_mem _ h), hKs, hT, by rw [hz]; exact hb0, B.notSynchronized, B.returns⟩
  have hH : HQ E K z w s s.heap [] := ⟨hP, va_S.rf, hz⟩
  obtain ⟨hx, hb, hml, hown, hts, hKs, hT, hb0, hlocks, hret⟩ := id C
  have hl := lv_entry [rv E (some o), rv E a_1] (n := 3) (by simp [lg_len_nil, lg_len_i, lg_len_j, lg_len_q])
  rw [lg_entry_eq]
  generalize (lg_sl [rv E (some o), rv E a_1] ++ List.replicate (3 - (lg_sl [rv E (some o), rv E a_1]).length) Slot.unset).toArray = ls at hl ⊢
  replace hl : lv_has ls 3 [(0, rv E (some o)), (1, rv E a_1)] := by simpa only [lv_args, cat_q, cat_i, cat_j, reduceIte, Nat.reduceEqDiff, Nat.reduceAdd, Nat.zero_add] using hl
  generalize s.heap = H at hH ⊢
  unfold f_X10_begin at hf
  refine hl_aload_n hx hb dX10_begin_0 rfl (lv_at hl 0 rfl) ?_
  refine hl_aload_n hx hb dX10_begin_1 rfl (lv_at hl 1 rfl) ?_
  obtain ⟨w1, hw1, hf⟩ := bnd hf
  replace hw1 := Option.some.inj hw1
  refine p10_0 (v := a_1) hx hb hts hown hKs hH rfl ho m2_119 dX10_begin_2 (fun H locs hH => ?_)
  rw [hw1] at hH
  refine hl_aload_n hx hb dX10_begin_5 rfl (lv_at hl 0 rfl) ?_
  refine lv_iconst (v := 0) hx hb dX10_begin_6 (by decide) ?_
  obtain ⟨w2, hw2, hf⟩ := bnd hf
  replace hw2 := Option.some.inj hw2
  refine p10_1 (v := 0) hx hb hts hown hKs hH rfl ho m2_123 dX10_begin_7 (fun H locs hH => ?_)
  rw [hw2] at hH
  refine hl_aload_n hx hb dX10_begin_10 rfl (lv_at hl 0 rfl) ?_
  refine g10_2 hx hb hts hown hKs hH rfl ho m2_126 dX10_begin_11 ?_
  refine hl_aload_n hx hb dX10_begin_14 rfl (lv_at hl 1 rfl) ?_
  obtain ⟨a3, ha3, hf⟩ := bnd hf
  replace ha3 := chk_some ha3
  refine gn9_10 hx hb hts hown hKs hH ha3.1 ha3.2 m1_182 dX10_begin_15 ?_
  obtain ⟨a4, ha4, hf⟩ := bnd hf
  replace ha4 := chk_some ha4
  obtain ⟨q5, hq5, hf⟩ := bnd hf
  refine hcV_v hx hb hml hown hts hKs hT hb0 hH (As := [rv E (wR w2 910 a3)]) (rest := []) (k_X2_copyFrom l E K H.size a4 (wR w2 910 a3) w2 ha4.2 hq5) (gV m3_221 m3_222 m3_223 m1_3 m3_224) hd_X2_copyFrom ⟨Nat.le_of_ble_eq_true rfl, Nat.le_of_ble_eq_true rfl, rfl, rfl⟩ ha4.1 ha4.2 rfl rfl rfl hl.1 rfl rc0 rfl dX10_begin_18 ⟨Nat.zero_le _, Nat.zero_le _⟩ (fun H locs hH => ?_)
  refine hl_aload_n hx hb dX10_begin_21 rfl (lv_at hl 1 rfl) ?_
  refine gn9_6 hx hb hts hown hKs hH ha3.1 ha3.2 m1_165 dX10_begin_22 ?_
  refine lv_iconst (v := 0) hx hb dX10_begin_25 (by decide) ?_
  refine hl_aload_n hx hb dX10_begin_26 rfl (lv_at hl 0 rfl) ?_
  refine g10_3 hx hb hts hown hKs hH rfl ho m2_128 dX10_begin_27 ?_
  refine lv_iconst (v := 0) hx hb dX10_begin_30 (by decide) ?_
  refine hl_aload_n hx hb dX10_begin_31 rfl (lv_at hl 0 rfl) ?_
  refine g10_3 hx hb hts hown hKs hH rfl ho m2_128 dX10_begin_32 ?_
  obtain ⟨a6, ha6, hf⟩ := bnd hf
  replace ha6 := cha_some ha6
  refine hw_alen20 hx hb hKs hH ha6.1 ha6.2 dX10_begin_35 ?_
  obtain ⟨a7, ha7, hf⟩ := bnd hf
  replace ha7 := cha_some ha7
  obtain ⟨_, hg8, hf⟩ := bnd hf
  replace hg8 := grd_some hg8
  obtain ⟨w9, hw9, hf⟩ := bnd hf
  replace hw9 := Option.some.inj hw9
  refine hw_copy hx hb (hml.trans hl.1.symm) hown (hts _ m3_228) (hts _ m3_227) (hts _ m3_226) (hts _ m1_18) hKs hH ha7.1 ha7.2 ha6.1 ha6.2 hg8.1 hg8.2.1 hg8.2.2.1 hg8.2.2.2.1 hg8.2.2.2.2 (Nat.le_of_ble_eq_true rfl) (by decide) dX10_begin_36 (fun H locs hH => ?_)
  rw [hw9] at hH
  refine lv_iconst (v := 0) hx hb dX10_begin_39 (by decide) ?_
  refine lv_istore_n (lv' := [(2, .int 0), (0, rv E (some o)), (1, rv E a_1)]) hx hb dX10_begin_40 rfl hl (by decide) (by simp [List.filter_cons, cat_q, cat_i, cat_j]) (fun ls hl => ?_)
  refine l_X10_begin_L41  C ho _ (fun v1_41 v2_41 w10 H locs ls hH hl hf => ?_) fu a_1 0 w9 _ _ _ hH (lv_sub hl [2, 0, 1] rfl) hf
  exact hw_vret hx hb hret hf hH hlocks dX10_begin_77

theorem dX10_countBars_0 : decode cX10_countBars 0 = .ok (.iconst 0, 1) := by decide +kernel
theorem dX10_countBars_1 : decode cX10_countBars 1 = .ok (.istore_n 1, 1) := by decide +kernel
theorem dX10_countBars_2 : decode cX10_countBars 2 = .ok (.iconst 0, 1) := by decide +kernel
theorem dX10_countBars_3 : decode cX10_countBars 3 = .ok (.istore_n 2, 1) := by decide +kernel
theorem dX10_countBars_4 : decode cX10_countBars 4 = .ok (.iload_n 2, 1) := by decide +kernel
theorem dX10_countBars_5 : decode cX10_countBars 5 = .ok (.aload_n 0, 1) := by decide +kernel
theorem dX10_countBars_6 : decode cX10_countBars 6 = .ok (.getfield 31, 3) := by decide +kernel
theorem dX10_countBars_9 : decode cX10_countBars 9 = .ok (.iconst 3, 1) := by decide +kernel
theorem dX10_countBars_10 : decode cX10_countBars 10 = .ok (.invokevirtual 92, 3) := by decide +kernel
theorem dX10_countBars_13 : decode cX10_countBars 13 = .ok (.if_icmp .ge 21, 3) := by decide +kernel
theorem dX10_countBars_16 : decode cX10_countBars 16 = .ok (.iload_n 1, 1) := by decide +kernel
theorem dX10_countBars_17 : decode cX10_countBars 17 = .ok (.aload_n 0, 1) := by decide +kernel
theorem dX10_countBars_18 : decode cX10_countBars 18 = .ok (.getfield 22, 3) := by decide +kernel
theorem dX10_countBars_21 : decode cX10_countBars 21 = .ok (.iload_n 2, 1) := by decide +kernel
theorem dX10_countBars_22 : decode cX10_countBars 22 = .ok (.iaload, 1) := by decide +kernel
theorem dX10_countBars_23 : decode cX10_countBars 23 = .ok (.invokestatic 98, 3) := by decide +kernel
theorem dX10_countBars_26 : decode cX10_countBars 26 = .ok (.iadd, 1) := by decide +kernel
theorem dX10_countBars_27 : decode cX10_countBars 27 = .ok (.istore_n 1, 1) := by decide +kernel
theorem dX10_countBars_28 : decode cX10_countBars 28 = .ok (.iinc 2 1, 3) := by decide +kernel
theorem dX10_countBars_31 : decode cX10_countBars 31 = .ok (.goto (-27), 3) := by decide +kernel
theorem dX10_countBars_34 : decode cX10_countBars 34 = .ok (.iload_n 1, 1) := by decide +kernel
theorem dX10_countBars_35 : decode cX10_countBars 35 = .ok (.ireturn, 1) := by decide +kernel
theorem hd_X10_countBars : yX10_countBars.cls = RX10 ∧ yX10_countBars.cls ≠ "java/lang/invoke/MethodHandle" ∧ yX10_countBars.cls ≠ "java/lang/invoke/VarHandle" ∧ (parseMethodDescriptor yX10_countBars.desc).map (fun d => d.parameters.length) = some 0 := by decide +kernel
theorem hs_X10_countBars : yX10_countBars.cls ≠ "java/lang/invoke/MethodHandle" ∧ yX10_countBars.cls ≠ "java/lang/invoke/VarHandle" ∧ (parseMethodDescriptor yX10_countBars.desc).map (fun d => d.parameters.length) = some 0 := by decide +kernel
set_option maxHeartbeats 4000000 in
set_option maxRecDepth 100000 in
theorem l_X10_countBars_L4 (C : CX p l e s m args meth c cX10_countBars 3 RX10 (Option.some Jvm.ClassFile.FieldType.int) E) {o : Nat} (ho : K o = some (9, 0)) {r : Int32} {w' : Wd} (k : Int32 → Int32 → Wd → Option (Int32 × Wd)) (hk : ∀ (v1_4 : Int32) (v2_4 : Int32) (w : Wd) (H : Heap) (locs : List Loc) (ls : Array Slot), HQ E K z w s H locs → lv_has ls 3 [(1, .int v1_4), (2, .int v2_4), (0, rv E (some o))] → k v1_4 v2_4 w = some (r, w') → W p l e ({ frames := 1, cells := 0, slots := 0, locals := 21 } : Room) s m args below meth c H locs 0 0 (MQ below (QI E K z w' r) args s 0 0 (hA E)) (F0 m 34 ls [])) : ∀ (n : Nat) (v1_4 : Int32) (v2_4 : Int32) (w : Wd) (H : Heap) (locs : List Loc) (ls : Array Slot), HQ E K z w s H locs → lv_has ls 3 [(1, .int v1_4), (2, .int v2_4), (0, rv E (some o))] → f_X10_countBars_L4 K o k n v1_4 v2_4 w = some (r, w') → W p l e ({ frames := 1, cells := 0, slots := 0, locals := 21 } : Room) s m args below meth c H locs 0 0 (MQ below (QI E K z w' r) args s 0 0 (hA E)) (F0 m 4 ls []) := by
  obtain ⟨hx, hb, hml, hown, hts, hKs, hT, hb0, hlocks, hret⟩ := id C
  intro n
  induction n with
  | zero =>
    intro v1_4 v2_4 w H locs ls hH hl hf
    cases hf
  | succ n ih =>
    intro v1_4 v2_4 w H locs ls hH hl hf
    rw [f_X10_countBars_L4] at hf
    refine lv_iload_n hx hb dX10_countBars_4 rfl (lv_at hl 1 rfl) ?_
    refine hl_aload_n hx hb dX10_countBars_5 rfl (lv_at hl 2 rfl) ?_
    refine g10_0 hx hb hts hown hKs hH rfl ho m2_119 dX10_countBars_6 ?_
    refine lv_iconst (v := 3) hx hb dX10_countBars_9 (by decide) ?_
    obtain ⟨a2, ha2, hf⟩ := bnd hf
    replace ha2 := chk_some ha2
    obtain ⟨q3, hq3, hf⟩ := bnd hf
    refine hcV_i hx hb hml hown hts hKs hT hb0 hH (As := [.int 3]) (rest := [.int v2_4]) (k_X9_size l E K H.size a2 3 w ha2.2 hq3) (gV m4_6 m3_151 m3_152 m1_2 m3_153) hd_X9_size ⟨Nat.le_of_ble_eq_true rfl, Nat.le_of_ble_eq_true rfl, rfl, rfl⟩ ha2.1 ha2.2 rfl rfl rfl hl.1 rfl (rcI rc0) rfl dX10_countBars_10 ⟨Nat.zero_le _, Nat.zero_le _⟩ (fun H locs hH => ?_)
    refine lv_icmp_ge (tgt := 34) hx hb dX10_countBars_13 (by decide) (fun c4 => ?_) (fun c4 => ?_)
    · replace hf := (if_pos c4).symm.trans hf
      exact hk v1_4 v2_4 _ _ _ _ hH (lv_sub hl [0, 1, 2] rfl) hf
    · replace hf := (if_neg c4).symm.trans hf
      refine lv_iload_n hx hb dX10_countBars_16 rfl (lv_at hl 0 rfl) ?_
      refine hl_aload_n hx hb dX10_countBars_17 rfl (lv_at hl 2 rfl) ?_
      refine g10_4 hx hb hts hown hKs hH rfl ho m2_130 dX10_countBars_18 ?_
      refine lv_iload_n hx hb dX10_countBars_21 rfl (lv_at hl 1 rfl) ?_
      obtain ⟨a5, ha5, hf⟩ := bnd hf
      replace ha5 := cha_some ha5
      obtain ⟨j6, hj6, hf⟩ := bnd hf
      refine hw_iald hx hb hKs hH ha5.1 ha5.2 hj6 dX10_countBars_22 ?_
      obtain ⟨q7, hq7, hf⟩ := bnd hf
      refine hcS_i hx hb hml hown hts hKs hT hb0 hH (As := [.int ((aI q3.2 a5.1 j6))]) (rest := [.int v1_4]) (k_J6_bitCount_0f7a4 l E K H.size (aI q3.2 a5.1 j6) q3.2 hq7) (gS m4_7 m4_8 m1_23 m4_9) hs_J6_bitCount_0f7a4 ⟨Nat.le_of_ble_eq_true rfl, Nat.le_of_ble_eq_true rfl, rfl, rfl⟩ hl.1 rfl (rcI rc0) rfl dX10_countBars_23 ⟨Nat.zero_le _, Nat.zero_le _⟩ (fun H locs hH => ?_)
      refine lv_iadd hx hb dX10_countBars_26 ?_
      refine lv_istore_n (lv' := [(1, .int ((v1_4 + q7.1))), (2, .int v2_4), (0, rv E (some o))]) hx hb dX10_countBars_27 rfl hl (by decide) rfl (fun ls hl => ?_)
      refine lv_iinc (v := (v2_4 + 1)) (lv' := [(2, .int ((v2_4 + 1))), (1, .int ((v1_4 + q7.1))), (0, rv E (some o))]) hx hb dX10_countBars_28 hl (k := 1) rfl rfl (by decide) rfl (fun ls hl => ?_)
      refine lv_goto (tgt := 4) hx hb dX10_countBars_31 (by decide) ?_
      exact ih (v1_4 + q7.1) (v2_4 + 1) _ _ _ _ hH (lv_sub hl [1, 0, 2] rfl) hf
set_option maxHeartbeats 4000000 in
set_option maxRecDepth 100000 in
theorem k_X10_countBars (l : Launch) (E : Ev) (K : Kd) (z : Nat) (o : Nat) (w : Wd) (ho : K o = some (9, 0)) {r : Int32} {w' : Wd} (hf : f_X10_countBars K o w = some (r, w')) : Met l yX10_countBars (Cond.code yX10_countBars cX10_countBars 3 (Option.some Jvm.ClassFile.FieldType.int) :: bt) ({ frames := 1, cells := 0, slots := 0, locals := 21 } : Room) (va_Pc [rv E (some o)] (HB E K w z)) (QI E K z w' r) 0 0 (hA E) := by
  refine Met.ofW (cc := cX10_countBars) (maxL := 3) (ret := (Option.some Jvm.ClassFile.FieldType.int)) (by decide) rfl ?_
  intro p e s m args below meth c s₁ B hml hv
  obtain ⟨rfl, hz, hP, hKs, hT, hb0⟩ := hv
  have C : CX p l e s m _ meth c cX10_countBars 3 RX10 (Option.some Jvm.ClassFile.FieldType.int) E := ⟨B.exec, B.bytes, hml, findClass_of_methodNamed B.named, fun w h => atoms_spec (ws := Cond.code yX10_countBars cX10_countBars 3 (Option.some Jvm.ClassFile.FieldType.int) :: bt) B.pre w (List.mem_cons_of_mem _ h), hKs, hT, by rw [hz]; exact hb0, B.notSynchronized, B.returns⟩
  have hH : HQ E K z w s s.heap [] := ⟨hP, va_S.rf, hz⟩
  obtain ⟨hx, hb, hml, hown, hts, hKs, hT, hb0, hlocks, hret⟩ := id C
  have hl := lv_entry [rv E (some o)] (n := 3) (by simp [lg_len_nil, lg_len_i, lg_len_j, lg_len_q])
  rw [lg_entry_eq]
  generalize (lg_sl [rv E (some o)] ++ List.replicate (3 - (lg_sl [rv E (some o)]).length) Slot.unset).toArray = ls at hl ⊢
  replace hl : lv_has ls 3 [(0, rv E (some o))] := by simpa only [lv_args, cat_q, cat_i, cat_j, reduceIte, Nat.reduceEqDiff, Nat.reduceAdd, Nat.zero_add] using hl
  generalize s.heap = H at hH ⊢
  unfold f_X10_countBars at hf
  refine lv_iconst (v := 0) hx hb dX10_countBars_0 (by decide) ?_
  refine lv_istore_n (lv' := [(1, .int 0), (0, rv E (some o))]) hx hb dX10_countBars_1 rfl hl (by decide) rfl (fun ls hl => ?_)
  refine lv_iconst (v := 0) hx hb dX10_countBars_2 (by decide) ?_
  refine lv_istore_n (lv' := [(2, .int 0), (1, .int 0), (0, rv E (some o))]) hx hb dX10_countBars_3 rfl hl (by decide) rfl (fun ls hl => ?_)
  refine l_X10_countBars_L4  C ho _ (fun v1_4 v2_4 w1 H locs ls hH hl hf => ?_) fu 0 0 w _ _ _ hH (lv_sub hl [1, 0, 2] rfl) hf
  refine lv_iload_n hx hb dX10_countBars_34 rfl (lv_at hl 0 rfl) ?_
  exact hw_iret hx hb hret hf hH hlocks dX10_countBars_35

theorem dX10_caseTaking_0 : decode cX10_caseTaking 0 = .ok (.iconst 0, 1) := by decide +kernel
theorem dX10_caseTaking_1 : decode cX10_caseTaking 1 = .ok (.istore 4, 2) := by decide +kernel
theorem dX10_caseTaking_3 : decode cX10_caseTaking 3 = .ok (.iload 4, 2) := by decide +kernel
theorem dX10_caseTaking_5 : decode cX10_caseTaking 5 = .ok (.aload_n 0, 1) := by decide +kernel
theorem dX10_caseTaking_6 : decode cX10_caseTaking 6 = .ok (.getfield 31, 3) := by decide +kernel
theorem dX10_caseTaking_9 : decode cX10_caseTaking 9 = .ok (.iconst 3, 1) := by decide +kernel
theorem dX10_caseTaking_10 : decode cX10_caseTaking 10 = .ok (.invokevirtual 92, 3) := by decide +kernel
theorem dX10_caseTaking_13 : decode cX10_caseTaking 13 = .ok (.if_icmp .ge 53, 3) := by decide +kernel
theorem dX10_caseTaking_16 : decode cX10_caseTaking 16 = .ok (.aload_n 0, 1) := by decide +kernel
theorem dX10_caseTaking_17 : decode cX10_caseTaking 17 = .ok (.getfield 27, 3) := by decide +kernel
theorem dX10_caseTaking_20 : decode cX10_caseTaking 20 = .ok (.iload 4, 2) := by decide +kernel
theorem dX10_caseTaking_22 : decode cX10_caseTaking 22 = .ok (.aaload, 1) := by decide +kernel
theorem dX10_caseTaking_23 : decode cX10_caseTaking 23 = .ok (.iload_n 2, 1) := by decide +kernel
theorem dX10_caseTaking_24 : decode cX10_caseTaking 24 = .ok (.invokevirtual 120, 3) := by decide +kernel
theorem dX10_caseTaking_27 : decode cX10_caseTaking 27 = .ok (.ifCond .eq 33, 3) := by decide +kernel
theorem dX10_caseTaking_30 : decode cX10_caseTaking 30 = .ok (.aload_n 0, 1) := by decide +kernel
theorem dX10_caseTaking_31 : decode cX10_caseTaking 31 = .ok (.getfield 27, 3) := by decide +kernel
theorem dX10_caseTaking_34 : decode cX10_caseTaking 34 = .ok (.iload 4, 2) := by decide +kernel
theorem dX10_caseTaking_36 : decode cX10_caseTaking 36 = .ok (.aaload, 1) := by decide +kernel
theorem dX10_caseTaking_37 : decode cX10_caseTaking 37 = .ok (.getfield 116, 3) := by decide +kernel
theorem dX10_caseTaking_40 : decode cX10_caseTaking 40 = .ok (.iload_n 1, 1) := by decide +kernel
theorem dX10_caseTaking_41 : decode cX10_caseTaking 41 = .ok (.if_icmp .ne 19, 3) := by decide +kernel
theorem dX10_caseTaking_44 : decode cX10_caseTaking 44 = .ok (.aload_n 0, 1) := by decide +kernel
theorem dX10_caseTaking_45 : decode cX10_caseTaking 45 = .ok (.iload 4, 2) := by decide +kernel
theorem dX10_caseTaking_47 : decode cX10_caseTaking 47 = .ok (.invokevirtual 123, 3) := by decide +kernel
theorem dX10_caseTaking_50 : decode cX10_caseTaking 50 = .ok (.iload_n 3, 1) := by decide +kernel
theorem dX10_caseTaking_51 : decode cX10_caseTaking 51 = .ok (.invokestatic 106, 3) := by decide +kernel
theorem dX10_caseTaking_54 : decode cX10_caseTaking 54 = .ok (.ifCond .eq 6, 3) := by decide +kernel
theorem dX10_caseTaking_57 : decode cX10_caseTaking 57 = .ok (.iload 4, 2) := by decide +kernel
theorem dX10_caseTaking_59 : decode cX10_caseTaking 59 = .ok (.ireturn, 1) := by decide +kernel
theorem dX10_caseTaking_60 : decode cX10_caseTaking 60 = .ok (.iinc 4 1, 3) := by decide +kernel
theorem dX10_caseTaking_63 : decode cX10_caseTaking 63 = .ok (.goto (-60), 3) := by decide +kernel
theorem dX10_caseTaking_66 : decode cX10_caseTaking 66 = .ok (.iconst (-1), 1) := by decide +kernel
theorem dX10_caseTaking_67 : decode cX10_caseTaking 67 = .ok (.ireturn, 1) := by decide +kernel
theorem hd_X10_caseTaking : yX10_caseTaking.cls = RX10 ∧ yX10_caseTaking.cls ≠ "java/lang/invoke/MethodHandle" ∧ yX10_caseTaking.cls ≠ "java/lang/invoke/VarHandle" ∧ (parseMethodDescriptor yX10_caseTaking.desc).map (fun d => d.parameters.length) = some 3 := by decide +kernel
theorem hs_X10_caseTaking : yX10_caseTaking.cls ≠ "java/lang/invoke/MethodHandle" ∧ yX10_caseTaking.cls ≠ "java/lang/invoke/VarHandle" ∧ (parseMethodDescriptor yX10_caseTaking.desc).map (fun d => d.parameters.length) = some 3 := by decide +kernel
set_option maxHeartbeats 4000000 in
set_option maxRecDepth 100000 in
theorem l_X10_caseTaking_L3 (C : CX p l e s m args meth c cX10_caseTaking 5 RX10 (Option.some Jvm.ClassFile.FieldType.int) E) {o : Nat} (ho : K o = some (9, 0)) {r : Int32} {w' : Wd} (k : Int32 → Int32 → Int32 → Int32 → Wd → Option (Int32 × Wd)) (hk : ∀ (v1_3 : Int32) (v2_3 : Int32) (v3_3 : Int32) (v4_3 : Int32) (w : Wd) (H : Heap) (locs : List Loc) (ls : Array Slot), HQ E K z w s H locs → lv_has ls 5 [(1, .int v1_3), (2, .int v2_3), (3, .int v3_3), (4, .int v4_3), (0, rv E (some o))] → k v1_3 v2_3 v3_3 v4_3 w = some (r, w') → W p l e ({ frames := 2, cells := 0, slots := 0, locals := 42 } : Room) s m args below meth c H locs 0 0 (MQ below (QI E K z w' r) args s 0 0 (hA E)) (F0 m 66 ls [])) : ∀ (n : Nat) (v1_3 : Int32) (v2_3 : Int32) (v3_3 : Int32) (v4_3 : Int32) (w : Wd) (H : Heap) (locs : List Loc) (ls : Array Slot), HQ E K z w s H locs → lv_has ls 5 [(1, .int v1_3), (2, .int v2_3), (3, .int v3_3), (4, .int v4_3), (0, rv E (some o))] → f_X10_caseTaking_L3 K o k n v1_3 v2_3 v3_3 v4_3 w = some (r, w') → W p l e ({ frames := 2, cells := 0, slots := 0, locals := 42 } : Room) s m args below meth c H locs 0 0 (MQ below (QI E K z w' r) args s 0 0 (hA E)) (F0 m 3 ls []) := by
  obtain ⟨hx, hb, hml, hown, hts, hKs, hT, hb0, hlocks, hret⟩ := id C
  intro n
  induction n with
  | zero =>
    intro v1_3 v2_3 v3_3 v4_3 w H locs ls hH hl hf
    cases hf
  | succ n ih =>
    intro v1_3 v2_3 v3_3 v4_3 w H locs ls hH hl hf
    rw [f_X10_caseTaking_L3] at hf
    refine lv_iload hx hb dX10_caseTaking_3 (lv_at hl 3 rfl) ?_
    refine hl_aload_n hx hb dX10_caseTaking_5 rfl (lv_at hl 4 rfl) ?_
    refine g10_0 hx hb hts hown hKs hH rfl ho m2_119 dX10_caseTaking_6 ?_
    refine lv_iconst (v := 3) hx hb dX10_caseTaking_9 (by decide) ?_
    obtain ⟨a2, ha2, hf⟩ := bnd hf
    replace ha2 := chk_some ha2
    obtain ⟨q3, hq3, hf⟩ := bnd hf
    refine hcV_i hx hb hml hown hts hKs hT hb0 hH (As := [.int 3]) (rest := [.int v4_3]) (k_X9_size l E K H.size a2 3 w ha2.2 hq3) (gV m4_6 m3_151 m3_152 m1_2 m3_153) hd_X9_size ⟨Nat.le_of_ble_eq_true rfl, Nat.le_of_ble_eq_true rfl, rfl, rfl⟩ ha2.1 ha2.2 rfl rfl rfl hl.1 rfl (rcI rc0) rfl dX10_caseTaking_10 ⟨Nat.zero_le _, Nat.zero_le _⟩ (fun H locs hH => ?_)
    refine lv_icmp_ge (tgt := 66) hx hb dX10_caseTaking_13 (by decide) (fun c4 => ?_) (fun c4 => ?_)
    · replace hf := (if_pos c4).symm.trans hf
      exact hk v1_3 v2_3 v3_3 v4_3 _ _ _ _ hH (lv_sub hl [0, 1, 2, 3, 4] rfl) hf
    · replace hf := (if_neg c4).symm.trans hf
      refine hl_aload_n hx hb dX10_caseTaking_16 rfl (lv_at hl 4 rfl) ?_
      refine g10_5 hx hb hts hown hKs hH rfl ho m2_133 dX10_caseTaking_17 ?_
      refine lv_iload hx hb dX10_caseTaking_20 (lv_at hl 3 rfl) ?_
      obtain ⟨a5, ha5, hf⟩ := bnd hf
      replace ha5 := cha_some ha5
      obtain ⟨j6, hj6, hf⟩ := bnd hf
      refine hw_aald27 hx hb hKs hH ha5.1 ha5.2 hj6 dX10_caseTaking_22 ?_
      refine lv_iload_n hx hb dX10_caseTaking_23 rfl (lv_at hl 1 rfl) ?_
      obtain ⟨a7, ha7, hf⟩ := bnd hf
      replace ha7 := chk_some ha7
      obtain ⟨q8, hq8, hf⟩ := bnd hf
      refine hcV_i hx hb hml hown hts hKs hT hb0 hH (As := [.int v2_3]) (rest := []) (k_X7_isOn l E K H.size a7 v2_3 q3.2 ha7.2 hq8) (gV m5_177 m4_162 m4_163 m1_13 m4_164) hd_X7_isOn ⟨Nat.le_of_ble_eq_true rfl, Nat.le_of_ble_eq_true rfl, rfl, rfl⟩ ha7.1 ha7.2 rfl rfl rfl hl.1 rfl rc0 rfl dX10_caseTaking_24 ⟨Nat.zero_le _, Nat.zero_le _⟩ (fun H locs hH => ?_)
      refine lv_if_eq (tgt := 60) hx hb dX10_caseTaking_27 (by decide) (fun c9 => ?_) (fun c9 => ?_)
      · replace hf := (if_pos c9).symm.trans hf
        refine lv_iinc (v := (v4_3 + 1)) (lv' := [(4, .int ((v4_3 + 1))), (1, .int v1_3), (2, .int v2_3), (3, .int v3_3), (0, rv E (some o))]) hx hb dX10_caseTaking_60 hl (k := 3) rfl rfl (by decide) rfl (fun ls hl => ?_)
        refine lv_goto (tgt := 3) hx hb dX10_caseTaking_63 (by decide) ?_
        exact ih v1_3 v2_3 v3_3 (v4_3 + 1) _ _ _ _ hH (lv_sub hl [1, 2, 3, 0, 4] rfl) hf
      · replace hf := (if_neg c9).symm.trans hf
        refine hl_aload_n hx hb dX10_caseTaking_30 rfl (lv_at hl 4 rfl) ?_
        refine g10_5 hx hb hts hown hKs hH rfl ho m2_133 dX10_caseTaking_31 ?_
        refine lv_iload hx hb dX10_caseTaking_34 (lv_at hl 3 rfl) ?_
        obtain ⟨a10, ha10, hf⟩ := bnd hf
        replace ha10 := cha_some ha10
        obtain ⟨j11, hj11, hf⟩ := bnd hf
        refine hw_aald27 hx hb hKs hH ha10.1 ha10.2 hj11 dX10_caseTaking_36 ?_
        obtain ⟨a12, ha12, hf⟩ := bnd hf
        replace ha12 := chk_some ha12
        refine gn7_4 hx hb hts hown hKs hH ha12.1 ha12.2 m2_82 dX10_caseTaking_37 ?_
        refine lv_iload_n hx hb dX10_caseTaking_40 rfl (lv_at hl 0 rfl) ?_
        refine lv_icmp_ne (tgt := 60) hx hb dX10_caseTaking_41 (by decide) (fun c13 => ?_) (fun c13 => ?_)
        · replace hf := (if_neg c13).symm.trans hf
          refine lv_iinc (v := (v4_3 + 1)) (lv' := [(4, .int ((v4_3 + 1))), (1, .int v1_3), (2, .int v2_3), (3, .int v3_3), (0, rv E (some o))]) hx hb dX10_caseTaking_60 hl (k := 3) rfl rfl (by decide) rfl (fun ls hl => ?_)
          refine lv_goto (tgt := 3) hx hb dX10_caseTaking_63 (by decide) ?_
          exact ih v1_3 v2_3 v3_3 (v4_3 + 1) _ _ _ _ hH (lv_sub hl [1, 2, 3, 0, 4] rfl) hf
        · replace hf := (if_pos c13).symm.trans hf
          refine hl_aload_n hx hb dX10_caseTaking_44 rfl (lv_at hl 4 rfl) ?_
          refine lv_iload hx hb dX10_caseTaking_45 (lv_at hl 3 rfl) ?_
          obtain ⟨q14, hq14, hf⟩ := bnd hf
          refine hcV_i hx hb hml hown hts hKs hT hb0 hH (As := [.int v4_3]) (rest := []) (k_X10_slotsOf l E K H.size o v4_3 q8.2 ho hq14) (gV m5_178 m4_166 m4_167 m1_12 m4_168) hd_X10_slotsOf ⟨Nat.le_of_ble_eq_true rfl, Nat.le_of_ble_eq_true rfl, rfl, rfl⟩ rfl ho rfl rfl rfl hl.1 rfl rc0 rfl dX10_caseTaking_47 ⟨Nat.zero_le _, Nat.zero_le _⟩ (fun H locs hH => ?_)
          refine lv_iload_n hx hb dX10_caseTaking_50 rfl (lv_at hl 2 rfl) ?_
          obtain ⟨q15, hq15, hf⟩ := bnd hf
          refine hcM_i hx hb hml hown hts hKs hT hb0 hH (As := [.int (q14.1), .int v3_3]) (rest := []) (k_X12_has l E K H.size q14.1 v3_3 q14.2 hq15) m4_123 m3_194 m1_1 m3_195 hs_X12_has ⟨Nat.le_of_ble_eq_true rfl, Nat.le_of_ble_eq_true rfl, rfl, rfl⟩ hl.1 rfl rc0 rfl dX10_caseTaking_51 ⟨Nat.zero_le _, Nat.zero_le _⟩ (fun H locs hH => ?_)
          refine lv_if_eq (tgt := 60) hx hb dX10_caseTaking_54 (by decide) (fun c16 => ?_) (fun c16 => ?_)
          · replace hf := (if_pos c16).symm.trans hf
            refine lv_iinc (v := (v4_3 + 1)) (lv' := [(4, .int ((v4_3 + 1))), (1, .int v1_3), (2, .int v2_3), (3, .int v3_3), (0, rv E (some o))]) hx hb dX10_caseTaking_60 hl (k := 3) rfl rfl (by decide) rfl (fun ls hl => ?_)
            refine lv_goto (tgt := 3) hx hb dX10_caseTaking_63 (by decide) ?_
            exact ih v1_3 v2_3 v3_3 (v4_3 + 1) _ _ _ _ hH (lv_sub hl [1, 2, 3, 0, 4] rfl) hf
          · replace hf := (if_neg c16).symm.trans hf
            refine lv_iload hx hb dX10_caseTaking_57 (lv_at hl 3 rfl) ?_
            exact hw_iret hx hb hret hf hH hlocks dX10_caseTaking_59
set_option maxHeartbeats 4000000 in
set_option maxRecDepth 100000 in
theorem k_X10_caseTaking (l : Launch) (E : Ev) (K : Kd) (z : Nat) (o : Nat) (a_1 : Int32) (a_2 : Int32) (a_3 : Int32) (w : Wd) (ho : K o = some (9, 0)) {r : Int32} {w' : Wd} (hf : f_X10_caseTaking K o a_1 a_2 a_3 w = some (r, w')) : Met l yX10_caseTaking (Cond.code yX10_caseTaking cX10_caseTaking 5 (Option.some Jvm.ClassFile.FieldType.int) :: bt) ({ frames := 2, cells := 0, slots := 0, locals := 42 } : Room) (va_Pc [rv E (some o), .int a_1, .int a_2, .int a_3] (HB E K w z)) (QI E K z w' r) 0 0 (hA E) := by
  refine Met.ofW (cc := cX10_caseTaking) (maxL := 5) (ret := (Option.some Jvm.ClassFile.FieldType.int)) (by decide) rfl ?_
  intro p e s m args below meth c s₁ B hml hv
  obtain ⟨rfl, hz, hP, hKs, hT, hb0⟩ := hv
  have C : CX p l e s m _ meth c cX10_caseTaking 5 RX10 (Option.some Jvm.ClassFile.FieldType.int) E := ⟨B.exec, B.bytes, hml, findClass_of_methodNamed B.named, fun w h => atoms_spec (ws := Cond.code yX10_caseTaking cX10_caseTaking 5 (Option.some Jvm.ClassFile.FieldType.int) :: bt) B.pre w (List.mem_cons_of_mem _ h), hKs, hT, by rw [hz]; exact hb0, B.notSynchronized, B.returns⟩
  have hH : HQ E K z w s s.heap [] := ⟨hP, va_S.rf, hz⟩
  obtain ⟨hx, hb, hml, hown, hts, hKs, hT, hb0, hlocks, hret⟩ := id C
  have hl := lv_entry [rv E (some o), .int a_1, .int a_2, .int a_3] (n := 5) (by simp [lg_len_nil, lg_len_i, lg_len_j, lg_len_q])
  rw [lg_entry_eq]
  generalize (lg_sl [rv E (some o), .int a_1, .int a_2, .int a_3] ++ List.replicate (5 - (lg_sl [rv E (some o), .int a_1, .int a_2, .int a_3]).length) Slot.unset).toArray = ls at hl ⊢
  replace hl : lv_has ls 5 [(0, rv E (some o)), (1, .int a_1), (2, .int a_2), (3, .int a_3)] := by simpa only [lv_args, cat_q, cat_i, cat_j, reduceIte, Nat.reduceEqDiff, Nat.reduceAdd, Nat.zero_add] using hl
  generalize s.heap = H at hH ⊢
  unfold f_X10_caseTaking at hf
  refine lv_iconst (v := 0) hx hb dX10_caseTaking_0 (by decide) ?_
  refine lv_istore (lv' := [(4, .int 0), (0, rv E (some o)), (1, .int a_1), (2, .int a_2), (3, .int a_3)]) hx hb dX10_caseTaking_1 hl (by decide) rfl (fun ls hl => ?_)
  refine l_X10_caseTaking_L3  C ho _ (fun v1_3 v2_3 v3_3 v4_3 w1 H locs ls hH hl hf => ?_) fu a_1 a_2 a_3 0 w _ _ _ hH (lv_sub hl [2, 3, 4, 0, 1] rfl) hf
  refine lv_iconst (v := (-1)) hx hb dX10_caseTaking_66 (by decide) ?_
  exact hw_iret hx hb hret hf hH hlocks dX10_caseTaking_67

theorem dX10_sortWaiting_0 : decode cX10_sortWaiting 0 = .ok (.iconst 0, 1) := by decide +kernel
theorem dX10_sortWaiting_1 : decode cX10_sortWaiting 1 = .ok (.istore_n 2, 1) := by decide +kernel
theorem dX10_sortWaiting_2 : decode cX10_sortWaiting 2 = .ok (.iconst 0, 1) := by decide +kernel
theorem dX10_sortWaiting_3 : decode cX10_sortWaiting 3 = .ok (.istore_n 3, 1) := by decide +kernel
theorem dX10_sortWaiting_4 : decode cX10_sortWaiting 4 = .ok (.iload_n 3, 1) := by decide +kernel
theorem dX10_sortWaiting_5 : decode cX10_sortWaiting 5 = .ok (.aload_n 0, 1) := by decide +kernel
theorem dX10_sortWaiting_6 : decode cX10_sortWaiting 6 = .ok (.getfield 31, 3) := by decide +kernel
theorem dX10_sortWaiting_9 : decode cX10_sortWaiting 9 = .ok (.iconst 3, 1) := by decide +kernel
theorem dX10_sortWaiting_10 : decode cX10_sortWaiting 10 = .ok (.invokevirtual 92, 3) := by decide +kernel
theorem dX10_sortWaiting_13 : decode cX10_sortWaiting 13 = .ok (.if_icmp .ge 40, 3) := by decide +kernel
theorem dX10_sortWaiting_16 : decode cX10_sortWaiting 16 = .ok (.iload_n 2, 1) := by decide +kernel
theorem dX10_sortWaiting_17 : decode cX10_sortWaiting 17 = .ok (.aload_n 1, 1) := by decide +kernel
theorem dX10_sortWaiting_18 : decode cX10_sortWaiting 18 = .ok (.arraylength, 1) := by decide +kernel
theorem dX10_sortWaiting_19 : decode cX10_sortWaiting 19 = .ok (.if_icmp .ge 34, 3) := by decide +kernel
theorem dX10_sortWaiting_22 : decode cX10_sortWaiting 22 = .ok (.aload_n 0, 1) := by decide +kernel
theorem dX10_sortWaiting_23 : decode cX10_sortWaiting 23 = .ok (.getfield 27, 3) := by decide +kernel
theorem dX10_sortWaiting_26 : decode cX10_sortWaiting 26 = .ok (.iload_n 3, 1) := by decide +kernel
theorem dX10_sortWaiting_27 : decode cX10_sortWaiting 27 = .ok (.aaload, 1) := by decide +kernel
theorem dX10_sortWaiting_28 : decode cX10_sortWaiting 28 = .ok (.getfield 95, 3) := by decide +kernel
theorem dX10_sortWaiting_31 : decode cX10_sortWaiting 31 = .ok (.ifCond .ne 16, 3) := by decide +kernel
theorem dX10_sortWaiting_34 : decode cX10_sortWaiting 34 = .ok (.aload_n 1, 1) := by decide +kernel
theorem dX10_sortWaiting_35 : decode cX10_sortWaiting 35 = .ok (.iload_n 2, 1) := by decide +kernel
theorem dX10_sortWaiting_36 : decode cX10_sortWaiting 36 = .ok (.aload_n 0, 1) := by decide +kernel
theorem dX10_sortWaiting_37 : decode cX10_sortWaiting 37 = .ok (.iload_n 3, 1) := by decide +kernel
theorem dX10_sortWaiting_38 : decode cX10_sortWaiting 38 = .ok (.invokevirtual 144, 3) := by decide +kernel
theorem dX10_sortWaiting_41 : decode cX10_sortWaiting 41 = .ok (.invokestatic 147, 3) := by decide +kernel
theorem dX10_sortWaiting_44 : decode cX10_sortWaiting 44 = .ok (.iinc 2 1, 3) := by decide +kernel
theorem dX10_sortWaiting_47 : decode cX10_sortWaiting 47 = .ok (.iinc 3 1, 3) := by decide +kernel
theorem dX10_sortWaiting_50 : decode cX10_sortWaiting 50 = .ok (.goto (-46), 3) := by decide +kernel
theorem dX10_sortWaiting_53 : decode cX10_sortWaiting 53 = .ok (.iconst 0, 1) := by decide +kernel
theorem dX10_sortWaiting_54 : decode cX10_sortWaiting 54 = .ok (.istore_n 3, 1) := by decide +kernel
theorem dX10_sortWaiting_55 : decode cX10_sortWaiting 55 = .ok (.iload_n 3, 1) := by decide +kernel
theorem dX10_sortWaiting_56 : decode cX10_sortWaiting 56 = .ok (.iload_n 2, 1) := by decide +kernel
theorem dX10_sortWaiting_57 : decode cX10_sortWaiting 57 = .ok (.if_icmp .ge 17, 3) := by decide +kernel
theorem dX10_sortWaiting_60 : decode cX10_sortWaiting 60 = .ok (.aload_n 1, 1) := by decide +kernel
theorem dX10_sortWaiting_61 : decode cX10_sortWaiting 61 = .ok (.iload_n 3, 1) := by decide +kernel
theorem dX10_sortWaiting_62 : decode cX10_sortWaiting 62 = .ok (.dup2, 1) := by decide +kernel
theorem dX10_sortWaiting_63 : decode cX10_sortWaiting 63 = .ok (.iaload, 1) := by decide +kernel
theorem dX10_sortWaiting_64 : decode cX10_sortWaiting 64 = .ok (.bipush 12, 2) := by decide +kernel
theorem dX10_sortWaiting_66 : decode cX10_sortWaiting 66 = .ok (.irem, 1) := by decide +kernel
theorem dX10_sortWaiting_67 : decode cX10_sortWaiting 67 = .ok (.iastore, 1) := by decide +kernel
theorem dX10_sortWaiting_68 : decode cX10_sortWaiting 68 = .ok (.iinc 3 1, 3) := by decide +kernel
theorem dX10_sortWaiting_71 : decode cX10_sortWaiting 71 = .ok (.goto (-16), 3) := by decide +kernel
theorem dX10_sortWaiting_74 : decode cX10_sortWaiting 74 = .ok (.iload_n 2, 1) := by decide +kernel
theorem dX10_sortWaiting_75 : decode cX10_sortWaiting 75 = .ok (.ireturn, 1) := by decide +kernel
theorem hd_X10_sortWaiting : yX10_sortWaiting.cls = RX10 ∧ yX10_sortWaiting.cls ≠ "java/lang/invoke/MethodHandle" ∧ yX10_sortWaiting.cls ≠ "java/lang/invoke/VarHandle" ∧ (parseMethodDescriptor yX10_sortWaiting.desc).map (fun d => d.parameters.length) = some 1 := by decide +kernel
theorem hs_X10_sortWaiting : yX10_sortWaiting.cls ≠ "java/lang/invoke/MethodHandle" ∧ yX10_sortWaiting.cls ≠ "java/lang/invoke/VarHandle" ∧ (parseMethodDescriptor yX10_sortWaiting.desc).map (fun d => d.parameters.length) = some 1 := by decide +kernel
set_option maxHeartbeats 4000000 in
set_option maxRecDepth 100000 in
theorem l_X10_sortWaiting_L4 (C : CX p l e s m args meth c cX10_sortWaiting 4 RX10 (Option.some Jvm.ClassFile.FieldType.int) E) {o : Nat} (ho : K o = some (9, 0)) {r : Int32} {w' : Wd} (k : Option Nat → Int32 → Int32 → Wd → Option (Int32 × Wd)) (hk : ∀ (v1_4 : Option Nat) (v2_4 : Int32) (v3_4 : Int32) (w : Wd) (H : Heap) (locs : List Loc) (ls : Array Slot), HQ E K z w s H locs → lv_has ls 4 [(1, rv E v1_4), (2, .int v2_4), (3, .int v3_4), (0, rv E (some o))] → k v1_4 v2_4 v3_4 w = some (r, w') → W p l e ({ frames := 4, cells := 0, slots := 0, locals := 88 } : Room) s m args below meth c H locs 0 0 (MQ below (QI E K z w' r) args s 0 0 (hA E)) (F0 m 53 ls [])) : ∀ (n : Nat) (v1_4 : Option Nat) (v2_4 : Int32) (v3_4 : Int32) (w : Wd) (H : Heap) (locs : List Loc) (ls : Array Slot), HQ E K z w s H locs → lv_has ls 4 [(1, rv E v1_4), (2, .int v2_4), (3, .int v3_4), (0, rv E (some o))] → f_X10_sortWaiting_L4 K o k n v1_4 v2_4 v3_4 w = some (r, w') → W p l e ({ frames := 4, cells := 0, slots := 0, locals := 88 } : Room) s m args below meth c H locs 0 0 (MQ below (QI E K z w' r) args s 0 0 (hA E)) (F0 m 4 ls []) := by
  obtain ⟨hx, hb, hml, hown, hts, hKs, hT, hb0, hlocks, hret⟩ := id C
  intro n
  induction n with
  | zero =>
    intro v1_4 v2_4 v3_4 w H locs ls hH hl hf
    cases hf
  | succ n ih =>
    intro v1_4 v2_4 v3_4 w H locs ls hH hl hf
    rw [f_X10_sortWaiting_L4] at hf
    refine lv_iload_n hx hb dX10_sortWaiting_4 rfl (lv_at hl 2 rfl) ?_
    refine hl_aload_n hx hb dX10_sortWaiting_5 rfl (lv_at hl 3 rfl) ?_
    refine g10_0 hx hb hts hown hKs hH rfl ho m2_119 dX10_sortWaiting_6 ?_
    refine lv_iconst (v := 3) hx hb dX10_sortWaiting_9 (by decide) ?_
    obtain ⟨a2, ha2, hf⟩ := bnd hf
    replace ha2 := chk_some ha2
    obtain ⟨q3, hq3, hf⟩ := bnd hf
    refine hcV_i hx hb hml hown hts hKs hT hb0 hH (As := [.int 3]) (rest := [.int v3_4]) (k_X9_size l E K H.size a2 3 w ha2.2 hq3) (gV m4_6 m3_151 m3_152 m1_2 m3_153) hd_X9_size ⟨Nat.le_of_ble_eq_true rfl, Nat.le_of_ble_eq_true rfl, rfl, rfl⟩ ha2.1 ha2.2 rfl rfl rfl hl.1 rfl (rcI rc0) rfl dX10_sortWaiting_10 ⟨Nat.zero_le _, Nat.zero_le _⟩ (fun H locs hH => ?_)
    refine lv_icmp_ge (tgt := 53) hx hb dX10_sortWaiting_13 (by decide) (fun c4 => ?_) (fun c4 => ?_)
    · replace hf := (if_pos c4).symm.trans hf
      exact hk v1_4 v2_4 v3_4 _ _ _ _ hH (lv_sub hl [0, 1, 2, 3] rfl) hf
    · replace hf := (if_neg c4).symm.trans hf
      refine lv_iload_n hx hb dX10_sortWaiting_16 rfl (lv_at hl 1 rfl) ?_
      refine hl_aload_n hx hb dX10_sortWaiting_17 rfl (lv_at hl 0 rfl) ?_
      obtain ⟨a5, ha5, hf⟩ := bnd hf
      replace ha5 := cha_some ha5
      refine hw_alen20 hx hb hKs hH ha5.1 ha5.2 dX10_sortWaiting_18 ?_
      refine lv_icmp_ge (tgt := 53) hx hb dX10_sortWaiting_19 (by decide) (fun c6 => ?_) (fun c6 => ?_)
      · replace hf := (if_pos c6).symm.trans hf
        exact hk v1_4 v2_4 v3_4 _ _ _ _ hH (lv_sub hl [0, 1, 2, 3] rfl) hf
      · replace hf := (if_neg c6).symm.trans hf
        refine hl_aload_n hx hb dX10_sortWaiting_22 rfl (lv_at hl 3 rfl) ?_
        refine g10_5 hx hb hts hown hKs hH rfl ho m2_133 dX10_sortWaiting_23 ?_
        refine lv_iload_n hx hb dX10_sortWaiting_26 rfl (lv_at hl 2 rfl) ?_
        obtain ⟨a7, ha7, hf⟩ := bnd hf
        replace ha7 := cha_some ha7
        obtain ⟨j8, hj8, hf⟩ := bnd hf
        refine hw_aald27 hx hb hKs hH ha7.1 ha7.2 hj8 dX10_sortWaiting_27 ?_
        obtain ⟨a9, ha9, hf⟩ := bnd hf
        replace ha9 := chk_some ha9
        refine gn7_0 hx hb hts hown hKs hH ha9.1 ha9.2 m2_70 dX10_sortWaiting_28 ?_
        refine lv_if_ne (tgt := 47) hx hb dX10_sortWaiting_31 (by decide) (fun c10 => ?_) (fun c10 => ?_)
        · replace hf := (if_neg c10).symm.trans hf
          refine lv_iinc (v := (v3_4 + 1)) (lv' := [(3, .int ((v3_4 + 1))), (1, rv E v1_4), (2, .int v2_4), (0, rv E (some o))]) hx hb dX10_sortWaiting_47 hl (k := 2) rfl rfl (by decide) rfl (fun ls hl => ?_)
          refine lv_goto (tgt := 4) hx hb dX10_sortWaiting_50 (by decide) ?_
          exact ih v1_4 v2_4 (v3_4 + 1) _ _ _ _ hH (lv_sub hl [1, 2, 0, 3] rfl) hf
        · replace hf := (if_pos c10).symm.trans hf
          refine hl_aload_n hx hb dX10_sortWaiting_34 rfl (lv_at hl 0 rfl) ?_
          refine lv_iload_n hx hb dX10_sortWaiting_35 rfl (lv_at hl 1 rfl) ?_
          refine hl_aload_n hx hb dX10_sortWaiting_36 rfl (lv_at hl 3 rfl) ?_
          refine lv_iload_n hx hb dX10_sortWaiting_37 rfl (lv_at hl 2 rfl) ?_
          obtain ⟨q11, hq11, hf⟩ := bnd hf
          refine hcV_i hx hb hml hown hts hKs hT hb0 hH (As := [.int v3_4]) (rest := [.int v2_4, rv E v1_4]) (k_X10_urgencyKey l E K H.size o v3_4 q3.2 ho hq11) (gV m4_104 m4_106 ms_25 m1_12 m4_107) hd_X10_urgencyKey ⟨Nat.le_of_ble_eq_true rfl, Nat.le_of_ble_eq_true rfl, rfl, rfl⟩ rfl ho rfl rfl rfl hl.1 rfl (rcI (rcV rc0)) rfl dX10_sortWaiting_38 ⟨Nat.zero_le _, Nat.zero_le _⟩ (fun H locs hH => ?_)
          obtain ⟨q12, hq12, hf⟩ := bnd hf
          refine hcS_v hx hb hml hown hts hKs hT hb0 hH (As := [rv E v1_4, .int v2_4, .int (q11.1)]) (rest := []) (k_X10_insert l E K H.size v1_4 v2_4 q11.1 q11.2 hq12) (gS m4_108 m4_109 m1_12 m4_110) hs_X10_insert ⟨Nat.le_of_ble_eq_true rfl, Nat.le_of_ble_eq_true rfl, rfl, rfl⟩ hl.1 rfl rc0 rfl dX10_sortWaiting_41 ⟨Nat.zero_le _, Nat.zero_le _⟩ (fun H locs hH => ?_)
          refine lv_iinc (v := (v2_4 + 1)) (lv' := [(2, .int ((v2_4 + 1))), (1, rv E v1_4), (3, .int v3_4), (0, rv E (some o))]) hx hb dX10_sortWaiting_44 hl (k := 1) rfl rfl (by decide) (by simp [List.filter_cons, cat_q, cat_i, cat_j]) (fun ls hl => ?_)
          refine lv_iinc (v := (v3_4 + 1)) (lv' := [(3, .int ((v3_4 + 1))), (2, .int ((v2_4 + 1))), (1, rv E v1_4), (0, rv E (some o))]) hx hb dX10_sortWaiting_47 hl (k := 2) rfl rfl (by decide) rfl (fun ls hl => ?_)
          refine lv_goto (tgt := 4) hx hb dX10_sortWaiting_50 (by decide) ?_
          exact ih v1_4 (v2_4 + 1) (v3_4 + 1) _ _ _ _ hH (lv_sub hl [2, 1, 0, 3] rfl) hf
set_option maxHeartbeats 4000000 in
set_option maxRecDepth 100000 in
theorem l_X10_sortWaiting_L55 (C : CX p l e s m args meth c cX10_sortWaiting 4 RX10 (Option.some Jvm.ClassFile.FieldType.int) E) {o : Nat} (ho : K o = some (9, 0)) {r : Int32} {w' : Wd} (k : Option Nat → Int32 → Int32 → Wd → Option (Int32 × Wd)) (hk : ∀ (v1_55 : Option Nat) (v2_55 : Int32) (v3_55 : Int32) (w : Wd) (H : Heap) (locs : List Loc) (ls : Array Slot), HQ E K z w s H locs → lv_has ls 4 [(1, rv E v1_55), (2, .int v2_55), (3, .int v3_55), (0, rv E (some o))] → k v1_55 v2_55 v3_55 w = some (r, w') → W p l e ({ frames := 4, cells := 0, slots := 0, locals := 88 } : Room) s m args below meth c H locs 0 0 (MQ below (QI E K z w' r) args s 0 0 (hA E)) (F0 m 74 ls [])) : ∀ (n : Nat) (v1_55 : Option Nat) (v2_55 : Int32) (v3_55 : Int32) (w : Wd) (H : Heap) (locs : List Loc) (ls : Array Slot), HQ E K z w s H locs → lv_has ls 4 [(1, rv E v1_55), (2, .int v2_55), (3, .int v3_55), (0, rv E (some o))] → f_X10_sortWaiting_L55 K o k n v1_55 v2_55 v3_55 w = some (r, w') → W p l e ({ frames := 4, cells := 0, slots := 0, locals := 88 } : Room) s m args below meth c H locs 0 0 (MQ below (QI E K z w' r) args s 0 0 (hA E)) (F0 m 55 ls []) := by
  obtain ⟨hx, hb, hml, hown, hts, hKs, hT, hb0, hlocks, hret⟩ := id C
  intro n
  induction n with
  | zero =>
    intro v1_55 v2_55 v3_55 w H locs ls hH hl hf
    cases hf
  | succ n ih =>
    intro v1_55 v2_55 v3_55 w H locs ls hH hl hf
    rw [f_X10_sortWaiting_L55] at hf
    refine lv_iload_n hx hb dX10_sortWaiting_55 rfl (lv_at hl 2 rfl) ?_
    refine lv_iload_n hx hb dX10_sortWaiting_56 rfl (lv_at hl 1 rfl) ?_
    refine lv_icmp_ge (tgt := 74) hx hb dX10_sortWaiting_57 (by decide) (fun c14 => ?_) (fun c14 => ?_)
    · replace hf := (if_pos c14).symm.trans hf
      exact hk v1_55 v2_55 v3_55 _ _ _ _ hH (lv_sub hl [0, 1, 2, 3] rfl) hf
    · replace hf := (if_neg c14).symm.trans hf
      refine hl_aload_n hx hb dX10_sortWaiting_60 rfl (lv_at hl 0 rfl) ?_
      refine lv_iload_n hx hb dX10_sortWaiting_61 rfl (lv_at hl 2 rfl) ?_
      refine lv_dup2_11 hx hb dX10_sortWaiting_62 rfl rv_cat ?_
      obtain ⟨a15, ha15, hf⟩ := bnd hf
      replace ha15 := cha_some ha15
      obtain ⟨j16, hj16, hf⟩ := bnd hf
      refine hw_iald hx hb hKs hH ha15.1 ha15.2 hj16 dX10_sortWaiting_63 ?_
      refine lv_bipush (v := 12) hx hb dX10_sortWaiting_64 (by decide) ?_
      refine lv_irem hx hb dX10_sortWaiting_66 (by decide) ?_
      obtain ⟨j17, hj17, hf⟩ := bnd hf
      obtain ⟨w18, hw18, hf⟩ := bnd hf
      replace hw18 := Option.some.inj hw18
      refine hw_iast (x := ((aI w a15.1 j16) - (aI w a15.1 j16) / 12 * 12)) hx hb hKs hH ha15.1 ha15.2 hj17 dX10_sortWaiting_67 (fun H locs hH => ?_)
      rw [hw18] at hH
      refine lv_iinc (v := (v3_55 + 1)) (lv' := [(3, .int ((v3_55 + 1))), (1, rv E v1_55), (2, .int v2_55), (0, rv E (some o))]) hx hb dX10_sortWaiting_68 hl (k := 2) rfl rfl (by decide) rfl (fun ls hl => ?_)
      refine lv_goto (tgt := 55) hx hb dX10_sortWaiting_71 (by decide) ?_
      exact ih v1_55 v2_55 (v3_55 + 1) _ _ _ _ hH (lv_sub hl [1, 2, 0, 3] rfl) hf
set_option maxHeartbeats 4000000 in
set_option maxRecDepth 100000 in
theorem k_X10_sortWaiting (l : Launch) (E : Ev) (K : Kd) (z : Nat) (o : Nat) (a_1 : Option Nat) (w : Wd) (ho : K o = some (9, 0)) {r : Int32} {w' : Wd} (hf : f_X10_sortWaiting K o a_1 w = some (r, w')) : Met l yX10_sortWaiting (Cond.code yX10_sortWaiting cX10_sortWaiting 4 (Option.some Jvm.ClassFile.FieldType.int) :: bt) ({ frames := 4, cells := 0, slots := 0, locals := 88 } : Room) (va_Pc [rv E (some o), rv E a_1] (HB E K w z)) (QI E K z w' r) 0 0 (hA E) := by
  refine Met.ofW (cc := cX10_sortWaiting) (maxL := 4) (ret := (Option.some Jvm.ClassFile.FieldType.int)) (by decide) rfl ?_
  intro p e s m args below meth c s₁ B hml hv
  obtain ⟨rfl, hz, hP, hKs, hT, hb0⟩ := hv
  have C : CX p l e s m _ meth c cX10_sortWaiting 4 RX10 (Option.some Jvm.ClassFile.FieldType.int) E := ⟨B.exec, B.bytes, hml, findClass_of_methodNamed B.named, fun w h => atoms_spec (ws := Cond.code yX10_sortWaiting cX10_sortWaiting 4 (Option.some Jvm.ClassFile.FieldType.int) :: bt) B.pre w (List.mem_cons_of_mem _ h), hKs, hT, by rw [hz]; exact hb0, B.notSynchronized, B.returns⟩
  have hH : HQ E K z w s s.heap [] := ⟨hP, va_S.rf, hz⟩
  obtain ⟨hx, hb, hml, hown, hts, hKs, hT, hb0, hlocks, hret⟩ := id C
  have hl := lv_entry [rv E (some o), rv E a_1] (n := 4) (by simp [lg_len_nil, lg_len_i, lg_len_j, lg_len_q])
  rw [lg_entry_eq]
  generalize (lg_sl [rv E (some o), rv E a_1] ++ List.replicate (4 - (lg_sl [rv E (some o), rv E a_1]).length) Slot.unset).toArray = ls at hl ⊢
  replace hl : lv_has ls 4 [(0, rv E (some o)), (1, rv E a_1)] := by simpa only [lv_args, cat_q, cat_i, cat_j, reduceIte, Nat.reduceEqDiff, Nat.reduceAdd, Nat.zero_add] using hl
  generalize s.heap = H at hH ⊢
  unfold f_X10_sortWaiting at hf
  refine lv_iconst (v := 0) hx hb dX10_sortWaiting_0 (by decide) ?_
  refine lv_istore_n (lv' := [(2, .int 0), (0, rv E (some o)), (1, rv E a_1)]) hx hb dX10_sortWaiting_1 rfl hl (by decide) (by simp [List.filter_cons, cat_q, cat_i, cat_j]) (fun ls hl => ?_)
  refine lv_iconst (v := 0) hx hb dX10_sortWaiting_2 (by decide) ?_
  refine lv_istore_n (lv' := [(3, .int 0), (2, .int 0), (0, rv E (some o)), (1, rv E a_1)]) hx hb dX10_sortWaiting_3 rfl hl (by decide) rfl (fun ls hl => ?_)
  refine l_X10_sortWaiting_L4  C ho _ (fun v1_4 v2_4 v3_4 w1 H locs ls hH hl hf => ?_) fu a_1 0 0 w _ _ _ hH (lv_sub hl [3, 1, 0, 2] rfl) hf
  refine lv_iconst (v := 0) hx hb dX10_sortWaiting_53 (by decide) ?_
  refine lv_istore_n (lv' := [(3, .int 0), (1, rv E v1_4), (2, .int v2_4), (0, rv E (some o))]) hx hb dX10_sortWaiting_54 rfl hl (by decide) rfl (fun ls hl => ?_)
  refine l_X10_sortWaiting_L55  C ho _ (fun v1_55 v2_55 v3_55 w13 H locs ls hH hl hf => ?_) fu v1_4 v2_4 0 w1 _ _ _ hH (lv_sub hl [1, 2, 0, 3] rfl) hf
  refine lv_iload_n hx hb dX10_sortWaiting_74 rfl (lv_at hl 1 rfl) ?_
  exact hw_iret hx hb hret hf hH hlocks dX10_sortWaiting_75

theorem dX10_takeAway_0 : decode cX10_takeAway 0 = .ok (.aload_n 0, 1) := by decide +kernel
theorem dX10_takeAway_1 : decode cX10_takeAway 1 = .ok (.getfield 27, 3) := by decide +kernel
theorem dX10_takeAway_4 : decode cX10_takeAway 4 = .ok (.iload_n 1, 1) := by decide +kernel
theorem dX10_takeAway_5 : decode cX10_takeAway 5 = .ok (.aaload, 1) := by decide +kernel
theorem dX10_takeAway_6 : decode cX10_takeAway 6 = .ok (.astore_n 3, 1) := by decide +kernel
theorem dX10_takeAway_7 : decode cX10_takeAway 7 = .ok (.aload_n 3, 1) := by decide +kernel
theorem dX10_takeAway_8 : decode cX10_takeAway 8 = .ok (.getfield 155, 3) := by decide +kernel
theorem dX10_takeAway_11 : decode cX10_takeAway 11 = .ok (.iconst 5, 1) := by decide +kernel
theorem dX10_takeAway_12 : decode cX10_takeAway 12 = .ok (.if_icmp .ge 70, 3) := by decide +kernel
theorem dX10_takeAway_15 : decode cX10_takeAway 15 = .ok (.aload_n 3, 1) := by decide +kernel
theorem dX10_takeAway_16 : decode cX10_takeAway 16 = .ok (.getfield 78, 3) := by decide +kernel
theorem dX10_takeAway_19 : decode cX10_takeAway 19 = .ok (.aload_n 0, 1) := by decide +kernel
theorem dX10_takeAway_20 : decode cX10_takeAway 20 = .ok (.getfield 31, 3) := by decide +kernel
theorem dX10_takeAway_23 : decode cX10_takeAway 23 = .ok (.getfield 158, 3) := by decide +kernel
theorem dX10_takeAway_26 : decode cX10_takeAway 26 = .ok (.iload_n 2, 1) := by decide +kernel
theorem dX10_takeAway_27 : decode cX10_takeAway 27 = .ok (.iaload, 1) := by decide +kernel
theorem dX10_takeAway_28 : decode cX10_takeAway 28 = .ok (.iadd, 1) := by decide +kernel
theorem dX10_takeAway_29 : decode cX10_takeAway 29 = .ok (.istore 4, 2) := by decide +kernel
theorem dX10_takeAway_31 : decode cX10_takeAway 31 = .ok (.aload_n 0, 1) := by decide +kernel
theorem dX10_takeAway_32 : decode cX10_takeAway 32 = .ok (.getfield 31, 3) := by decide +kernel
theorem dX10_takeAway_35 : decode cX10_takeAway 35 = .ok (.getfield 57, 3) := by decide +kernel
theorem dX10_takeAway_38 : decode cX10_takeAway 38 = .ok (.iload_n 1, 1) := by decide +kernel
theorem dX10_takeAway_39 : decode cX10_takeAway 39 = .ok (.aaload, 1) := by decide +kernel
theorem dX10_takeAway_40 : decode cX10_takeAway 40 = .ok (.getfield 151, 3) := by decide +kernel
theorem dX10_takeAway_43 : decode cX10_takeAway 43 = .ok (.ifCond .eq 17, 3) := by decide +kernel
theorem dX10_takeAway_46 : decode cX10_takeAway 46 = .ok (.iload 4, 2) := by decide +kernel
theorem dX10_takeAway_48 : decode cX10_takeAway 48 = .ok (.aload_n 0, 1) := by decide +kernel
theorem dX10_takeAway_49 : decode cX10_takeAway 49 = .ok (.getfield 31, 3) := by decide +kernel
theorem dX10_takeAway_52 : decode cX10_takeAway 52 = .ok (.getfield 161, 3) := by decide +kernel
theorem dX10_takeAway_55 : decode cX10_takeAway 55 = .ok (.invokestatic 164, 3) := by decide +kernel
theorem dX10_takeAway_58 : decode cX10_takeAway 58 = .ok (.istore 4, 2) := by decide +kernel
theorem dX10_takeAway_60 : decode cX10_takeAway 60 = .ok (.aload_n 3, 1) := by decide +kernel
theorem dX10_takeAway_61 : decode cX10_takeAway 61 = .ok (.aload_n 0, 1) := by decide +kernel
theorem dX10_takeAway_62 : decode cX10_takeAway 62 = .ok (.getfield 39, 3) := by decide +kernel
theorem dX10_takeAway_65 : decode cX10_takeAway 65 = .ok (.iload_n 2, 1) := by decide +kernel
theorem dX10_takeAway_66 : decode cX10_takeAway 66 = .ok (.iload 4, 2) := by decide +kernel
theorem dX10_takeAway_68 : decode cX10_takeAway 68 = .ok (.aload_n 3, 1) := by decide +kernel
theorem dX10_takeAway_69 : decode cX10_takeAway 69 = .ok (.getfield 78, 3) := by decide +kernel
theorem dX10_takeAway_72 : decode cX10_takeAway 72 = .ok (.isub, 1) := by decide +kernel
theorem dX10_takeAway_73 : decode cX10_takeAway 73 = .ok (.invokevirtual 169, 3) := by decide +kernel
theorem dX10_takeAway_76 : decode cX10_takeAway 76 = .ok (.aload_n 3, 1) := by decide +kernel
theorem dX10_takeAway_77 : decode cX10_takeAway 77 = .ok (.iload 4, 2) := by decide +kernel
theorem dX10_takeAway_79 : decode cX10_takeAway 79 = .ok (.putfield 78, 3) := by decide +kernel
theorem dX10_takeAway_82 : decode cX10_takeAway 82 = .ok (.aload_n 3, 1) := by decide +kernel
theorem dX10_takeAway_83 : decode cX10_takeAway 83 = .ok (.invokevirtual 173, 3) := by decide +kernel
theorem dX10_takeAway_86 : decode cX10_takeAway 86 = .ok (.return_, 1) := by decide +kernel
theorem hd_X10_takeAway : yX10_takeAway.cls = RX10 ∧ yX10_takeAway.cls ≠ "java/lang/invoke/MethodHandle" ∧ yX10_takeAway.cls ≠ "java/lang/invoke/VarHandle" ∧ (parseMethodDescriptor yX10_takeAway.desc).map (fun d => d.parameters.length) = some 2 := by decide +kernel
theorem hs_X10_takeAway : yX10_takeAway.cls ≠ "java/lang/invoke/MethodHandle" ∧ yX10_takeAway.cls ≠ "java/lang/invoke/VarHandle" ∧ (parseMethodDescriptor yX10_takeAway.desc).map (fun d => d.parameters.length) = some 2 := by decide +kernel
set_option maxHeartbeats 4000000 in
set_option maxRecDepth 100000 in
theorem k_X10_takeAway (l : Launch) (E : Ev) (K : Kd) (z : Nat) (o : Nat) (a_1 : Int32) (a_2 : Int32) (w : Wd) (ho : K o = some (9, 0)) {w' : Wd} (hf : f_X10_takeAway K o a_1 a_2 w = some w') : Met l yX10_takeAway (Cond.code yX10_takeAway cX10_takeAway 5 (Option.none : Option Jvm.ClassFile.FieldType) :: bt) ({ frames := 1, cells := 0, slots := 0, locals := 24 } : Room) (va_Pc [rv E (some o), .int a_1, .int a_2] (HB E K w z)) (QV E K z w') 0 0 (hA E) := by
  refine Met.ofW (cc := cX10_takeAway) (maxL := 5) (ret := (Option.none : Option Jvm.ClassFile.FieldType)) (by decide) rfl ?_
  intro p e s m args below meth c s₁ B hml hv
  obtain ⟨rfl, hz, hP, hKs, hT, hb0⟩ := hv
  have C : CX p l e s m _ meth c cX10_takeAway 5 RX10 (Option.none : Option Jvm.ClassFile.FieldType) E := ⟨B.exec, B.bytes, hml, findClass_of_methodNamed B.named, fun w h => atoms_spec (ws := Cond.code yX10_takeAway cX10_takeAway 5 (Option.none : Option Jvm.ClassFile.FieldType) :: bt) B.pre w (List.mem_cons_of_mem _ h), hKs, hT, by rw [hz]; exact hb0, B.notSynchronized, B.returns⟩
  have hH : HQ E K z w s s.heap [] := ⟨hP, va_S.rf, hz⟩
  obtain ⟨hx, hb, hml, hown, hts, hKs, hT, hb0, hlocks, hret⟩ := id C
  have hl := lv_entry [rv E (some o), .int a_1, .int a_2] (n := 5) (by simp [lg_len_nil, lg_len_i, lg_len_j, lg_len_q])
  rw [lg_entry_eq]
  generalize (lg_sl [rv E (some o), .int a_1, .int a_2] ++ List.replicate (5 - (lg_sl [rv E (some o), .int a_1, .int a_2]).length) Slot.unset).toArray = ls at hl ⊢
  replace hl : lv_has ls 5 [(0, rv E (some o)), (1, .int a_1), (2, .int a_2)] := by simpa only [lv_args, cat_q, cat_i, cat_j, reduceIte, Nat.reduceEqDiff, Nat.reduceAdd, Nat.zero_add] using hl
  generalize s.heap = H at hH ⊢
  unfold f_X10_takeAway at hf
  refine hl_aload_n hx hb dX10_takeAway_0 rfl (lv_at hl 0 rfl) ?_
  refine g10_5 hx hb hts hown hKs hH rfl ho m2_133 dX10_takeAway_1 ?_
  refine lv_iload_n hx hb dX10_takeAway_4 rfl (lv_at hl 1 rfl) ?_
  obtain ⟨a1, ha1, hf⟩ := bnd hf
  replace ha1 := cha_some ha1
  obtain ⟨j2, hj2, hf⟩ := bnd hf
  refine hw_aald27 hx hb hKs hH ha1.1 ha1.2 hj2 dX10_takeAway_5 ?_
  refine hl_astore_n (lv' := [(3, rv E (aR w a1.1 j2)), (0, rv E (some o)), (1, .int a_1), (2, .int a_2)]) hx hb dX10_takeAway_6 rfl hl (by decide) rfl (fun ls hl => ?_)
  refine hl_aload_n hx hb dX10_takeAway_7 rfl (lv_at hl 0 rfl) ?_
  obtain ⟨a3, ha3, hf⟩ := bnd hf
  replace ha3 := chk_some ha3
  refine gn7_6 hx hb hts hown hKs hH ha3.1 ha3.2 m2_91 dX10_takeAway_8 ?_
  refine lv_iconst (v := 5) hx hb dX10_takeAway_11 (by decide) ?_
  refine lv_icmp_ge (tgt := 82) hx hb dX10_takeAway_12 (by decide) (fun c4 => ?_) (fun c4 => ?_)
  · replace hf := (if_pos c4).symm.trans hf
    refine hl_aload_n hx hb dX10_takeAway_82 rfl (lv_at hl 0 rfl) ?_
    obtain ⟨q5, hq5, hf⟩ := bnd hf
    refine hcV_v hx hb hml hown hts hKs hT hb0 hH (As := []) (rest := []) (k_X7_dropHearing l E K H.size a3 w ha3.2 hq5) (gV m6_90 m2_116 m2_117 m1_13 m2_118) hd_X7_dropHearing ⟨Nat.le_of_ble_eq_true rfl, Nat.le_of_ble_eq_true rfl, rfl, rfl⟩ ha3.1 ha3.2 rfl rfl rfl hl.1 rfl rc0 rfl dX10_takeAway_83 ⟨Nat.zero_le _, Nat.zero_le _⟩ (fun H locs hH => ?_)
    exact hw_vret hx hb hret hf hH hlocks dX10_takeAway_86
  · replace hf := (if_neg c4).symm.trans hf
    refine hl_aload_n hx hb dX10_takeAway_15 rfl (lv_at hl 0 rfl) ?_
    refine gn7_1 hx hb hts hown hKs hH ha3.1 ha3.2 m2_73 dX10_takeAway_16 ?_
    refine hl_aload_n hx hb dX10_takeAway_19 rfl (lv_at hl 1 rfl) ?_
    refine g10_0 hx hb hts hown hKs hH rfl ho m2_119 dX10_takeAway_20 ?_
    obtain ⟨a6, ha6, hf⟩ := bnd hf
    replace ha6 := chk_some ha6
    refine gn9_11 hx hb hts hown hKs hH ha6.1 ha6.2 m1_187 dX10_takeAway_23 ?_
    refine lv_iload_n hx hb dX10_takeAway_26 rfl (lv_at hl 3 rfl) ?_
    obtain ⟨a7, ha7, hf⟩ := bnd hf
    replace ha7 := cha_some ha7
    obtain ⟨j8, hj8, hf⟩ := bnd hf
    refine hw_iald hx hb hKs hH ha7.1 ha7.2 hj8 dX10_takeAway_27 ?_
    refine lv_iadd hx hb dX10_takeAway_28 ?_
    refine lv_istore (lv' := [(4, .int (((wI w 701 a3) + (aI w a7.1 j8)))), (3, rv E (aR w a1.1 j2)), (0, rv E (some o)), (1, .int a_1), (2, .int a_2)]) hx hb dX10_takeAway_29 hl (by decide) (by simp [List.filter_cons, cat_q, cat_i, cat_j]) (fun ls hl => ?_)
    refine hl_aload_n hx hb dX10_takeAway_31 rfl (lv_at hl 2 rfl) ?_
    refine g10_0 hx hb hts hown hKs hH rfl ho m2_119 dX10_takeAway_32 ?_
    refine gn9_9 hx hb hts hown hKs hH ha6.1 ha6.2 m1_177 dX10_takeAway_35 ?_
    refine lv_iload_n hx hb dX10_takeAway_38 rfl (lv_at hl 3 rfl) ?_
    obtain ⟨a9, ha9, hf⟩ := bnd hf
    replace ha9 := cha_some ha9
    obtain ⟨j10, hj10, hf⟩ := bnd hf
    refine hw_aald25 hx hb hKs hH ha9.1 ha9.2 hj10 dX10_takeAway_39 ?_
    obtain ⟨a11, ha11, hf⟩ := bnd hf
    replace ha11 := chk_some ha11
    refine gn3_3 hx hb hts hown hKs hH ha11.1 ha11.2 m1_103 dX10_takeAway_40 ?_
    refine lv_if_eq (tgt := 60) hx hb dX10_takeAway_43 (by decide) (fun c12 => ?_) (fun c12 => ?_)
    · replace hf := (if_pos c12).symm.trans hf
      refine hl_aload_n hx hb dX10_takeAway_60 rfl (lv_at hl 1 rfl) ?_
      refine hl_aload_n hx hb dX10_takeAway_61 rfl (lv_at hl 2 rfl) ?_
      refine g10_1 hx hb hts hown hKs hH rfl ho m2_123 dX10_takeAway_62 ?_
      refine lv_iload_n hx hb dX10_takeAway_65 rfl (lv_at hl 4 rfl) ?_
      refine lv_iload hx hb dX10_takeAway_66 (lv_at hl 0 rfl) ?_
      refine hl_aload_n hx hb dX10_takeAway_68 rfl (lv_at hl 1 rfl) ?_
      refine gn7_1 hx hb hts hown hKs hH ha3.1 ha3.2 m2_73 dX10_takeAway_69 ?_
      refine lv_isub hx hb dX10_takeAway_72 ?_
      obtain ⟨q13, hq13, hf⟩ := bnd hf
      refine hcV_v hx hb hml hown hts hKs hT hb0 hH (As := [.int ((wI w 1001 o)), .int a_2, .int ((((wI w 701 a3) + (aI w a7.1 j8)) - (wI w 701 a3)))]) (rest := []) (k_X7_note l E K H.size a3 (wI w 1001 o) a_2 (((wI w 701 a3) + (aI w a7.1 j8)) - (wI w 701 a3)) w ha3.2 hq13) (gV m6_86 m6_87 m6_88 m1_13 m6_89) hd_X7_note ⟨Nat.le_of_ble_eq_true rfl, Nat.le_of_ble_eq_true rfl, rfl, rfl⟩ ha3.1 ha3.2 rfl rfl rfl hl.1 rfl rc0 rfl dX10_takeAway_73 ⟨Nat.zero_le _, Nat.zero_le _⟩ (fun H locs hH => ?_)
      refine hl_aload_n hx hb dX10_takeAway_76 rfl (lv_at hl 1 rfl) ?_
      refine lv_iload hx hb dX10_takeAway_77 (lv_at hl 0 rfl) ?_
      obtain ⟨w14, hw14, hf⟩ := bnd hf
      replace hw14 := Option.some.inj hw14
      refine pn7_1 (v := ((wI w 701 a3) + (aI w a7.1 j8))) hx hb hts hown hKs hH ha3.1 ha3.2 m2_73 dX10_takeAway_79 (fun H locs hH => ?_)
      rw [hw14] at hH
      refine hl_aload_n hx hb dX10_takeAway_82 rfl (lv_at hl 1 rfl) ?_
      obtain ⟨q15, hq15, hf⟩ := bnd hf
      refine hcV_v hx hb hml hown hts hKs hT hb0 hH (As := []) (rest := []) (k_X7_dropHearing l E K H.size a3 w14 ha3.2 hq15) (gV m6_90 m2_116 m2_117 m1_13 m2_118) hd_X7_dropHearing ⟨Nat.le_of_ble_eq_true rfl, Nat.le_of_ble_eq_true rfl, rfl, rfl⟩ ha3.1 ha3.2 rfl rfl rfl hl.1 rfl rc0 rfl dX10_takeAway_83 ⟨Nat.zero_le _, Nat.zero_le _⟩ (fun H locs hH => ?_)
      exact hw_vret hx hb hret hf hH hlocks dX10_takeAway_86
    · replace hf := (if_neg c12).symm.trans hf
      refine lv_iload hx hb dX10_takeAway_46 (lv_at hl 0 rfl) ?_
      refine hl_aload_n hx hb dX10_takeAway_48 rfl (lv_at hl 2 rfl) ?_
      refine g10_0 hx hb hts hown hKs hH rfl ho m2_119 dX10_takeAway_49 ?_
      refine gn9_13 hx hb hts hown hKs hH ha6.1 ha6.2 m1_193 dX10_takeAway_52 ?_
      obtain ⟨q16, hq16, hf⟩ := bnd hf
      refine hcS_i hx hb hml hown hts hKs hT hb0 hH (As := [.int (((wI w 701 a3) + (aI w a7.1 j8))), .int ((wI w 913 a6))]) (rest := []) (k_J9_min_7cf53 l E K H.size ((wI w 701 a3) + (aI w a7.1 j8)) (wI w 913 a6) w hq16) (gS m6_85 m3_54 m1_5 m3_55) hs_J9_min_7cf53 ⟨Nat.le_of_ble_eq_true rfl, Nat.le_of_ble_eq_true rfl, rfl, rfl⟩ hl.1 rfl rc0 rfl dX10_takeAway_55 ⟨Nat.zero_le _, Nat.zero_le _⟩ (fun H locs hH => ?_)
      refine lv_istore (lv' := [(4, .int (q16.1)), (3, rv E (aR w a1.1 j2)), (0, rv E (some o)), (1, .int a_1), (2, .int a_2)]) hx hb dX10_takeAway_58 hl (by decide) (by simp [List.filter_cons, cat_q, cat_i, cat_j]) (fun ls hl => ?_)
      refine hl_aload_n hx hb dX10_takeAway_60 rfl (lv_at hl 1 rfl) ?_
      refine hl_aload_n hx hb dX10_takeAway_61 rfl (lv_at hl 2 rfl) ?_
      refine g10_1 hx hb hts hown hKs hH rfl ho m2_123 dX10_takeAway_62 ?_
      refine lv_iload_n hx hb dX10_takeAway_65 rfl (lv_at hl 4 rfl) ?_
      refine lv_iload hx hb dX10_takeAway_66 (lv_at hl 0 rfl) ?_
      refine hl_aload_n hx hb dX10_takeAway_68 rfl (lv_at hl 1 rfl) ?_
      refine gn7_1 hx hb hts hown hKs hH ha3.1 ha3.2 m2_73 dX10_takeAway_69 ?_
      refine lv_isub hx hb dX10_takeAway_72 ?_
      obtain ⟨q17, hq17, hf⟩ := bnd hf
      refine hcV_v hx hb hml hown hts hKs hT hb0 hH (As := [.int ((wI q16.2 1001 o)), .int a_2, .int ((q16.1 - (wI q16.2 701 a3)))]) (rest := []) (k_X7_note l E K H.size a3 (wI q16.2 1001 o) a_2 (q16.1 - (wI q16.2 701 a3)) q16.2 ha3.2 hq17) (gV m6_86 m6_87 m6_88 m1_13 m6_89) hd_X7_note ⟨Nat.le_of_ble_eq_true rfl, Nat.le_of_ble_eq_true rfl, rfl, rfl⟩ ha3.1 ha3.2 rfl rfl rfl hl.1 rfl rc0 rfl dX10_takeAway_73 ⟨Nat.zero_le _, Nat.zero_le _⟩ (fun H locs hH => ?_)
      refine hl_aload_n hx hb dX10_takeAway_76 rfl (lv_at hl 1 rfl) ?_
      refine lv_iload hx hb dX10_takeAway_77 (lv_at hl 0 rfl) ?_
      obtain ⟨w18, hw18, hf⟩ := bnd hf
      replace hw18 := Option.some.inj hw18
      refine pn7_1 (v := q16.1) hx hb hts hown hKs hH ha3.1 ha3.2 m2_73 dX10_takeAway_79 (fun H locs hH => ?_)
      rw [hw18] at hH
      refine hl_aload_n hx hb dX10_takeAway_82 rfl (lv_at hl 1 rfl) ?_
      obtain ⟨q19, hq19, hf⟩ := bnd hf
      refine hcV_v hx hb hml hown hts hKs hT hb0 hH (As := []) (rest := []) (k_X7_dropHearing l E K H.size a3 w18 ha3.2 hq19) (gV m6_90 m2_116 m2_117 m1_13 m2_118) hd_X7_dropHearing ⟨Nat.le_of_ble_eq_true rfl, Nat.le_of_ble_eq_true rfl, rfl, rfl⟩ ha3.1 ha3.2 rfl rfl rfl hl.1 rfl rc0 rfl dX10_takeAway_83 ⟨Nat.zero_le _, Nat.zero_le _⟩ (fun H locs hH => ?_)
      exact hw_vret hx hb hret hf hH hlocks dX10_takeAway_86

theorem dX12_count_0 : decode cX12_count 0 = .ok (.iload_n 1, 1) := by decide +kernel
theorem dX12_count_1 : decode cX12_count 1 = .ok (.tableswitch 209 0 13 #[71, 83, 95, 107, 119, 130, 138, 149, 157, 168, 173, 182, 191, 200], 71) := by decide +kernel
theorem dX12_count_72 : decode cX12_count 72 = .ok (.aload_n 0, 1) := by decide +kernel
theorem dX12_count_73 : decode cX12_count 73 = .ok (.getfield 35, 3) := by decide +kernel
theorem dX12_count_76 : decode cX12_count 76 = .ok (.getfield 87, 3) := by decide +kernel
theorem dX12_count_79 : decode cX12_count 79 = .ok (.iconst 0, 1) := by decide +kernel
theorem dX12_count_80 : decode cX12_count 80 = .ok (.invokevirtual 105, 3) := by decide +kernel
theorem dX12_count_83 : decode cX12_count 83 = .ok (.ireturn, 1) := by decide +kernel
theorem dX12_count_84 : decode cX12_count 84 = .ok (.aload_n 0, 1) := by decide +kernel
theorem dX12_count_85 : decode cX12_count 85 = .ok (.getfield 35, 3) := by decide +kernel
theorem dX12_count_88 : decode cX12_count 88 = .ok (.getfield 87, 3) := by decide +kernel
theorem dX12_count_91 : decode cX12_count 91 = .ok (.iconst 1, 1) := by decide +kernel
theorem dX12_count_92 : decode cX12_count 92 = .ok (.invokevirtual 105, 3) := by decide +kernel
theorem dX12_count_95 : decode cX12_count 95 = .ok (.ireturn, 1) := by decide +kernel
theorem dX12_count_96 : decode cX12_count 96 = .ok (.aload_n 0, 1) := by decide +kernel
theorem dX12_count_97 : decode cX12_count 97 = .ok (.getfield 35, 3) := by decide +kernel
theorem dX12_count_100 : decode cX12_count 100 = .ok (.getfield 87, 3) := by decide +kernel
theorem dX12_count_103 : decode cX12_count 103 = .ok (.iconst 2, 1) := by decide +kernel
theorem dX12_count_104 : decode cX12_count 104 = .ok (.invokevirtual 105, 3) := by decide +kernel
theorem dX12_count_107 : decode cX12_count 107 = .ok (.ireturn, 1) := by decide +kernel
theorem dX12_count_108 : decode cX12_count 108 = .ok (.aload_n 0, 1) := by decide +kernel
theorem dX12_count_109 : decode cX12_count 109 = .ok (.getfield 35, 3) := by decide +kernel
theorem dX12_count_112 : decode cX12_count 112 = .ok (.getfield 87, 3) := by decide +kernel
theorem dX12_count_115 : decode cX12_count 115 = .ok (.iconst 3, 1) := by decide +kernel
theorem dX12_count_116 : decode cX12_count 116 = .ok (.invokevirtual 105, 3) := by decide +kernel
theorem dX12_count_119 : decode cX12_count 119 = .ok (.ireturn, 1) := by decide +kernel
theorem dX12_count_120 : decode cX12_count 120 = .ok (.aload_n 0, 1) := by decide +kernel
theorem dX12_count_121 : decode cX12_count 121 = .ok (.getfield 35, 3) := by decide +kernel
theorem dX12_count_124 : decode cX12_count 124 = .ok (.getfield 109, 3) := by decide +kernel
theorem dX12_count_127 : decode cX12_count 127 = .ok (.getfield 113, 3) := by decide +kernel
theorem dX12_count_130 : decode cX12_count 130 = .ok (.ireturn, 1) := by decide +kernel
theorem dX12_count_131 : decode cX12_count 131 = .ok (.aload_n 0, 1) := by decide +kernel
theorem dX12_count_132 : decode cX12_count 132 = .ok (.getfield 35, 3) := by decide +kernel
theorem dX12_count_135 : decode cX12_count 135 = .ok (.invokevirtual 117, 3) := by decide +kernel
theorem dX12_count_138 : decode cX12_count 138 = .ok (.ireturn, 1) := by decide +kernel
theorem dX12_count_139 : decode cX12_count 139 = .ok (.aload_n 0, 1) := by decide +kernel
theorem dX12_count_140 : decode cX12_count 140 = .ok (.getfield 35, 3) := by decide +kernel
theorem dX12_count_143 : decode cX12_count 143 = .ok (.getfield 87, 3) := by decide +kernel
theorem dX12_count_146 : decode cX12_count 146 = .ok (.invokevirtual 121, 3) := by decide +kernel
theorem dX12_count_149 : decode cX12_count 149 = .ok (.ireturn, 1) := by decide +kernel
theorem dX12_count_150 : decode cX12_count 150 = .ok (.aload_n 0, 1) := by decide +kernel
theorem dX12_count_151 : decode cX12_count 151 = .ok (.getfield 35, 3) := by decide +kernel
theorem dX12_count_154 : decode cX12_count 154 = .ok (.getfield 124, 3) := by decide +kernel
theorem dX12_count_157 : decode cX12_count 157 = .ok (.ireturn, 1) := by decide +kernel
theorem dX12_count_158 : decode cX12_count 158 = .ok (.aload_n 0, 1) := by decide +kernel
theorem dX12_count_159 : decode cX12_count 159 = .ok (.getfield 35, 3) := by decide +kernel
theorem dX12_count_162 : decode cX12_count 162 = .ok (.getfield 87, 3) := by decide +kernel
theorem dX12_count_165 : decode cX12_count 165 = .ok (.getfield 127, 3) := by decide +kernel
theorem dX12_count_168 : decode cX12_count 168 = .ok (.ireturn, 1) := by decide +kernel
theorem dX12_count_169 : decode cX12_count 169 = .ok (.aload_n 0, 1) := by decide +kernel
theorem dX12_count_170 : decode cX12_count 170 = .ok (.getfield 102, 3) := by decide +kernel
theorem dX12_count_173 : decode cX12_count 173 = .ok (.ireturn, 1) := by decide +kernel
theorem dX12_count_174 : decode cX12_count 174 = .ok (.aload_n 0, 1) := by decide +kernel
theorem dX12_count_175 : decode cX12_count 175 = .ok (.getfield 35, 3) := by decide +kernel
theorem dX12_count_178 : decode cX12_count 178 = .ok (.iconst 0, 1) := by decide +kernel
theorem dX12_count_179 : decode cX12_count 179 = .ok (.invokevirtual 130, 3) := by decide +kernel
theorem dX12_count_182 : decode cX12_count 182 = .ok (.ireturn, 1) := by decide +kernel
theorem dX12_count_183 : decode cX12_count 183 = .ok (.aload_n 0, 1) := by decide +kernel
theorem dX12_count_184 : decode cX12_count 184 = .ok (.getfield 35, 3) := by decide +kernel
theorem dX12_count_187 : decode cX12_count 187 = .ok (.iconst 1, 1) := by decide +kernel
theorem dX12_count_188 : decode cX12_count 188 = .ok (.invokevirtual 130, 3) := by decide +kernel
theorem dX12_count_191 : decode cX12_count 191 = .ok (.ireturn, 1) := by decide +kernel
theorem dX12_count_192 : decode cX12_count 192 = .ok (.aload_n 0, 1) := by decide +kernel
theorem dX12_count_193 : decode cX12_count 193 = .ok (.getfield 35, 3) := by decide +kernel
theorem dX12_count_196 : decode cX12_count 196 = .ok (.iconst 2, 1) := by decide +kernel
theorem dX12_count_197 : decode cX12_count 197 = .ok (.invokevirtual 130, 3) := by decide +kernel
theorem dX12_count_200 : decode cX12_count 200 = .ok (.ireturn, 1) := by decide +kernel
theorem dX12_count_201 : decode cX12_count 201 = .ok (.aload_n 0, 1) := by decide +kernel
theorem dX12_count_202 : decode cX12_count 202 = .ok (.getfield 35, 3) := by decide +kernel
theorem dX12_count_205 : decode cX12_count 205 = .ok (.iconst 3, 1) := by decide +kernel
theorem dX12_count_206 : decode cX12_count 206 = .ok (.invokevirtual 130, 3) := by decide +kernel
theorem dX12_count_209 : decode cX12_count 209 = .ok (.ireturn, 1) := by decide +kernel
theorem dX12_count_210 : decode cX12_count 210 = .ok (.iconst (-1), 1) := by decide +kernel
theorem dX12_count_211 : decode cX12_count 211 = .ok (.ireturn, 1) := by decide +kernel
theorem hd_X12_count : yX12_count.cls = RX12 ∧ yX12_count.cls ≠ "java/lang/invoke/MethodHandle" ∧ yX12_count.cls ≠ "java/lang/invoke/VarHandle" ∧ (parseMethodDescriptor yX12_count.desc).map (fun d => d.parameters.length) = some 1 := by decide +kernel
theorem hs_X12_count : yX12_count.cls ≠ "java/lang/invoke/MethodHandle" ∧ yX12_count.cls ≠ "java/lang/invoke/VarHandle" ∧ (parseMethodDescriptor yX12_count.desc).map (fun d => d.parameters.length) = some 1 := by decide +kernel
set_option maxHeartbeats 4000000 in
set_option maxRecDepth 100000 in
theorem k_X12_count (l : Launch) (E : Ev) (K : Kd) (z : Nat) (o : Nat) (a_1 : Int32) (w : Wd) (ho : K o = some (10, 0)) {r : Int32} {w' : Wd} (hf : f_X12_count K o a_1 w = some (r, w')) : Met l yX12_count (Cond.code yX12_count cX12_count 2 (Option.some Jvm.ClassFile.FieldType.int) :: bt) ({ frames := 2, cells := 0, slots := 0, locals := 44 } : Room) (va_Pc [rv E (some o), .int a_1] (HB E K w z)) (QI E K z w' r) 0 0 (hA E) := by
  refine Met.ofW (cc := cX12_count) (maxL := 2) (ret := (Option.some Jvm.ClassFile.FieldType.int)) (by decide) rfl ?_
  intro p e s m args below meth c s₁ B hml hv
  obtain ⟨rfl, hz, hP, hKs, hT, hb0⟩ := hv
  have C : CX p l e s m _ meth c cX12_count 2 RX12 (Option.some Jvm.ClassFile.FieldType.int) E := ⟨B.exec, B.bytes, hml, findClass_of_methodNamed B.named, fun w h => atoms_spec (ws := Cond.code yX12_count cX12_count 2 (Option.some Jvm.ClassFile.FieldType.int) :: bt) B.pre w (List.mem_cons_of_mem _ h), hKs, hT, by rw [hz]; exact hb0, B.notSynchronized, B.returns⟩
  have hH : HQ E K z w s s.heap [] := ⟨hP, va_S.rf, hz⟩
  obtain ⟨hx, hb, hml, hown, hts, hKs, hT, hb0, hlocks, hret⟩ := id C
  have hl := lv_entry [rv E (some o), .int a_1] (n := 2) (by simp [lg_len_nil, lg_len_i, lg_len_j, lg_len_q])
  rw [lg_entry_eq]
  generalize (lg_sl [rv E (some o), .int a_1] ++ List.replicate (2 - (lg_sl [rv E (some o), .int a_1]).length) Slot.unset).toArray = ls at hl ⊢
  replace hl : lv_has ls 2 [(0, rv E (some o)), (1, .int a_1)] := by simpa only [lv_args, cat_q, cat_i, cat_j, reduceIte, Nat.reduceEqDiff, Nat.reduceAdd, Nat.zero_add] using hl
  generalize s.heap = H at hH ⊢
  unfold f_X12_count at hf
  refine lv_iload_n hx hb dX12_count_0 rfl (lv_at hl 1 rfl) ?_
  by_cases c1 : (a_1 < 0 ∨ 13 < a_1)
  · replace hf := (if_pos c1).symm.trans hf
    refine hl_tabOut (tgt := 210) hx hb dX12_count_1 c1 (by decide) (by decide) (by decide) ?_
    refine lv_iconst (v := (-1)) hx hb dX12_count_210 (by decide) ?_
    exact hw_iret hx hb hret hf hH hlocks dX12_count_211
  replace hf := (if_neg c1).symm.trans hf
  by_cases c2 : a_1 = 0
  · replace hf := (if_pos c2).symm.trans hf
    refine hl_tabIn (tgt := 72) hx hb dX12_count_1 c2 (by decide) (by decide) rfl (by decide) ?_
    refine hl_aload_n hx hb dX12_count_72 rfl (lv_at hl 0 rfl) ?_
    refine g12_5 hx hb hts hown hKs hH rfl ho m2_224 dX12_count_73 ?_
    obtain ⟨a3, ha3, hf⟩ := bnd hf
    replace ha3 := chk_some ha3
    refine gn10_0 hx hb hts hown hKs hH ha3.1 ha3.2 m2_122 dX12_count_76 ?_
    refine lv_iconst (v := 0) hx hb dX12_count_79 (by decide) ?_
    obtain ⟨a4, ha4, hf⟩ := bnd hf
    replace ha4 := chk_some ha4
    obtain ⟨q5, hq5, hf⟩ := bnd hf
    refine hcV_i hx hb hml hown hts hKs hT hb0 hH (As := [.int 0]) (rest := []) (k_X9_size l E K H.size a4 0 w ha4.2 hq5) (gV m3_229 m3_151 m3_152 m1_2 m3_153) hd_X9_size ⟨Nat.le_of_ble_eq_true rfl, Nat.le_of_ble_eq_true rfl, rfl, rfl⟩ ha4.1 ha4.2 rfl rfl rfl hl.1 rfl rc0 rfl dX12_count_80 ⟨Nat.zero_le _, Nat.zero_le _⟩ (fun H locs hH => ?_)
    exact hw_iret hx hb hret hf hH hlocks dX12_count_83
  replace hf := (if_neg c2).symm.trans hf
  by_cases c6 : a_1 = 1
  · replace hf := (if_pos c6).symm.trans hf
    refine hl_tabIn (tgt := 84) hx hb dX12_count_1 c6 (by decide) (by decide) rfl (by decide) ?_
    refine hl_aload_n hx hb dX12_count_84 rfl (lv_at hl 0 rfl) ?_
    refine g12_5 hx hb hts hown hKs hH rfl ho m2_224 dX12_count_85 ?_
    obtain ⟨a7, ha7, hf⟩ := bnd hf
    replace ha7 := chk_some ha7
    refine gn10_0 hx hb hts hown hKs hH ha7.1 ha7.2 m2_122 dX12_count_88 ?_
    refine lv_iconst (v := 1) hx hb dX12_count_91 (by decide) ?_
    obtain ⟨a8, ha8, hf⟩ := bnd hf
    replace ha8 := chk_some ha8
    obtain ⟨q9, hq9, hf⟩ := bnd hf
    refine hcV_i hx hb hml hown hts hKs hT hb0 hH (As := [.int 1]) (rest := []) (k_X9_size l E K H.size a8 1 w ha8.2 hq9) (gV m3_229 m3_151 m3_152 m1_2 m3_153) hd_X9_size ⟨Nat.le_of_ble_eq_true rfl, Nat.le_of_ble_eq_true rfl, rfl, rfl⟩ ha8.1 ha8.2 rfl rfl rfl hl.1 rfl rc0 rfl dX12_count_92 ⟨Nat.zero_le _, Nat.zero_le _⟩ (fun H locs hH => ?_)
    exact hw_iret hx hb hret hf hH hlocks dX12_count_95
  replace hf := (if_neg c6).symm.trans hf
  by_cases c10 : a_1 = 2
  · replace hf := (if_pos c10).symm.trans hf
    refine hl_tabIn (tgt := 96) hx hb dX12_count_1 c10 (by decide) (by decide) rfl (by decide) ?_
    refine hl_aload_n hx hb dX12_count_96 rfl (lv_at hl 0 rfl) ?_
    refine g12_5 hx hb hts hown hKs hH rfl ho m2_224 dX12_count_97 ?_
    obtain ⟨a11, ha11, hf⟩ := bnd hf
    replace ha11 := chk_some ha11
    refine gn10_0 hx hb hts hown hKs hH ha11.1 ha11.2 m2_122 dX12_count_100 ?_
    refine lv_iconst (v := 2) hx hb dX12_count_103 (by decide) ?_
    obtain ⟨a12, ha12, hf⟩ := bnd hf
    replace ha12 := chk_some ha12
    obtain ⟨q13, hq13, hf⟩ := bnd hf
    refine hcV_i hx hb hml hown hts hKs hT hb0 hH (As := [.int 2]) (rest := []) (k_X9_size l E K H.size a12 2 w ha12.2 hq13) (gV m3_229 m3_151 m3_152 m1_2 m3_153) hd_X9_size ⟨Nat.le_of_ble_eq_true rfl, Nat.le_of_ble_eq_true rfl, rfl, rfl⟩ ha12.1 ha12.2 rfl rfl rfl hl.1 rfl rc0 rfl dX12_count_104 ⟨Nat.zero_le _, Nat.zero_le _⟩ (fun H locs hH => ?_)
    exact hw_iret hx hb hret hf hH hlocks dX12_count_107
  replace hf := (if_neg c10).symm.trans hf
  by_cases c14 : a_1 = 3
  · replace hf := (if_pos c14).symm.trans hf
    refine hl_tabIn (tgt := 108) hx hb dX12_count_1 c14 (by decide) (by decide) rfl (by decide) ?_
    refine hl_aload_n hx hb dX12_count_108 rfl (lv_at hl 0 rfl) ?_
    refine g12_5 hx hb hts hown hKs hH rfl ho m2_224 dX12_count_109 ?_
    obtain ⟨a15, ha15, hf⟩ := bnd hf
    replace ha15 := chk_some ha15
    refine gn10_0 hx hb hts hown hKs hH ha15.1 ha15.2 m2_122 dX12_count_112 ?_
    refine lv_iconst (v := 3) hx hb dX12_count_115 (by decide) ?_
    obtain ⟨a16, ha16, hf⟩ := bnd hf
    replace ha16 := chk_some ha16
    obtain ⟨q17, hq17, hf⟩ := bnd hf
    refine hcV_i hx hb hml hown hts hKs hT hb0 hH (As := [.int 3]) (rest := []) (k_X9_size l E K H.size a16 3 w ha16.2 hq17) (gV m3_229 m3_151 m3_152 m1_2 m3_153) hd_X9_size ⟨Nat.le_of_ble_eq_true rfl, Nat.le_of_ble_eq_true rfl, rfl, rfl⟩ ha16.1 ha16.2 rfl rfl rfl hl.1 rfl rc0 rfl dX12_count_116 ⟨Nat.zero_le _, Nat.zero_le _⟩ (fun H locs hH => ?_)
    exact hw_iret hx hb hret hf hH hlocks dX12_count_119
  replace hf := (if_neg c14).symm.trans hf
  by_cases c18 : a_1 = 4
  · replace hf := (if_pos c18).symm.trans hf
    refine hl_tabIn (tgt := 120) hx hb dX12_count_1 c18 (by decide) (by decide) rfl (by decide) ?_
    refine hl_aload_n hx hb dX12_count_120 rfl (lv_at hl 0 rfl) ?_
    refine g12_5 hx hb hts hown hKs hH rfl ho m2_224 dX12_count_121 ?_
    obtain ⟨a19, ha19, hf⟩ := bnd hf
    replace ha19 := chk_some ha19
    refine gn10_2 hx hb hts hown hKs hH ha19.1 ha19.2 m2_127 dX12_count_124 ?_
    obtain ⟨a20, ha20, hf⟩ := bnd hf
    replace ha20 := chk_some ha20
    refine gn2_1 hx hb hts hown hKs hH ha20.1 ha20.2 m1_58 dX12_count_127 ?_
    exact hw_iret hx hb hret hf hH hlocks dX12_count_130
  replace hf := (if_neg c18).symm.trans hf
  by_cases c21 : a_1 = 5
  · replace hf := (if_pos c21).symm.trans hf
    refine hl_tabIn (tgt := 131) hx hb dX12_count_1 c21 (by decide) (by decide) rfl (by decide) ?_
    refine hl_aload_n hx hb dX12_count_131 rfl (lv_at hl 0 rfl) ?_
    refine g12_5 hx hb hts hown hKs hH rfl ho m2_224 dX12_count_132 ?_
    obtain ⟨a22, ha22, hf⟩ := bnd hf
    replace ha22 := chk_some ha22
    obtain ⟨q23, hq23, hf⟩ := bnd hf
    refine hcV_i hx hb hml hown hts hKs hT hb0 hH (As := []) (rest := []) (k_X10_countBars l E K H.size a22 w ha22.2 hq23) (gV m4_2 m4_3 m4_4 m1_12 m4_5) hd_X10_countBars ⟨Nat.le_of_ble_eq_true rfl, Nat.le_of_ble_eq_true rfl, rfl, rfl⟩ ha22.1 ha22.2 rfl rfl rfl hl.1 rfl rc0 rfl dX12_count_135 ⟨Nat.zero_le _, Nat.zero_le _⟩ (fun H locs hH => ?_)
    exact hw_iret hx hb hret hf hH hlocks dX12_count_138
  replace hf := (if_neg c21).symm.trans hf
  by_cases c24 : a_1 = 6
  · replace hf := (if_pos c24).symm.trans hf
    refine hl_tabIn (tgt := 139) hx hb dX12_count_1 c24 (by decide) (by decide) rfl (by decide) ?_
    refine hl_aload_n hx hb dX12_count_139 rfl (lv_at hl 0 rfl) ?_
    refine g12_5 hx hb hts hown hKs hH rfl ho m2_224 dX12_count_140 ?_
    obtain ⟨a25, ha25, hf⟩ := bnd hf
    replace ha25 := chk_some ha25
    refine gn10_0 hx hb hts hown hKs hH ha25.1 ha25.2 m2_122 dX12_count_143 ?_
    obtain ⟨a26, ha26, hf⟩ := bnd hf
    replace ha26 := chk_some ha26
    obtain ⟨q27, hq27, hf⟩ := bnd hf
    refine hcV_i hx hb hml hown hts hKs hT hb0 hH (As := []) (rest := []) (k_X9_countConflicts l E K H.size a26 w ha26.2 hq27) (gV m4_13 m4_14 m4_15 m1_2 m4_16) hd_X9_countConflicts ⟨Nat.le_of_ble_eq_true rfl, Nat.le_of_ble_eq_true rfl, rfl, rfl⟩ ha26.1 ha26.2 rfl rfl rfl hl.1 rfl rc0 rfl dX12_count_146 ⟨Nat.zero_le _, Nat.zero_le _⟩ (fun H locs hH => ?_)
    exact hw_iret hx hb hret hf hH hlocks dX12_count_149
  replace hf := (if_neg c24).symm.trans hf
  by_cases c28 : a_1 = 7
  · replace hf := (if_pos c28).symm.trans hf
    refine hl_tabIn (tgt := 150) hx hb dX12_count_1 c28 (by decide) (by decide) rfl (by decide) ?_
    refine hl_aload_n hx hb dX12_count_150 rfl (lv_at hl 0 rfl) ?_
    refine g12_5 hx hb hts hown hKs hH rfl ho m2_224 dX12_count_151 ?_
    obtain ⟨a29, ha29, hf⟩ := bnd hf
    replace ha29 := chk_some ha29
    refine gn10_1 hx hb hts hown hKs hH ha29.1 ha29.2 m2_125 dX12_count_154 ?_
    exact hw_iret hx hb hret hf hH hlocks dX12_count_157
  replace hf := (if_neg c28).symm.trans hf
  by_cases c30 : a_1 = 8
  · replace hf := (if_pos c30).symm.trans hf
    refine hl_tabIn (tgt := 158) hx hb dX12_count_1 c30 (by decide) (by decide) rfl (by decide) ?_
    refine hl_aload_n hx hb dX12_count_158 rfl (lv_at hl 0 rfl) ?_
    refine g12_5 hx hb hts hown hKs hH rfl ho m2_224 dX12_count_159 ?_
    obtain ⟨a31, ha31, hf⟩ := bnd hf
    replace ha31 := chk_some ha31
    refine gn10_0 hx hb hts hown hKs hH ha31.1 ha31.2 m2_122 dX12_count_162 ?_
    obtain ⟨a32, ha32, hf⟩ := bnd hf
    replace ha32 := chk_some ha32
    refine gn9_13 hx hb hts hown hKs hH ha32.1 ha32.2 m1_191 dX12_count_165 ?_
    exact hw_iret hx hb hret hf hH hlocks dX12_count_168
  replace hf := (if_neg c30).symm.trans hf
  by_cases c33 : a_1 = 9
  · replace hf := (if_pos c33).symm.trans hf
    refine hl_tabIn (tgt := 169) hx hb dX12_count_1 c33 (by decide) (by decide) rfl (by decide) ?_
    refine hl_aload_n hx hb dX12_count_169 rfl (lv_at hl 0 rfl) ?_
    refine g12_10 hx hb hts hown hKs hH rfl ho m2_229 dX12_count_170 ?_
    exact hw_iret hx hb hret hf hH hlocks dX12_count_173
  replace hf := (if_neg c33).symm.trans hf
  by_cases c34 : a_1 = 10
  · replace hf := (if_pos c34).symm.trans hf
    refine hl_tabIn (tgt := 174) hx hb dX12_count_1 c34 (by decide) (by decide) rfl (by decide) ?_
    refine hl_aload_n hx hb dX12_count_174 rfl (lv_at hl 0 rfl) ?_
    refine g12_5 hx hb hts hown hKs hH rfl ho m2_224 dX12_count_175 ?_
    refine lv_iconst (v := 0) hx hb dX12_count_178 (by decide) ?_
    obtain ⟨a35, ha35, hf⟩ := bnd hf
    replace ha35 := chk_some ha35
    obtain ⟨q36, hq36, hf⟩ := bnd hf
    refine hcV_i hx hb hml hown hts hKs hT hb0 hH (As := [.int 0]) (rest := []) (k_X10_countPhase l E K H.size a35 0 w ha35.2 hq36) (gV m4_19 m4_20 m4_21 m1_12 m4_22) hd_X10_countPhase ⟨Nat.le_of_ble_eq_true rfl, Nat.le_of_ble_eq_true rfl, rfl, rfl⟩ ha35.1 ha35.2 rfl rfl rfl hl.1 rfl rc0 rfl dX12_count_179 ⟨Nat.zero_le _, Nat.zero_le _⟩ (fun H locs hH => ?_)
    exact hw_iret hx hb hret hf hH hlocks dX12_count_182
  replace hf := (if_neg c34).symm.trans hf
  by_cases c37 : a_1 = 11
  · replace hf := (if_pos c37).symm.trans hf
    refine hl_tabIn (tgt := 183) hx hb dX12_count_1 c37 (by decide) (by decide) rfl (by decide) ?_
    refine hl_aload_n hx hb dX12_count_183 rfl (lv_at hl 0 rfl) ?_
    refine g12_5 hx hb hts hown hKs hH rfl ho m2_224 dX12_count_184 ?_
    refine lv_iconst (v := 1) hx hb dX12_count_187 (by decide) ?_
    obtain ⟨a38, ha38, hf⟩ := bnd hf
    replace ha38 := chk_some ha38
    obtain ⟨q39, hq39, hf⟩ := bnd hf
    refine hcV_i hx hb hml hown hts hKs hT hb0 hH (As := [.int 1]) (rest := []) (k_X10_countPhase l E K H.size a38 1 w ha38.2 hq39) (gV m4_19 m4_20 m4_21 m1_12 m4_22) hd_X10_countPhase ⟨Nat.le_of_ble_eq_true rfl, Nat.le_of_ble_eq_true rfl, rfl, rfl⟩ ha38.1 ha38.2 rfl rfl rfl hl.1 rfl rc0 rfl dX12_count_188 ⟨Nat.zero_le _, Nat.zero_le _⟩ (fun H locs hH => ?_)
    exact hw_iret hx hb hret hf hH hlocks dX12_count_191
  replace hf := (if_neg c37).symm.trans hf
  by_cases c40 : a_1 = 12
  · replace hf := (if_pos c40).symm.trans hf
    refine hl_tabIn (tgt := 192) hx hb dX12_count_1 c40 (by decide) (by decide) rfl (by decide) ?_
    refine hl_aload_n hx hb dX12_count_192 rfl (lv_at hl 0 rfl) ?_
    refine g12_5 hx hb hts hown hKs hH rfl ho m2_224 dX12_count_193 ?_
    refine lv_iconst (v := 2) hx hb dX12_count_196 (by decide) ?_
    obtain ⟨a41, ha41, hf⟩ := bnd hf
    replace ha41 := chk_some ha41
    obtain ⟨q42, hq42, hf⟩ := bnd hf
    refine hcV_i hx hb hml hown hts hKs hT hb0 hH (As := [.int 2]) (rest := []) (k_X10_countPhase l E K H.size a41 2 w ha41.2 hq42) (gV m4_19 m4_20 m4_21 m1_12 m4_22) hd_X10_countPhase ⟨Nat.le_of_ble_eq_true rfl, Nat.le_of_ble_eq_true rfl, rfl, rfl⟩ ha41.1 ha41.2 rfl rfl rfl hl.1 rfl rc0 rfl dX12_count_197 ⟨Nat.zero_le _, Nat.zero_le _⟩ (fun H locs hH => ?_)
    exact hw_iret hx hb hret hf hH hlocks dX12_count_200
  replace hf := (if_neg c40).symm.trans hf
  by_cases c43 : a_1 = 13
  · replace hf := (if_pos c43).symm.trans hf
    refine hl_tabIn (tgt := 201) hx hb dX12_count_1 c43 (by decide) (by decide) rfl (by decide) ?_
    refine hl_aload_n hx hb dX12_count_201 rfl (lv_at hl 0 rfl) ?_
    refine g12_5 hx hb hts hown hKs hH rfl ho m2_224 dX12_count_202 ?_
    refine lv_iconst (v := 3) hx hb dX12_count_205 (by decide) ?_
    obtain ⟨a44, ha44, hf⟩ := bnd hf
    replace ha44 := chk_some ha44
    obtain ⟨q45, hq45, hf⟩ := bnd hf
    refine hcV_i hx hb hml hown hts hKs hT hb0 hH (As := [.int 3]) (rest := []) (k_X10_countPhase l E K H.size a44 3 w ha44.2 hq45) (gV m4_19 m4_20 m4_21 m1_12 m4_22) hd_X10_countPhase ⟨Nat.le_of_ble_eq_true rfl, Nat.le_of_ble_eq_true rfl, rfl, rfl⟩ ha44.1 ha44.2 rfl rfl rfl hl.1 rfl rc0 rfl dX12_count_206 ⟨Nat.zero_le _, Nat.zero_le _⟩ (fun H locs hH => ?_)
    exact hw_iret hx hb hret hf hH hlocks dX12_count_209
  replace hf := (if_neg c43).symm.trans hf
  cases hf

theorem dX12_find_0 : decode cX12_find 0 = .ok (.iload_n 1, 1) := by decide +kernel
theorem dX12_find_1 : decode cX12_find 1 = .ok (.ifCond .lt 8, 3) := by decide +kernel
theorem dX12_find_4 : decode cX12_find 4 = .ok (.iload_n 1, 1) := by decide +kernel
theorem dX12_find_5 : decode cX12_find 5 = .ok (.iconst 4, 1) := by decide +kernel
theorem dX12_find_6 : decode cX12_find 6 = .ok (.if_icmp .lt 11, 3) := by decide +kernel
theorem dX12_find_9 : decode cX12_find 9 = .ok (.new 133, 3) := by decide +kernel
theorem dX12_find_12 : decode cX12_find 12 = .ok (.dup, 1) := by decide +kernel
theorem dX12_find_13 : decode cX12_find 13 = .ok (.invokespecial 135, 3) := by decide +kernel
theorem dX12_find_16 : decode cX12_find 16 = .ok (.athrow, 1) := by decide +kernel
theorem dX12_find_17 : decode cX12_find 17 = .ok (.aload_n 0, 1) := by decide +kernel
theorem dX12_find_18 : decode cX12_find 18 = .ok (.invokevirtual 136, 3) := by decide +kernel
theorem dX12_find_21 : decode cX12_find 21 = .ok (.lstore_n 2, 1) := by decide +kernel
theorem dX12_find_22 : decode cX12_find 22 = .ok (.aload_n 0, 1) := by decide +kernel
theorem dX12_find_23 : decode cX12_find 23 = .ok (.iconst 0, 1) := by decide +kernel
theorem dX12_find_24 : decode cX12_find 24 = .ok (.putfield 70, 3) := by decide +kernel
theorem dX12_find_27 : decode cX12_find 27 = .ok (.lload_n 2, 1) := by decide +kernel
theorem dX12_find_28 : decode cX12_find 28 = .ok (.lconst 0, 1) := by decide +kernel
theorem dX12_find_29 : decode cX12_find 29 = .ok (.lcmp, 1) := by decide +kernel
theorem dX12_find_30 : decode cX12_find 30 = .ok (.ifCond .ne 7, 3) := by decide +kernel
theorem dX12_find_33 : decode cX12_find 33 = .ok (.iconst (-1), 1) := by decide +kernel
theorem dX12_find_34 : decode cX12_find 34 = .ok (.goto 19, 3) := by decide +kernel
theorem dX12_find_37 : decode cX12_find 37 = .ok (.aload_n 0, 1) := by decide +kernel
theorem dX12_find_38 : decode cX12_find 38 = .ok (.getfield 35, 3) := by decide +kernel
theorem dX12_find_41 : decode cX12_find 41 = .ok (.getfield 87, 3) := by decide +kernel
theorem dX12_find_44 : decode cX12_find 44 = .ok (.getfield 140, 3) := by decide +kernel
theorem dX12_find_47 : decode cX12_find 47 = .ok (.iload_n 1, 1) := by decide +kernel
theorem dX12_find_48 : decode cX12_find 48 = .ok (.aaload, 1) := by decide +kernel
theorem dX12_find_49 : decode cX12_find 49 = .ok (.lload_n 2, 1) := by decide +kernel
theorem dX12_find_50 : decode cX12_find 50 = .ok (.invokevirtual 144, 3) := by decide +kernel
theorem dX12_find_53 : decode cX12_find 53 = .ok (.ireturn, 1) := by decide +kernel
theorem hd_X12_find : yX12_find.cls = RX12 ∧ yX12_find.cls ≠ "java/lang/invoke/MethodHandle" ∧ yX12_find.cls ≠ "java/lang/invoke/VarHandle" ∧ (parseMethodDescriptor yX12_find.desc).map (fun d => d.parameters.length) = some 1 := by decide +kernel
theorem hs_X12_find : yX12_find.cls ≠ "java/lang/invoke/MethodHandle" ∧ yX12_find.cls ≠ "java/lang/invoke/VarHandle" ∧ (parseMethodDescriptor yX12_find.desc).map (fun d => d.parameters.length) = some 1 := by decide +kernel
set_option maxHeartbeats 4000000 in
set_option maxRecDepth 100000 in
theorem k_X12_find (l : Launch) (hls : l.stackTraces = false) (E : Ev) (K : Kd) (z : Nat) (o : Nat) (a_1 : Int32) (w : Wd) (ho : K o = some (10, 0)) {r : Int32 ⊕ Nat} {w' : Wd} (hf : f_X12_find K o a_1 w = some (r, w')) : vx_Met l yX12_find (Cond.code yX12_find cX12_find 4 (Option.some Jvm.ClassFile.FieldType.int) :: bt) ({ frames := 6, cells := 1, slots := 6, locals := 90 } : Room) (va_Pc [rv E (some o), .int a_1] (HB E K w z)) (XI E K z w' r) (XX E K w' r) 1 6 (hA E) := by
  refine vx_ofW (cc := cX12_find) (maxL := 4) (ret := (Option.some Jvm.ClassFile.FieldType.int)) (by decide) rfl ?_
  intro p e s m args below meth c s₁ B hml hout hv
  obtain ⟨rfl, hz, hP, hKs, hT, hb0⟩ := hv
  have C : CX p l e s m _ meth c cX12_find 4 RX12 (Option.some Jvm.ClassFile.FieldType.int) E := ⟨B.exec, B.bytes, hml, findClass_of_methodNamed B.named, fun w h => atoms_spec (ws := Cond.code yX12_find cX12_find 4 (Option.some Jvm.ClassFile.FieldType.int) :: bt) B.pre w (List.mem_cons_of_mem _ h), hKs, hT, by rw [hz]; exact hb0, B.notSynchronized, B.returns⟩
  have hH : HQ E K z w s s.heap [] := ⟨hP, va_S.rf, hz⟩
  obtain ⟨hx, hb, hml, hown, hts, hKs, hT, hb0, hlocks, hret⟩ := id C
  have hl := lv_entry [rv E (some o), .int a_1] (n := 4) (by simp [lg_len_nil, lg_len_i, lg_len_j, lg_len_q])
  rw [lg_entry_eq]
  generalize (lg_sl [rv E (some o), .int a_1] ++ List.replicate (4 - (lg_sl [rv E (some o), .int a_1]).length) Slot.unset).toArray = ls at hl ⊢
  replace hl : lv_has ls 4 [(0, rv E (some o)), (1, .int a_1)] := by simpa only [lv_args, cat_q, cat_i, cat_j, reduceIte, Nat.reduceEqDiff, Nat.reduceAdd, Nat.zero_add] using hl
  generalize s.heap = H at hH ⊢
  unfold f_X12_find at hf
  refine lv_iload_n hx hb dX12_find_0 rfl (lv_at hl 1 rfl) ?_
  refine lv_if_lt (tgt := 9) hx hb dX12_find_1 (by decide) (fun c1 => ?_) (fun c1 => ?_)
  · replace hf := (if_pos c1).symm.trans hf
    exact hx_throw hx hb hls (code := 2) hml hl.1 hown hts hKs hT hb0 hH (by decide) rfl m4_218 m1_27 hat_RX12_135 dX12_find_9 dX12_find_12 dX12_find_13 dX12_find_16 hout (Nat.le_of_ble_eq_true rfl) rc0 (Nat.le_of_ble_eq_true rfl) (Nat.le_of_ble_eq_true rfl) (Nat.le_of_ble_eq_true rfl) hlocks hf (Nat.le_of_ble_eq_true rfl) (Nat.le_of_ble_eq_true rfl)
  · replace hf := (if_neg c1).symm.trans hf
    refine lv_iload_n hx hb dX12_find_4 rfl (lv_at hl 1 rfl) ?_
    refine lv_iconst (v := 4) hx hb dX12_find_5 (by decide) ?_
    refine lv_icmp_lt (tgt := 17) hx hb dX12_find_6 (by decide) (fun c2 => ?_) (fun c2 => ?_)
    · replace hf := (if_pos c2).symm.trans hf
      refine hl_aload_n hx hb dX12_find_17 rfl (lv_at hl 0 rfl) ?_
      obtain ⟨q3, hq3, hf⟩ := bnd hf
      refine hcV_l hx hb hml hown hts hKs hT hb0 hH (As := []) (rest := []) (k_X12_bufferedName l E K H.size o w ho hq3) (gV m5_42 m5_44 ms_33 m1_1 m5_45) hd_X12_bufferedName ⟨Nat.le_of_ble_eq_true rfl, Nat.le_of_ble_eq_true rfl, rfl, rfl⟩ rfl ho rfl rfl rfl hl.1 rfl rc0 rfl dX12_find_18 ⟨Nat.le_of_ble_eq_true rfl, Nat.le_of_ble_eq_true rfl⟩ (fun H locs hH => ?_)
      refine lv_lstore_n (lv' := [(2, .long q3.1), (0, rv E (some o)), (1, .int a_1)]) hx hb dX12_find_21 rfl hl (by decide) rfl (fun ls hl => ?_)
      refine hl_aload_n hx hb dX12_find_22 rfl (lv_at hl 1 rfl) ?_
      refine lv_iconst (v := 0) hx hb dX12_find_23 (by decide) ?_
      obtain ⟨w4, hw4, hf⟩ := bnd hf
      replace hw4 := Option.some.inj hw4
      refine p12_1 (v := 0) hx hb hts hown hKs hH rfl ho m2_220 dX12_find_24 (fun H locs hH => ?_)
      rw [hw4] at hH
      refine lv_lload_n hx hb dX12_find_27 rfl (lv_at hl 0 rfl) ?_
      refine lv_lconst (v := 0) hx hb dX12_find_28 rfl ?_
      refine W.lcmp hx hb dX12_find_29 ?_
      refine lv_if_ne (tgt := 37) hx hb dX12_find_30 (by decide) (fun c5 => ?_) (fun c5 => ?_)
      · replace hf := (if_neg c5).symm.trans hf
        refine hl_aload_n hx hb dX12_find_37 rfl (lv_at hl 1 rfl) ?_
        refine g12_5 hx hb hts hown hKs hH rfl ho m2_224 dX12_find_38 ?_
        obtain ⟨a6, ha6, hf⟩ := bnd hf
        replace ha6 := chk_some ha6
        refine gn10_0 hx hb hts hown hKs hH ha6.1 ha6.2 m2_122 dX12_find_41 ?_
        obtain ⟨a7, ha7, hf⟩ := bnd hf
        replace ha7 := chk_some ha7
        refine gn9_0 hx hb hts hown hKs hH ha7.1 ha7.2 m1_151 dX12_find_44 ?_
        refine lv_iload_n hx hb dX12_find_47 rfl (lv_at hl 2 rfl) ?_
        obtain ⟨a8, ha8, hf⟩ := bnd hf
        replace ha8 := cha_some ha8
        obtain ⟨j9, hj9, hf⟩ := bnd hf
        refine hw_aald26 hx hb hKs hH ha8.1 ha8.2 hj9 dX12_find_48 ?_
        refine lv_lload_n hx hb dX12_find_49 rfl (lv_at hl 0 rfl) ?_
        obtain ⟨a10, ha10, hf⟩ := bnd hf
        replace ha10 := chk_some ha10
        obtain ⟨q11, hq11, hf⟩ := bnd hf
        refine hcV_i hx hb hml hown hts hKs hT hb0 hH (As := [.long q3.1]) (rest := []) (k_X4_indexOf l E K H.size a10 q3.1 w4 ha10.2 hq11) (gV m5_47 m3_129 m3_130 m1_4 m3_131) hd_X4_indexOf ⟨Nat.le_of_ble_eq_true rfl, Nat.le_of_ble_eq_true rfl, rfl, rfl⟩ ha10.1 ha10.2 rfl rfl rfl hl.1 rfl rc0 rfl dX12_find_50 ⟨Nat.le_of_ble_eq_true rfl, Nat.le_of_ble_eq_true rfl⟩ (fun H locs hH => ?_)
        exact hx_iret hx hb (Nat.le_of_ble_eq_true rfl) (Nat.le_of_ble_eq_true rfl) hret hf hH hlocks dX12_find_53
      · replace hf := (if_pos c5).symm.trans hf
        refine lv_iconst (v := (-1)) hx hb dX12_find_33 (by decide) ?_
        refine lv_goto (tgt := 53) hx hb dX12_find_34 (by decide) ?_
        exact hx_iret hx hb (Nat.le_of_ble_eq_true rfl) (Nat.le_of_ble_eq_true rfl) hret hf hH hlocks dX12_find_53
    · replace hf := (if_neg c2).symm.trans hf
      exact hx_throw hx hb hls (code := 2) hml hl.1 hown hts hKs hT hb0 hH (by decide) rfl m4_218 m1_27 hat_RX12_135 dX12_find_9 dX12_find_12 dX12_find_13 dX12_find_16 hout (Nat.le_of_ble_eq_true rfl) rc0 (Nat.le_of_ble_eq_true rfl) (Nat.le_of_ble_eq_true rfl) (Nat.le_of_ble_eq_true rfl) hlocks hf (Nat.le_of_ble_eq_true rfl) (Nat.le_of_ble_eq_true rfl)

theorem dX12_witness_0 : decode cX12_witness 0 = .ok (.aload_n 0, 1) := by decide +kernel
theorem dX12_witness_1 : decode cX12_witness 1 = .ok (.iconst 2, 1) := by decide +kernel
theorem dX12_witness_2 : decode cX12_witness 2 = .ok (.iload_n 1, 1) := by decide +kernel
theorem dX12_witness_3 : decode cX12_witness 3 = .ok (.invokevirtual 175, 3) := by decide +kernel
theorem dX12_witness_6 : decode cX12_witness 6 = .ok (.iload_n 2, 1) := by decide +kernel
theorem dX12_witness_7 : decode cX12_witness 7 = .ok (.tableswitch 91 0 4 #[33, 46, 56, 69, 82], 33) := by decide +kernel
theorem dX12_witness_40 : decode cX12_witness 40 = .ok (.aload_n 0, 1) := by decide +kernel
theorem dX12_witness_41 : decode cX12_witness 41 = .ok (.getfield 35, 3) := by decide +kernel
theorem dX12_witness_44 : decode cX12_witness 44 = .ok (.getfield 87, 3) := by decide +kernel
theorem dX12_witness_47 : decode cX12_witness 47 = .ok (.getfield 178, 3) := by decide +kernel
theorem dX12_witness_50 : decode cX12_witness 50 = .ok (.iload_n 1, 1) := by decide +kernel
theorem dX12_witness_51 : decode cX12_witness 51 = .ok (.iaload, 1) := by decide +kernel
theorem dX12_witness_52 : decode cX12_witness 52 = .ok (.ireturn, 1) := by decide +kernel
theorem dX12_witness_53 : decode cX12_witness 53 = .ok (.aload_n 0, 1) := by decide +kernel
theorem dX12_witness_54 : decode cX12_witness 54 = .ok (.getfield 35, 3) := by decide +kernel
theorem dX12_witness_57 : decode cX12_witness 57 = .ok (.getfield 181, 3) := by decide +kernel
theorem dX12_witness_60 : decode cX12_witness 60 = .ok (.iload_n 1, 1) := by decide +kernel
theorem dX12_witness_61 : decode cX12_witness 61 = .ok (.iaload, 1) := by decide +kernel
theorem dX12_witness_62 : decode cX12_witness 62 = .ok (.ireturn, 1) := by decide +kernel
theorem dX12_witness_63 : decode cX12_witness 63 = .ok (.aload_n 0, 1) := by decide +kernel
theorem dX12_witness_64 : decode cX12_witness 64 = .ok (.getfield 35, 3) := by decide +kernel
theorem dX12_witness_67 : decode cX12_witness 67 = .ok (.getfield 87, 3) := by decide +kernel
theorem dX12_witness_70 : decode cX12_witness 70 = .ok (.getfield 184, 3) := by decide +kernel
theorem dX12_witness_73 : decode cX12_witness 73 = .ok (.iload_n 1, 1) := by decide +kernel
theorem dX12_witness_74 : decode cX12_witness 74 = .ok (.iaload, 1) := by decide +kernel
theorem dX12_witness_75 : decode cX12_witness 75 = .ok (.ireturn, 1) := by decide +kernel
theorem dX12_witness_76 : decode cX12_witness 76 = .ok (.aload_n 0, 1) := by decide +kernel
theorem dX12_witness_77 : decode cX12_witness 77 = .ok (.getfield 35, 3) := by decide +kernel
theorem dX12_witness_80 : decode cX12_witness 80 = .ok (.getfield 87, 3) := by decide +kernel
theorem dX12_witness_83 : decode cX12_witness 83 = .ok (.getfield 187, 3) := by decide +kernel
theorem dX12_witness_86 : decode cX12_witness 86 = .ok (.iload_n 1, 1) := by decide +kernel
theorem dX12_witness_87 : decode cX12_witness 87 = .ok (.iaload, 1) := by decide +kernel
theorem dX12_witness_88 : decode cX12_witness 88 = .ok (.ireturn, 1) := by decide +kernel
theorem dX12_witness_89 : decode cX12_witness 89 = .ok (.aload_n 0, 1) := by decide +kernel
theorem dX12_witness_90 : decode cX12_witness 90 = .ok (.getfield 35, 3) := by decide +kernel
theorem dX12_witness_93 : decode cX12_witness 93 = .ok (.iload_n 1, 1) := by decide +kernel
theorem dX12_witness_94 : decode cX12_witness 94 = .ok (.invokevirtual 190, 3) := by decide +kernel
theorem dX12_witness_97 : decode cX12_witness 97 = .ok (.ireturn, 1) := by decide +kernel
theorem dX12_witness_98 : decode cX12_witness 98 = .ok (.new 193, 3) := by decide +kernel
theorem dX12_witness_101 : decode cX12_witness 101 = .ok (.dup, 1) := by decide +kernel
theorem dX12_witness_102 : decode cX12_witness 102 = .ok (.invokespecial 195, 3) := by decide +kernel
theorem dX12_witness_105 : decode cX12_witness 105 = .ok (.athrow, 1) := by decide +kernel
theorem hd_X12_witness : yX12_witness.cls = RX12 ∧ yX12_witness.cls ≠ "java/lang/invoke/MethodHandle" ∧ yX12_witness.cls ≠ "java/lang/invoke/VarHandle" ∧ (parseMethodDescriptor yX12_witness.desc).map (fun d => d.parameters.length) = some 2 := by decide +kernel
theorem hs_X12_witness : yX12_witness.cls ≠ "java/lang/invoke/MethodHandle" ∧ yX12_witness.cls ≠ "java/lang/invoke/VarHandle" ∧ (parseMethodDescriptor yX12_witness.desc).map (fun d => d.parameters.length) = some 2 := by decide +kernel
set_option maxHeartbeats 4000000 in
set_option maxRecDepth 100000 in
theorem k_X12_witness (l : Launch) (hls : l.stackTraces = false) (E : Ev) (K : Kd) (z : Nat) (o : Nat) (a_1 : Int32) (a_2 : Int32) (w : Wd) (ho : K o = some (10, 0)) {r : Int32 ⊕ Nat} {w' : Wd} (hf : f_X12_witness K o a_1 a_2 w = some (r, w')) : vx_Met l yX12_witness (Cond.code yX12_witness cX12_witness 3 (Option.some Jvm.ClassFile.FieldType.int) :: bt) ({ frames := 7, cells := 2, slots := 12, locals := 112 } : Room) (va_Pc [rv E (some o), .int a_1, .int a_2] (HB E K w z)) (XI E K z w' r) (XX E K w' r) 2 12 (hA E) := by
  refine vx_ofW (cc := cX12_witness) (maxL := 3) (ret := (Option.some Jvm.ClassFile.FieldType.int)) (by decide) rfl ?_
  intro p e s m args below meth c s₁ B hml hout hv
  obtain ⟨rfl, hz, hP, hKs, hT, hb0⟩ := hv
  have C : CX p l e s m _ meth c cX12_witness 3 RX12 (Option.some Jvm.ClassFile.FieldType.int) E := ⟨B.exec, B.bytes, hml, findClass_of_methodNamed B.named, fun w h => atoms_spec (ws := Cond.code yX12_witness cX12_witness 3 (Option.some Jvm.ClassFile.FieldType.int) :: bt) B.pre w (List.mem_cons_of_mem _ h), hKs, hT, by rw [hz]; exact hb0, B.notSynchronized, B.returns⟩
  have hH : HQ E K z w s s.heap [] := ⟨hP, va_S.rf, hz⟩
  obtain ⟨hx, hb, hml, hown, hts, hKs, hT, hb0, hlocks, hret⟩ := id C
  have hl := lv_entry [rv E (some o), .int a_1, .int a_2] (n := 3) (by simp [lg_len_nil, lg_len_i, lg_len_j, lg_len_q])
  rw [lg_entry_eq]
  generalize (lg_sl [rv E (some o), .int a_1, .int a_2] ++ List.replicate (3 - (lg_sl [rv E (some o), .int a_1, .int a_2]).length) Slot.unset).toArray = ls at hl ⊢
  replace hl : lv_has ls 3 [(0, rv E (some o)), (1, .int a_1), (2, .int a_2)] := by simpa only [lv_args, cat_q, cat_i, cat_j, reduceIte, Nat.reduceEqDiff, Nat.reduceAdd, Nat.zero_add] using hl
  generalize s.heap = H at hH ⊢
  unfold f_X12_witness at hf
  refine hl_aload_n hx hb dX12_witness_0 rfl (lv_at hl 0 rfl) ?_
  refine lv_iconst (v := 2) hx hb dX12_witness_1 (by decide) ?_
  refine lv_iload_n hx hb dX12_witness_2 rfl (lv_at hl 1 rfl) ?_
  obtain ⟨q1, hq1, hf⟩ := bnd hf
  refine hxV_v hx hb hml hown hts hKs hT hb0 hH (As := [.int 2, .int a_1]) (rest := []) (k_X12_requireExisting l hls E K H.size o 2 a_1 w ho hq1) (gV m5_91 m5_93 ms_37 m1_1 m5_94) hd_X12_requireExisting ⟨Nat.le_of_ble_eq_true rfl, Nat.le_of_ble_eq_true rfl, rfl, rfl⟩ rfl ho rfl rfl rfl hl.1 rfl rc0 rfl dX12_witness_3 ⟨Nat.le_of_ble_eq_true rfl, Nat.le_of_ble_eq_true rfl⟩ ⟨Nat.le_of_ble_eq_true rfl, Nat.le_of_ble_eq_true rfl⟩ hout hlocks (fun x hx9 => (fun h9 => ⟨(congrArg Prod.fst h9).symm, (congrArg Prod.snd h9).symm⟩) (Option.some.inj ((xk_inr hx9).symm.trans hf))) (fun v2 hv2 H locs hH => ?_)
  replace hf := (xk_inl hv2).symm.trans hf
  refine lv_iload_n hx hb dX12_witness_6 rfl (lv_at hl 2 rfl) ?_
  by_cases c3 : (a_2 < 0 ∨ 4 < a_2)
  · replace hf := (if_pos c3).symm.trans hf
    refine hl_tabOut (tgt := 98) hx hb dX12_witness_7 c3 (by decide) (by decide) (by decide) ?_
    exact hx_throw hx hb hls (code := 1) hml hl.1 hown hts hKs hT hb0 hH (by decide) rfl m5_95 m1_28 hat_RX12_195 dX12_witness_98 dX12_witness_101 dX12_witness_102 dX12_witness_105 hout (Nat.le_of_ble_eq_true rfl) rc0 (Nat.le_of_ble_eq_true rfl) (Nat.le_of_ble_eq_true rfl) (Nat.le_of_ble_eq_true rfl) hlocks hf (Nat.le_of_ble_eq_true rfl) (Nat.le_of_ble_eq_true rfl)
  replace hf := (if_neg c3).symm.trans hf
  by_cases c4 : a_2 = 0
  · replace hf := (if_pos c4).symm.trans hf
    refine hl_tabIn (tgt := 40) hx hb dX12_witness_7 c4 (by decide) (by decide) rfl (by decide) ?_
    refine hl_aload_n hx hb dX12_witness_40 rfl (lv_at hl 0 rfl) ?_
    refine g12_5 hx hb hts hown hKs hH rfl ho m2_224 dX12_witness_41 ?_
    obtain ⟨a5, ha5, hf⟩ := bnd hf
    replace ha5 := chk_some ha5
    refine gn10_0 hx hb hts hown hKs hH ha5.1 ha5.2 m2_122 dX12_witness_44 ?_
    obtain ⟨a6, ha6, hf⟩ := bnd hf
    replace ha6 := chk_some ha6
    refine gn9_5 hx hb hts hown hKs hH ha6.1 ha6.2 m1_162 dX12_witness_47 ?_
    refine lv_iload_n hx hb dX12_witness_50 rfl (lv_at hl 1 rfl) ?_
    obtain ⟨a7, ha7, hf⟩ := bnd hf
    replace ha7 := cha_some ha7
    obtain ⟨j8, hj8, hf⟩ := bnd hf
    refine hw_iald hx hb hKs hH ha7.1 ha7.2 hj8 dX12_witness_51 ?_
    exact hx_iret hx hb (Nat.le_of_ble_eq_true rfl) (Nat.le_of_ble_eq_true rfl) hret hf hH hlocks dX12_witness_52
  replace hf := (if_neg c4).symm.trans hf
  by_cases c9 : a_2 = 1
  · replace hf := (if_pos c9).symm.trans hf
    refine hl_tabIn (tgt := 53) hx hb dX12_witness_7 c9 (by decide) (by decide) rfl (by decide) ?_
    refine hl_aload_n hx hb dX12_witness_53 rfl (lv_at hl 0 rfl) ?_
    refine g12_5 hx hb hts hown hKs hH rfl ho m2_224 dX12_witness_54 ?_
    obtain ⟨a10, ha10, hf⟩ := bnd hf
    replace ha10 := chk_some ha10
    refine gn10_3 hx hb hts hown hKs hH ha10.1 ha10.2 m2_129 dX12_witness_57 ?_
    refine lv_iload_n hx hb dX12_witness_60 rfl (lv_at hl 1 rfl) ?_
    obtain ⟨a11, ha11, hf⟩ := bnd hf
    replace ha11 := cha_some ha11
    obtain ⟨j12, hj12, hf⟩ := bnd hf
    refine hw_iald hx hb hKs hH ha11.1 ha11.2 hj12 dX12_witness_61 ?_
    exact hx_iret hx hb (Nat.le_of_ble_eq_true rfl) (Nat.le_of_ble_eq_true rfl) hret hf hH hlocks dX12_witness_62
  replace hf := (if_neg c9).symm.trans hf
  by_cases c13 : a_2 = 2
  · replace hf := (if_pos c13).symm.trans hf
    refine hl_tabIn (tgt := 63) hx hb dX12_witness_7 c13 (by decide) (by decide) rfl (by decide) ?_
    refine hl_aload_n hx hb dX12_witness_63 rfl (lv_at hl 0 rfl) ?_
    refine g12_5 hx hb hts hown hKs hH rfl ho m2_224 dX12_witness_64 ?_
    obtain ⟨a14, ha14, hf⟩ := bnd hf
    replace ha14 := chk_some ha14
    refine gn10_0 hx hb hts hown hKs hH ha14.1 ha14.2 m2_122 dX12_witness_67 ?_
    obtain ⟨a15, ha15, hf⟩ := bnd hf
    replace ha15 := chk_some ha15
    refine gn9_7 hx hb hts hown hKs hH ha15.1 ha15.2 m1_169 dX12_witness_70 ?_
    refine lv_iload_n hx hb dX12_witness_73 rfl (lv_at hl 1 rfl) ?_
    obtain ⟨a16, ha16, hf⟩ := bnd hf
    replace ha16 := cha_some ha16
    obtain ⟨j17, hj17, hf⟩ := bnd hf
    refine hw_iald hx hb hKs hH ha16.1 ha16.2 hj17 dX12_witness_74 ?_
    exact hx_iret hx hb (Nat.le_of_ble_eq_true rfl) (Nat.le_of_ble_eq_true rfl) hret hf hH hlocks dX12_witness_75
  replace hf := (if_neg c13).symm.trans hf
  by_cases c18 : a_2 = 3
  · replace hf := (if_pos c18).symm.trans hf
    refine hl_tabIn (tgt := 76) hx hb dX12_witness_7 c18 (by decide) (by decide) rfl (by decide) ?_
    refine hl_aload_n hx hb dX12_witness_76 rfl (lv_at hl 0 rfl) ?_
    refine g12_5 hx hb hts hown hKs hH rfl ho m2_224 dX12_witness_77 ?_
    obtain ⟨a19, ha19, hf⟩ := bnd hf
    replace ha19 := chk_some ha19
    refine gn10_0 hx hb hts hown hKs hH ha19.1 ha19.2 m2_122 dX12_witness_80 ?_
    obtain ⟨a20, ha20, hf⟩ := bnd hf
    replace ha20 := chk_some ha20
    refine gn9_8 hx hb hts hown hKs hH ha20.1 ha20.2 m1_173 dX12_witness_83 ?_
    refine lv_iload_n hx hb dX12_witness_86 rfl (lv_at hl 1 rfl) ?_
    obtain ⟨a21, ha21, hf⟩ := bnd hf
    replace ha21 := cha_some ha21
    obtain ⟨j22, hj22, hf⟩ := bnd hf
    refine hw_iald hx hb hKs hH ha21.1 ha21.2 hj22 dX12_witness_87 ?_
    exact hx_iret hx hb (Nat.le_of_ble_eq_true rfl) (Nat.le_of_ble_eq_true rfl) hret hf hH hlocks dX12_witness_88
  replace hf := (if_neg c18).symm.trans hf
  by_cases c23 : a_2 = 4
  · replace hf := (if_pos c23).symm.trans hf
    refine hl_tabIn (tgt := 89) hx hb dX12_witness_7 c23 (by decide) (by decide) rfl (by decide) ?_
    refine hl_aload_n hx hb dX12_witness_89 rfl (lv_at hl 0 rfl) ?_
    refine g12_5 hx hb hts hown hKs hH rfl ho m2_224 dX12_witness_90 ?_
    refine lv_iload_n hx hb dX12_witness_93 rfl (lv_at hl 1 rfl) ?_
    obtain ⟨a24, ha24, hf⟩ := bnd hf
    replace ha24 := chk_some ha24
    obtain ⟨q25, hq25, hf⟩ := bnd hf
    refine hcV_i hx hb hml hown hts hKs hT hb0 hH (As := [.int a_1]) (rest := []) (k_X10_countNeeding l E K H.size a24 a_1 q1.2 ha24.2 hq25) (gV m5_110 m5_111 m5_112 m1_12 m5_113) hd_X10_countNeeding ⟨Nat.le_of_ble_eq_true rfl, Nat.le_of_ble_eq_true rfl, rfl, rfl⟩ ha24.1 ha24.2 rfl rfl rfl hl.1 rfl rc0 rfl dX12_witness_94 ⟨Nat.le_of_ble_eq_true rfl, Nat.le_of_ble_eq_true rfl⟩ (fun H locs hH => ?_)
    exact hx_iret hx hb (Nat.le_of_ble_eq_true rfl) (Nat.le_of_ble_eq_true rfl) hret hf hH hlocks dX12_witness_97
  replace hf := (if_neg c23).symm.trans hf
  cases hf

theorem dX12_isOff_0 : decode cX12_isOff 0 = .ok (.aload_n 0, 1) := by decide +kernel
theorem dX12_isOff_1 : decode cX12_isOff 1 = .ok (.iconst 1, 1) := by decide +kernel
theorem dX12_isOff_2 : decode cX12_isOff 2 = .ok (.iload_n 1, 1) := by decide +kernel
theorem dX12_isOff_3 : decode cX12_isOff 3 = .ok (.invokevirtual 175, 3) := by decide +kernel
theorem dX12_isOff_6 : decode cX12_isOff 6 = .ok (.aload_n 0, 1) := by decide +kernel
theorem dX12_isOff_7 : decode cX12_isOff 7 = .ok (.iload_n 2, 1) := by decide +kernel
theorem dX12_isOff_8 : decode cX12_isOff 8 = .ok (.invokevirtual 154, 3) := by decide +kernel
theorem dX12_isOff_11 : decode cX12_isOff 11 = .ok (.aload_n 0, 1) := by decide +kernel
theorem dX12_isOff_12 : decode cX12_isOff 12 = .ok (.getfield 35, 3) := by decide +kernel
theorem dX12_isOff_15 : decode cX12_isOff 15 = .ok (.getfield 87, 3) := by decide +kernel
theorem dX12_isOff_18 : decode cX12_isOff 18 = .ok (.iload_n 1, 1) := by decide +kernel
theorem dX12_isOff_19 : decode cX12_isOff 19 = .ok (.iload_n 2, 1) := by decide +kernel
theorem dX12_isOff_20 : decode cX12_isOff 20 = .ok (.invokevirtual 196, 3) := by decide +kernel
theorem dX12_isOff_23 : decode cX12_isOff 23 = .ok (.ireturn, 1) := by decide +kernel
theorem hd_X12_isOff : yX12_isOff.cls = RX12 ∧ yX12_isOff.cls ≠ "java/lang/invoke/MethodHandle" ∧ yX12_isOff.cls ≠ "java/lang/invoke/VarHandle" ∧ (parseMethodDescriptor yX12_isOff.desc).map (fun d => d.parameters.length) = some 2 := by decide +kernel
theorem hs_X12_isOff : yX12_isOff.cls ≠ "java/lang/invoke/MethodHandle" ∧ yX12_isOff.cls ≠ "java/lang/invoke/VarHandle" ∧ (parseMethodDescriptor yX12_isOff.desc).map (fun d => d.parameters.length) = some 2 := by decide +kernel
set_option maxHeartbeats 4000000 in
set_option maxRecDepth 100000 in
theorem k_X12_isOff (l : Launch) (hls : l.stackTraces = false) (E : Ev) (K : Kd) (z : Nat) (o : Nat) (a_1 : Int32) (a_2 : Int32) (w : Wd) (ho : K o = some (10, 0)) {r : Bool ⊕ Nat} {w' : Wd} (hf : f_X12_isOff K o a_1 a_2 w = some (r, w')) : vx_Met l yX12_isOff (Cond.code yX12_isOff cX12_isOff 3 (Option.some Jvm.ClassFile.FieldType.boolean) :: bt) ({ frames := 7, cells := 2, slots := 12, locals := 112 } : Room) (va_Pc [rv E (some o), .int a_1, .int a_2] (HB E K w z)) (XZ E K z w' r) (XX E K w' r) 2 12 (hA E) := by
  refine vx_ofW (cc := cX12_isOff) (maxL := 3) (ret := (Option.some Jvm.ClassFile.FieldType.boolean)) (by decide) rfl ?_
  intro p e s m args below meth c s₁ B hml hout hv
  obtain ⟨rfl, hz, hP, hKs, hT, hb0⟩ := hv
  have C : CX p l e s m _ meth c cX12_isOff 3 RX12 (Option.some Jvm.ClassFile.FieldType.boolean) E := ⟨B.exec, B.bytes, hml, findClass_of_methodNamed B.named, fun w h => atoms_spec (ws := Cond.code yX12_isOff cX12_isOff 3 (Option.some Jvm.ClassFile.FieldType.boolean) :: bt) B.pre w (List.mem_cons_of_mem _ h), hKs, hT, by rw [hz]; exact hb0, B.notSynchronized, B.returns⟩
  have hH : HQ E K z w s s.heap [] := ⟨hP, va_S.rf, hz⟩
  obtain ⟨hx, hb, hml, hown, hts, hKs, hT, hb0, hlocks, hret⟩ := id C
  have hl := lv_entry [rv E (some o), .int a_1, .int a_2] (n := 3) (by simp [lg_len_nil, lg_len_i, lg_len_j, lg_len_q])
  rw [lg_entry_eq]
  generalize (lg_sl [rv E (some o), .int a_1, .int a_2] ++ List.replicate (3 - (lg_sl [rv E (some o), .int a_1, .int a_2]).length) Slot.unset).toArray = ls at hl ⊢
  replace hl : lv_has ls 3 [(0, rv E (some o)), (1, .int a_1), (2, .int a_2)] := by simpa only [lv_args, cat_q, cat_i, cat_j, reduceIte, Nat.reduceEqDiff, Nat.reduceAdd, Nat.zero_add] using hl
  generalize s.heap = H at hH ⊢
  unfold f_X12_isOff at hf
  refine hl_aload_n hx hb dX12_isOff_0 rfl (lv_at hl 0 rfl) ?_
  refine lv_iconst (v := 1) hx hb dX12_isOff_1 (by decide) ?_
  refine lv_iload_n hx hb dX12_isOff_2 rfl (lv_at hl 1 rfl) ?_
  obtain ⟨q1, hq1, hf⟩ := bnd hf
  refine hxV_v hx hb hml hown hts hKs hT hb0 hH (As := [.int 1, .int a_1]) (rest := []) (k_X12_requireExisting l hls E K H.size o 1 a_1 w ho hq1) (gV m5_91 m5_93 ms_37 m1_1 m5_94) hd_X12_requireExisting ⟨Nat.le_of_ble_eq_true rfl, Nat.le_of_ble_eq_true rfl, rfl, rfl⟩ rfl ho rfl rfl rfl hl.1 rfl rc0 rfl dX12_isOff_3 ⟨Nat.le_of_ble_eq_true rfl, Nat.le_of_ble_eq_true rfl⟩ ⟨Nat.le_of_ble_eq_true rfl, Nat.le_of_ble_eq_true rfl⟩ hout hlocks (fun x hx9 => (fun h9 => ⟨(congrArg Prod.fst h9).symm, (congrArg Prod.snd h9).symm⟩) (Option.some.inj ((xk_inr hx9).symm.trans hf))) (fun v2 hv2 H locs hH => ?_)
  replace hf := (xk_inl hv2).symm.trans hf
  refine hl_aload_n hx hb dX12_isOff_6 rfl (lv_at hl 0 rfl) ?_
  refine lv_iload_n hx hb dX12_isOff_7 rfl (lv_at hl 2 rfl) ?_
  obtain ⟨q3, hq3, hf⟩ := bnd hf
  refine hxV_v hx hb hml hown hts hKs hT hb0 hH (As := [.int a_2]) (rest := []) (k_X12_requireDay l hls E K H.size o a_2 q1.2 ho hq3) (gV m5_55 m5_57 ms_34 m1_1 m5_58) hd_X12_requireDay ⟨Nat.le_of_ble_eq_true rfl, Nat.le_of_ble_eq_true rfl, rfl, rfl⟩ rfl ho rfl rfl rfl hl.1 rfl rc0 rfl dX12_isOff_8 ⟨Nat.le_of_ble_eq_true rfl, Nat.le_of_ble_eq_true rfl⟩ ⟨Nat.le_of_ble_eq_true rfl, Nat.le_of_ble_eq_true rfl⟩ hout hlocks (fun x hx9 => (fun h9 => ⟨(congrArg Prod.fst h9).symm, (congrArg Prod.snd h9).symm⟩) (Option.some.inj ((xk_inr hx9).symm.trans hf))) (fun v4 hv4 H locs hH => ?_)
  replace hf := (xk_inl hv4).symm.trans hf
  refine hl_aload_n hx hb dX12_isOff_11 rfl (lv_at hl 0 rfl) ?_
  refine g12_5 hx hb hts hown hKs hH rfl ho m2_224 dX12_isOff_12 ?_
  obtain ⟨a5, ha5, hf⟩ := bnd hf
  replace ha5 := chk_some ha5
  refine gn10_0 hx hb hts hown hKs hH ha5.1 ha5.2 m2_122 dX12_isOff_15 ?_
  refine lv_iload_n hx hb dX12_isOff_18 rfl (lv_at hl 1 rfl) ?_
  refine lv_iload_n hx hb dX12_isOff_19 rfl (lv_at hl 2 rfl) ?_
  obtain ⟨a6, ha6, hf⟩ := bnd hf
  replace ha6 := chk_some ha6
  obtain ⟨q7, hq7, hf⟩ := bnd hf
  refine hcV_i hx hb hml hown hts hKs hT hb0 hH (As := [.int a_1, .int a_2]) (rest := []) (k_X9_isAway l E K H.size a6 a_1 a_2 q3.2 ha6.2 hq7) (gV m5_121 m4_153 m4_154 m1_2 m4_155) hd_X9_isAway ⟨Nat.le_of_ble_eq_true rfl, Nat.le_of_ble_eq_true rfl, rfl, rfl⟩ ha6.1 ha6.2 rfl rfl rfl hl.1 rfl rc0 rfl dX12_isOff_20 ⟨Nat.le_of_ble_eq_true rfl, Nat.le_of_ble_eq_true rfl⟩ (fun H locs hH => ?_)
  exact hx_zret hx hb (Nat.le_of_ble_eq_true rfl) (Nat.le_of_ble_eq_true rfl) hret rfl hf hH hlocks dX12_isOff_23

theorem dX12_isBarred_0 : decode cX12_isBarred 0 = .ok (.aload_n 0, 1) := by decide +kernel
theorem dX12_isBarred_1 : decode cX12_isBarred 1 = .ok (.iconst 1, 1) := by decide +kernel
theorem dX12_isBarred_2 : decode cX12_isBarred 2 = .ok (.iload_n 1, 1) := by decide +kernel
theorem dX12_isBarred_3 : decode cX12_isBarred 3 = .ok (.invokevirtual 175, 3) := by decide +kernel
theorem dX12_isBarred_6 : decode cX12_isBarred 6 = .ok (.aload_n 0, 1) := by decide +kernel
theorem dX12_isBarred_7 : decode cX12_isBarred 7 = .ok (.iconst 3, 1) := by decide +kernel
theorem dX12_isBarred_8 : decode cX12_isBarred 8 = .ok (.iload_n 2, 1) := by decide +kernel
theorem dX12_isBarred_9 : decode cX12_isBarred 9 = .ok (.invokevirtual 175, 3) := by decide +kernel
theorem dX12_isBarred_12 : decode cX12_isBarred 12 = .ok (.aload_n 0, 1) := by decide +kernel
theorem dX12_isBarred_13 : decode cX12_isBarred 13 = .ok (.getfield 35, 3) := by decide +kernel
theorem dX12_isBarred_16 : decode cX12_isBarred 16 = .ok (.iload_n 2, 1) := by decide +kernel
theorem dX12_isBarred_17 : decode cX12_isBarred 17 = .ok (.invokevirtual 200, 3) := by decide +kernel
theorem dX12_isBarred_20 : decode cX12_isBarred 20 = .ok (.iload_n 1, 1) := by decide +kernel
theorem dX12_isBarred_21 : decode cX12_isBarred 21 = .ok (.invokestatic 203, 3) := by decide +kernel
theorem dX12_isBarred_24 : decode cX12_isBarred 24 = .ok (.ireturn, 1) := by decide +kernel
theorem hd_X12_isBarred : yX12_isBarred.cls = RX12 ∧ yX12_isBarred.cls ≠ "java/lang/invoke/MethodHandle" ∧ yX12_isBarred.cls ≠ "java/lang/invoke/VarHandle" ∧ (parseMethodDescriptor yX12_isBarred.desc).map (fun d => d.parameters.length) = some 2 := by decide +kernel
theorem hs_X12_isBarred : yX12_isBarred.cls ≠ "java/lang/invoke/MethodHandle" ∧ yX12_isBarred.cls ≠ "java/lang/invoke/VarHandle" ∧ (parseMethodDescriptor yX12_isBarred.desc).map (fun d => d.parameters.length) = some 2 := by decide +kernel
set_option maxHeartbeats 4000000 in
set_option maxRecDepth 100000 in
theorem k_X12_isBarred (l : Launch) (hls : l.stackTraces = false) (E : Ev) (K : Kd) (z : Nat) (o : Nat) (a_1 : Int32) (a_2 : Int32) (w : Wd) (ho : K o = some (10, 0)) {r : Bool ⊕ Nat} {w' : Wd} (hf : f_X12_isBarred K o a_1 a_2 w = some (r, w')) : vx_Met l yX12_isBarred (Cond.code yX12_isBarred cX12_isBarred 3 (Option.some Jvm.ClassFile.FieldType.boolean) :: bt) ({ frames := 7, cells := 2, slots := 12, locals := 112 } : Room) (va_Pc [rv E (some o), .int a_1, .int a_2] (HB E K w z)) (XZ E K z w' r) (XX E K w' r) 2 12 (hA E) := by
  refine vx_ofW (cc := cX12_isBarred) (maxL := 3) (ret := (Option.some Jvm.ClassFile.FieldType.boolean)) (by decide) rfl ?_
  intro p e s m args below meth c s₁ B hml hout hv
  obtain ⟨rfl, hz, hP, hKs, hT, hb0⟩ := hv
  have C : CX p l e s m _ meth c cX12_isBarred 3 RX12 (Option.some Jvm.ClassFile.FieldType.boolean) E := ⟨B.exec, B.bytes, hml, findClass_of_methodNamed B.named, fun w h => atoms_spec (ws := Cond.code yX12_isBarred cX12_isBarred 3 (Option.some Jvm.ClassFile.FieldType.boolean) :: bt) B.pre w (List.mem_cons_of_mem _ h), hKs, hT, by rw [hz]; exact hb0, B.notSynchronized, B.returns⟩
  have hH : HQ E K z w s s.heap [] := ⟨hP, va_S.rf, hz⟩
  obtain ⟨hx, hb, hml, hown, hts, hKs, hT, hb0, hlocks, hret⟩ := id C
  have hl := lv_entry [rv E (some o), .int a_1, .int a_2] (n := 3) (by simp [lg_len_nil, lg_len_i, lg_len_j, lg_len_q])
  rw [lg_entry_eq]
  generalize (lg_sl [rv E (some o), .int a_1, .int a_2] ++ List.replicate (3 - (lg_sl [rv E (some o), .int a_1, .int a_2]).length) Slot.unset).toArray = ls at hl ⊢
  replace hl : lv_has ls 3 [(0, rv E (some o)), (1, .int a_1), (2, .int a_2)] := by simpa only [lv_args, cat_q, cat_i, cat_j, reduceIte, Nat.reduceEqDiff, Nat.reduceAdd, Nat.zero_add] using hl
  generalize s.heap = H at hH ⊢
  unfold f_X12_isBarred at hf
  refine hl_aload_n hx hb dX12_isBarred_0 rfl (lv_at hl 0 rfl) ?_
  refine lv_iconst (v := 1) hx hb dX12_isBarred_1 (by decide) ?_
  refine lv_iload_n hx hb dX12_isBarred_2 rfl (lv_at hl 1 rfl) ?_
  obtain ⟨q1, hq1, hf⟩ := bnd hf
  refine hxV_v hx hb hml hown hts hKs hT hb0 hH (As := [.int 1, .int a_1]) (rest := []) (k_X12_requireExisting l hls E K H.size o 1 a_1 w ho hq1) (gV m5_91 m5_93 ms_37 m1_1 m5_94) hd_X12_requireExisting ⟨Nat.le_of_ble_eq_true rfl, Nat.le_of_ble_eq_true rfl, rfl, rfl⟩ rfl ho rfl rfl rfl hl.1 rfl rc0 rfl dX12_isBarred_3 ⟨Nat.le_of_ble_eq_true rfl, Nat.le_of_ble_eq_true rfl⟩ ⟨Nat.le_of_ble_eq_true rfl, Nat.le_of_ble_eq_true rfl⟩ hout hlocks (fun x hx9 => (fun h9 => ⟨(congrArg Prod.fst h9).symm, (congrArg Prod.snd h9).symm⟩) (Option.some.inj ((xk_inr hx9).symm.trans hf))) (fun v2 hv2 H locs hH => ?_)
  replace hf := (xk_inl hv2).symm.trans hf
  refine hl_aload_n hx hb dX12_isBarred_6 rfl (lv_at hl 0 rfl) ?_
  refine lv_iconst (v := 3) hx hb dX12_isBarred_7 (by decide) ?_
  refine lv_iload_n hx hb dX12_isBarred_8 rfl (lv_at hl 2 rfl) ?_
  obtain ⟨q3, hq3, hf⟩ := bnd hf
  refine hxV_v hx hb hml hown hts hKs hT hb0 hH (As := [.int 3, .int a_2]) (rest := []) (k_X12_requireExisting l hls E K H.size o 3 a_2 q1.2 ho hq3) (gV m5_91 m5_93 ms_37 m1_1 m5_94) hd_X12_requireExisting ⟨Nat.le_of_ble_eq_true rfl, Nat.le_of_ble_eq_true rfl, rfl, rfl⟩ rfl ho rfl rfl rfl hl.1 rfl rc0 rfl dX12_isBarred_9 ⟨Nat.le_of_ble_eq_true rfl, Nat.le_of_ble_eq_true rfl⟩ ⟨Nat.le_of_ble_eq_true rfl, Nat.le_of_ble_eq_true rfl⟩ hout hlocks (fun x hx9 => (fun h9 => ⟨(congrArg Prod.fst h9).symm, (congrArg Prod.snd h9).symm⟩) (Option.some.inj ((xk_inr hx9).symm.trans hf))) (fun v4 hv4 H locs hH => ?_)
  replace hf := (xk_inl hv4).symm.trans hf
  refine hl_aload_n hx hb dX12_isBarred_12 rfl (lv_at hl 0 rfl) ?_
  refine g12_5 hx hb hts hown hKs hH rfl ho m2_224 dX12_isBarred_13 ?_
  refine lv_iload_n hx hb dX12_isBarred_16 rfl (lv_at hl 2 rfl) ?_
  obtain ⟨a5, ha5, hf⟩ := bnd hf
  replace ha5 := chk_some ha5
  obtain ⟨q6, hq6, hf⟩ := bnd hf
  refine hcV_i hx hb hml hown hts hKs hT hb0 hH (As := [.int a_2]) (rest := []) (k_X10_barredOfficers l E K H.size a5 a_2 q3.2 ha5.2 hq6) (gV m5_129 m4_120 m4_121 m1_12 m4_122) hd_X10_barredOfficers ⟨Nat.le_of_ble_eq_true rfl, Nat.le_of_ble_eq_true rfl, rfl, rfl⟩ ha5.1 ha5.2 rfl rfl rfl hl.1 rfl rc0 rfl dX12_isBarred_17 ⟨Nat.le_of_ble_eq_true rfl, Nat.le_of_ble_eq_true rfl⟩ (fun H locs hH => ?_)
  refine lv_iload_n hx hb dX12_isBarred_20 rfl (lv_at hl 1 rfl) ?_
  obtain ⟨q7, hq7, hf⟩ := bnd hf
  refine hcS_i hx hb hml hown hts hKs hT hb0 hH (As := [.int (q6.1), .int a_1]) (rest := []) (k_X12_has l E K H.size q6.1 a_1 q6.2 hq7) (gS m5_130 m3_194 m1_1 m3_195) hs_X12_has ⟨Nat.le_of_ble_eq_true rfl, Nat.le_of_ble_eq_true rfl, rfl, rfl⟩ hl.1 rfl rc0 rfl dX12_isBarred_21 ⟨Nat.le_of_ble_eq_true rfl, Nat.le_of_ble_eq_true rfl⟩ (fun H locs hH => ?_)
  exact hx_zret hx hb (Nat.le_of_ble_eq_true rfl) (Nat.le_of_ble_eq_true rfl) hret rfl hf hH hlocks dX12_isBarred_24

theorem dX12_load_0 : decode cX12_load 0 = .ok (.aload_n 0, 1) := by decide +kernel
theorem dX12_load_1 : decode cX12_load 1 = .ok (.iconst 1, 1) := by decide +kernel
theorem dX12_load_2 : decode cX12_load 2 = .ok (.iload_n 1, 1) := by decide +kernel
theorem dX12_load_3 : decode cX12_load 3 = .ok (.invokevirtual 175, 3) := by decide +kernel
theorem dX12_load_6 : decode cX12_load 6 = .ok (.aload_n 0, 1) := by decide +kernel
theorem dX12_load_7 : decode cX12_load 7 = .ok (.getfield 35, 3) := by decide +kernel
theorem dX12_load_10 : decode cX12_load 10 = .ok (.iload_n 1, 1) := by decide +kernel
theorem dX12_load_11 : decode cX12_load 11 = .ok (.invokevirtual 206, 3) := by decide +kernel
theorem dX12_load_14 : decode cX12_load 14 = .ok (.ireturn, 1) := by decide +kernel
theorem hd_X12_load : yX12_load.cls = RX12 ∧ yX12_load.cls ≠ "java/lang/invoke/MethodHandle" ∧ yX12_load.cls ≠ "java/lang/invoke/VarHandle" ∧ (parseMethodDescriptor yX12_load.desc).map (fun d => d.parameters.length) = some 1 := by decide +kernel
theorem hs_X12_load : yX12_load.cls ≠ "java/lang/invoke/MethodHandle" ∧ yX12_load.cls ≠ "java/lang/invoke/VarHandle" ∧ (parseMethodDescriptor yX12_load.desc).map (fun d => d.parameters.length) = some 1 := by decide +kernel
set_option maxHeartbeats 4000000 in
set_option maxRecDepth 100000 in
theorem k_X12_load (l : Launch) (hls : l.stackTraces = false) (E : Ev) (K : Kd) (z : Nat) (o : Nat) (a_1 : Int32) (w : Wd) (ho : K o = some (10, 0)) {r : Int32 ⊕ Nat} {w' : Wd} (hf : f_X12_load K o a_1 w = some (r, w')) : vx_Met l yX12_load (Cond.code yX12_load cX12_load 2 (Option.some Jvm.ClassFile.FieldType.int) :: bt) ({ frames := 7, cells := 1, slots := 6, locals := 112 } : Room) (va_Pc [rv E (some o), .int a_1] (HB E K w z)) (XI E K z w' r) (XX E K w' r) 1 6 (hA E) := by
  refine vx_ofW (cc := cX12_load) (maxL := 2) (ret := (Option.some Jvm.ClassFile.FieldType.int)) (by decide) rfl ?_
  intro p e s m args below meth c s₁ B hml hout hv
  obtain ⟨rfl, hz, hP, hKs, hT, hb0⟩ := hv
  have C : CX p l e s m _ meth c cX12_load 2 RX12 (Option.some Jvm.ClassFile.FieldType.int) E := ⟨B.exec, B.bytes, hml, findClass_of_methodNamed B.named, fun w h => atoms_spec (ws := Cond.code yX12_load cX12_load 2 (Option.some Jvm.ClassFile.FieldType.int) :: bt) B.pre w (List.mem_cons_of_mem _ h), hKs, hT, by rw [hz]; exact hb0, B.notSynchronized, B.returns⟩
  have hH : HQ E K z w s s.heap [] := ⟨hP, va_S.rf, hz⟩
  obtain ⟨hx, hb, hml, hown, hts, hKs, hT, hb0, hlocks, hret⟩ := id C
  have hl := lv_entry [rv E (some o), .int a_1] (n := 2) (by simp [lg_len_nil, lg_len_i, lg_len_j, lg_len_q])
  rw [lg_entry_eq]
  generalize (lg_sl [rv E (some o), .int a_1] ++ List.replicate (2 - (lg_sl [rv E (some o), .int a_1]).length) Slot.unset).toArray = ls at hl ⊢
  replace hl : lv_has ls 2 [(0, rv E (some o)), (1, .int a_1)] := by simpa only [lv_args, cat_q, cat_i, cat_j, reduceIte, Nat.reduceEqDiff, Nat.reduceAdd, Nat.zero_add] using hl
  generalize s.heap = H at hH ⊢
  unfold f_X12_load at hf
  refine hl_aload_n hx hb dX12_load_0 rfl (lv_at hl 0 rfl) ?_
  refine lv_iconst (v := 1) hx hb dX12_load_1 (by decide) ?_
  refine lv_iload_n hx hb dX12_load_2 rfl (lv_at hl 1 rfl) ?_
  obtain ⟨q1, hq1, hf⟩ := bnd hf
  refine hxV_v hx hb hml hown hts hKs hT hb0 hH (As := [.int 1, .int a_1]) (rest := []) (k_X12_requireExisting l hls E K H.size o 1 a_1 w ho hq1) (gV m5_91 m5_93 ms_37 m1_1 m5_94) hd_X12_requireExisting ⟨Nat.le_of_ble_eq_true rfl, Nat.le_of_ble_eq_true rfl, rfl, rfl⟩ rfl ho rfl rfl rfl hl.1 rfl rc0 rfl dX12_load_3 ⟨Nat.le_of_ble_eq_true rfl, Nat.le_of_ble_eq_true rfl⟩ ⟨Nat.le_of_ble_eq_true rfl, Nat.le_of_ble_eq_true rfl⟩ hout hlocks (fun x hx9 => (fun h9 => ⟨(congrArg Prod.fst h9).symm, (congrArg Prod.snd h9).symm⟩) (Option.some.inj ((xk_inr hx9).symm.trans hf))) (fun v2 hv2 H locs hH => ?_)
  replace hf := (xk_inl hv2).symm.trans hf
  refine hl_aload_n hx hb dX12_load_6 rfl (lv_at hl 0 rfl) ?_
  refine g12_5 hx hb hts hown hKs hH rfl ho m2_224 dX12_load_7 ?_
  refine lv_iload_n hx hb dX12_load_10 rfl (lv_at hl 1 rfl) ?_
  obtain ⟨a3, ha3, hf⟩ := bnd hf
  replace ha3 := chk_some ha3
  obtain ⟨q4, hq4, hf⟩ := bnd hf
  refine hcV_i hx hb hml hown hts hKs hT hb0 hH (As := [.int a_1]) (rest := []) (k_X10_loadOf l E K H.size a3 a_1 q1.2 ha3.2 hq4) (gV m5_138 m4_126 m4_127 m1_12 m4_128) hd_X10_loadOf ⟨Nat.le_of_ble_eq_true rfl, Nat.le_of_ble_eq_true rfl, rfl, rfl⟩ ha3.1 ha3.2 rfl rfl rfl hl.1 rfl rc0 rfl dX12_load_11 ⟨Nat.le_of_ble_eq_true rfl, Nat.le_of_ble_eq_true rfl⟩ (fun H locs hH => ?_)
  exact hx_iret hx hb (Nat.le_of_ble_eq_true rfl) (Nat.le_of_ble_eq_true rfl) hret hf hH hlocks dX12_load_14

theorem dX12_matter_0 : decode cX12_matter 0 = .ok (.aload_n 0, 1) := by decide +kernel
theorem dX12_matter_1 : decode cX12_matter 1 = .ok (.iconst 3, 1) := by decide +kernel
theorem dX12_matter_2 : decode cX12_matter 2 = .ok (.iload_n 1, 1) := by decide +kernel
theorem dX12_matter_3 : decode cX12_matter 3 = .ok (.invokevirtual 175, 3) := by decide +kernel
theorem dX12_matter_6 : decode cX12_matter 6 = .ok (.aload_n 0, 1) := by decide +kernel
theorem dX12_matter_7 : decode cX12_matter 7 = .ok (.getfield 35, 3) := by decide +kernel
theorem dX12_matter_10 : decode cX12_matter 10 = .ok (.getfield 87, 3) := by decide +kernel
theorem dX12_matter_13 : decode cX12_matter 13 = .ok (.getfield 209, 3) := by decide +kernel
theorem dX12_matter_16 : decode cX12_matter 16 = .ok (.iload_n 1, 1) := by decide +kernel
theorem dX12_matter_17 : decode cX12_matter 17 = .ok (.aaload, 1) := by decide +kernel
theorem dX12_matter_18 : decode cX12_matter 18 = .ok (.astore_n 3, 1) := by decide +kernel
theorem dX12_matter_19 : decode cX12_matter 19 = .ok (.aload_n 0, 1) := by decide +kernel
theorem dX12_matter_20 : decode cX12_matter 20 = .ok (.getfield 35, 3) := by decide +kernel
theorem dX12_matter_23 : decode cX12_matter 23 = .ok (.getfield 213, 3) := by decide +kernel
theorem dX12_matter_26 : decode cX12_matter 26 = .ok (.iload_n 1, 1) := by decide +kernel
theorem dX12_matter_27 : decode cX12_matter 27 = .ok (.aaload, 1) := by decide +kernel
theorem dX12_matter_28 : decode cX12_matter 28 = .ok (.astore 4, 2) := by decide +kernel
theorem dX12_matter_30 : decode cX12_matter 30 = .ok (.iload_n 2, 1) := by decide +kernel
theorem dX12_matter_31 : decode cX12_matter 31 = .ok (.tableswitch 124 0 9 #[53, 58, 63, 68, 74, 83, 89, 102, 108, 116], 53) := by decide +kernel
theorem dX12_matter_84 : decode cX12_matter 84 = .ok (.aload_n 3, 1) := by decide +kernel
theorem dX12_matter_85 : decode cX12_matter 85 = .ok (.getfield 217, 3) := by decide +kernel
theorem dX12_matter_88 : decode cX12_matter 88 = .ok (.ireturn, 1) := by decide +kernel
theorem dX12_matter_89 : decode cX12_matter 89 = .ok (.aload_n 3, 1) := by decide +kernel
theorem dX12_matter_90 : decode cX12_matter 90 = .ok (.getfield 222, 3) := by decide +kernel
theorem dX12_matter_93 : decode cX12_matter 93 = .ok (.ireturn, 1) := by decide +kernel
theorem dX12_matter_94 : decode cX12_matter 94 = .ok (.aload_n 3, 1) := by decide +kernel
theorem dX12_matter_95 : decode cX12_matter 95 = .ok (.getfield 225, 3) := by decide +kernel
theorem dX12_matter_98 : decode cX12_matter 98 = .ok (.ireturn, 1) := by decide +kernel
theorem dX12_matter_99 : decode cX12_matter 99 = .ok (.aload 4, 2) := by decide +kernel
theorem dX12_matter_101 : decode cX12_matter 101 = .ok (.getfield 228, 3) := by decide +kernel
theorem dX12_matter_104 : decode cX12_matter 104 = .ok (.ireturn, 1) := by decide +kernel
theorem dX12_matter_105 : decode cX12_matter 105 = .ok (.aload_n 0, 1) := by decide +kernel
theorem dX12_matter_106 : decode cX12_matter 106 = .ok (.getfield 35, 3) := by decide +kernel
theorem dX12_matter_109 : decode cX12_matter 109 = .ok (.iload_n 1, 1) := by decide +kernel
theorem dX12_matter_110 : decode cX12_matter 110 = .ok (.invokevirtual 233, 3) := by decide +kernel
theorem dX12_matter_113 : decode cX12_matter 113 = .ok (.ireturn, 1) := by decide +kernel
theorem dX12_matter_114 : decode cX12_matter 114 = .ok (.aload 4, 2) := by decide +kernel
theorem dX12_matter_116 : decode cX12_matter 116 = .ok (.getfield 236, 3) := by decide +kernel
theorem dX12_matter_119 : decode cX12_matter 119 = .ok (.ireturn, 1) := by decide +kernel
theorem dX12_matter_120 : decode cX12_matter 120 = .ok (.aload_n 3, 1) := by decide +kernel
theorem dX12_matter_121 : decode cX12_matter 121 = .ok (.getfield 239, 3) := by decide +kernel
theorem dX12_matter_124 : decode cX12_matter 124 = .ok (.ifCond .eq 7, 3) := by decide +kernel
theorem dX12_matter_127 : decode cX12_matter 127 = .ok (.iconst 1, 1) := by decide +kernel
theorem dX12_matter_128 : decode cX12_matter 128 = .ok (.goto 4, 3) := by decide +kernel
theorem dX12_matter_131 : decode cX12_matter 131 = .ok (.iconst 0, 1) := by decide +kernel
theorem dX12_matter_132 : decode cX12_matter 132 = .ok (.ireturn, 1) := by decide +kernel
theorem dX12_matter_133 : decode cX12_matter 133 = .ok (.aload 4, 2) := by decide +kernel
theorem dX12_matter_135 : decode cX12_matter 135 = .ok (.getfield 242, 3) := by decide +kernel
theorem dX12_matter_138 : decode cX12_matter 138 = .ok (.ireturn, 1) := by decide +kernel
theorem dX12_matter_139 : decode cX12_matter 139 = .ok (.aload_n 3, 1) := by decide +kernel
theorem dX12_matter_140 : decode cX12_matter 140 = .ok (.getfield 245, 3) := by decide +kernel
theorem dX12_matter_143 : decode cX12_matter 143 = .ok (.invokestatic 248, 3) := by decide +kernel
theorem dX12_matter_146 : decode cX12_matter 146 = .ok (.ireturn, 1) := by decide +kernel
theorem dX12_matter_147 : decode cX12_matter 147 = .ok (.aload_n 3, 1) := by decide +kernel
theorem dX12_matter_148 : decode cX12_matter 148 = .ok (.getfield 253, 3) := by decide +kernel
theorem dX12_matter_151 : decode cX12_matter 151 = .ok (.invokestatic 248, 3) := by decide +kernel
theorem dX12_matter_154 : decode cX12_matter 154 = .ok (.ireturn, 1) := by decide +kernel
theorem dX12_matter_155 : decode cX12_matter 155 = .ok (.new 193, 3) := by decide +kernel
theorem dX12_matter_158 : decode cX12_matter 158 = .ok (.dup, 1) := by decide +kernel
theorem dX12_matter_159 : decode cX12_matter 159 = .ok (.invokespecial 195, 3) := by decide +kernel
theorem dX12_matter_162 : decode cX12_matter 162 = .ok (.athrow, 1) := by decide +kernel
theorem hd_X12_matter : yX12_matter.cls = RX12 ∧ yX12_matter.cls ≠ "java/lang/invoke/MethodHandle" ∧ yX12_matter.cls ≠ "java/lang/invoke/VarHandle" ∧ (parseMethodDescriptor yX12_matter.desc).map (fun d => d.parameters.length) = some 2 := by decide +kernel
theorem hs_X12_matter : yX12_matter.cls ≠ "java/lang/invoke/MethodHandle" ∧ yX12_matter.cls ≠ "java/lang/invoke/VarHandle" ∧ (parseMethodDescriptor yX12_matter.desc).map (fun d => d.parameters.length) = some 2 := by decide +kernel
set_option maxHeartbeats 4000000 in
set_option maxRecDepth 100000 in
theorem k_X12_matter (l : Launch) (hls : l.stackTraces = false) (E : Ev) (K : Kd) (z : Nat) (o : Nat) (a_1 : Int32) (a_2 : Int32) (w : Wd) (ho : K o = some (10, 0)) {r : Int32 ⊕ Nat} {w' : Wd} (hf : f_X12_matter K o a_1 a_2 w = some (r, w')) : vx_Met l yX12_matter (Cond.code yX12_matter cX12_matter 5 (Option.some Jvm.ClassFile.FieldType.int) :: bt) ({ frames := 7, cells := 2, slots := 12, locals := 112 } : Room) (va_Pc [rv E (some o), .int a_1, .int a_2] (HB E K w z)) (XI E K z w' r) (XX E K w' r) 2 12 (hA E) := by
  refine vx_ofW (cc := cX12_matter) (maxL := 5) (ret := (Option.some Jvm.ClassFile.FieldType.int)) (by decide) rfl ?_
  intro p e s m args below meth c s₁ B hml hout hv
  obtain ⟨rfl, hz, hP, hKs, hT, hb0⟩ := hv
  have C : CX p l e s m _ meth c cX12_matter 5 RX12 (Option.some Jvm.ClassFile.FieldType.int) E := ⟨B.exec, B.bytes, hml, findClass_of_methodNamed B.named, fun w h => atoms_spec (ws := Cond.code yX12_matter cX12_matter 5 (Option.some Jvm.ClassFile.FieldType.int) :: bt) B.pre w (List.mem_cons_of_mem _ h), hKs, hT, by rw [hz]; exact hb0, B.notSynchronized, B.returns⟩
  have hH : HQ E K z w s s.heap [] := ⟨hP, va_S.rf, hz⟩
  obtain ⟨hx, hb, hml, hown, hts, hKs, hT, hb0, hlocks, hret⟩ := id C
  have hl := lv_entry [rv E (some o), .int a_1, .int a_2] (n := 5) (by simp [lg_len_nil, lg_len_i, lg_len_j, lg_len_q])
  rw [lg_entry_eq]
  generalize (lg_sl [rv E (some o), .int a_1, .int a_2] ++ List.replicate (5 - (lg_sl [rv E (some o), .int a_1, .int a_2]).length) Slot.unset).toArray = ls at hl ⊢
  replace hl : lv_has ls 5 [(0, rv E (some o)), (1, .int a_1), (2, .int a_2)] := by simpa only [lv_args, cat_q, cat_i, cat_j, reduceIte, Nat.reduceEqDiff, Nat.reduceAdd, Nat.zero_add] using hl
  generalize s.heap = H at hH ⊢
  unfold f_X12_matter at hf
  refine hl_aload_n hx hb dX12_matter_0 rfl (lv_at hl 0 rfl) ?_
  refine lv_iconst (v := 3) hx hb dX12_matter_1 (by decide) ?_
  refine lv_iload_n hx hb dX12_matter_2 rfl (lv_at hl 1 rfl) ?_
  obtain ⟨q1, hq1, hf⟩ := bnd hf
  refine hxV_v hx hb hml hown hts hKs hT hb0 hH (As := [.int 3, .int a_1]) (rest := []) (k_X12_requireExisting l hls E K H.size o 3 a_1 w ho hq1) (gV m5_91 m5_93 ms_37 m1_1 m5_94) hd_X12_requireExisting ⟨Nat.le_of_ble_eq_true rfl, Nat.le_of_ble_eq_true rfl, rfl, rfl⟩ rfl ho rfl rfl rfl hl.1 rfl rc0 rfl dX12_matter_3 ⟨Nat.le_of_ble_eq_true rfl, Nat.le_of_ble_eq_true rfl⟩ ⟨Nat.le_of_ble_eq_true rfl, Nat.le_of_ble_eq_true rfl⟩ hout hlocks (fun x hx9 => (fun h9 => ⟨(congrArg Prod.fst h9).symm, (congrArg Prod.snd h9).symm⟩) (Option.some.inj ((xk_inr hx9).symm.trans hf))) (fun v2 hv2 H locs hH => ?_)
  replace hf := (xk_inl hv2).symm.trans hf
  refine hl_aload_n hx hb dX12_matter_6 rfl (lv_at hl 0 rfl) ?_
  refine g12_5 hx hb hts hown hKs hH rfl ho m2_224 dX12_matter_7 ?_
  obtain ⟨a3, ha3, hf⟩ := bnd hf
  replace ha3 := chk_some ha3
  refine gn10_0 hx hb hts hown hKs hH ha3.1 ha3.2 m2_122 dX12_matter_10 ?_
  obtain ⟨a4, ha4, hf⟩ := bnd hf
  replace ha4 := chk_some ha4
  refine gn9_9 hx hb hts hown hKs hH ha4.1 ha4.2 m1_180 dX12_matter_13 ?_
  refine lv_iload_n hx hb dX12_matter_16 rfl (lv_at hl 1 rfl) ?_
  obtain ⟨a5, ha5, hf⟩ := bnd hf
  replace ha5 := cha_some ha5
  obtain ⟨j6, hj6, hf⟩ := bnd hf
  refine hw_aald25 hx hb hKs hH ha5.1 ha5.2 hj6 dX12_matter_17 ?_
  refine hl_astore_n (lv' := [(3, rv E (aR q1.2 a5.1 j6)), (0, rv E (some o)), (1, .int a_1), (2, .int a_2)]) hx hb dX12_matter_18 rfl hl (by decide) rfl (fun ls hl => ?_)
  refine hl_aload_n hx hb dX12_matter_19 rfl (lv_at hl 1 rfl) ?_
  refine g12_5 hx hb hts hown hKs hH rfl ho m2_224 dX12_matter_20 ?_
  refine gn10_5 hx hb hts hown hKs hH ha3.1 ha3.2 m2_135 dX12_matter_23 ?_
  refine lv_iload_n hx hb dX12_matter_26 rfl (lv_at hl 2 rfl) ?_
  obtain ⟨a7, ha7, hf⟩ := bnd hf
  replace ha7 := cha_some ha7
  obtain ⟨j8, hj8, hf⟩ := bnd hf
  refine hw_aald27 hx hb hKs hH ha7.1 ha7.2 hj8 dX12_matter_27 ?_
  refine hl_astore (lv' := [(4, rv E (aR q1.2 a7.1 j8)), (3, rv E (aR q1.2 a5.1 j6)), (0, rv E (some o)), (1, .int a_1), (2, .int a_2)]) hx hb dX12_matter_28 hl (by decide) (by simp [List.filter_cons, cat_q, cat_i, cat_j]) (fun ls hl => ?_)
  refine lv_iload_n hx hb dX12_matter_30 rfl (lv_at hl 4 rfl) ?_
  by_cases c9 : (a_2 < 0 ∨ 9 < a_2)
  · replace hf := (if_pos c9).symm.trans hf
    refine hl_tabOut (tgt := 155) hx hb dX12_matter_31 c9 (by decide) (by decide) (by decide) ?_
    exact hx_throw hx hb hls (code := 1) hml hl.1 hown hts hKs hT hb0 hH (by decide) rfl m5_95 m1_28 hat_RX12_195 dX12_matter_155 dX12_matter_158 dX12_matter_159 dX12_matter_162 hout (Nat.le_of_ble_eq_true rfl) rc0 (Nat.le_of_ble_eq_true rfl) (Nat.le_of_ble_eq_true rfl) (Nat.le_of_ble_eq_true rfl) hlocks hf (Nat.le_of_ble_eq_true rfl) (Nat.le_of_ble_eq_true rfl)
  replace hf := (if_neg c9).symm.trans hf
  by_cases c10 : a_2 = 0
  · replace hf := (if_pos c10).symm.trans hf
    refine hl_tabIn (tgt := 84) hx hb dX12_matter_31 c10 (by decide) (by decide) rfl (by decide) ?_
    refine hl_aload_n hx hb dX12_matter_84 rfl (lv_at hl 1 rfl) ?_
    obtain ⟨a11, ha11, hf⟩ := bnd hf
    replace ha11 := chk_some ha11
    refine gn3_0 hx hb hts hown hKs hH ha11.1 ha11.2 m1_91 dX12_matter_85 ?_
    exact hx_iret hx hb (Nat.le_of_ble_eq_true rfl) (Nat.le_of_ble_eq_true rfl) hret hf hH hlocks dX12_matter_88
  replace hf := (if_neg c10).symm.trans hf
  by_cases c12 : a_2 = 1
  · replace hf := (if_pos c12).symm.trans hf
    refine hl_tabIn (tgt := 89) hx hb dX12_matter_31 c12 (by decide) (by decide) rfl (by decide) ?_
    refine hl_aload_n hx hb dX12_matter_89 rfl (lv_at hl 1 rfl) ?_
    obtain ⟨a13, ha13, hf⟩ := bnd hf
    replace ha13 := chk_some ha13
    refine gn3_1 hx hb hts hown hKs hH ha13.1 ha13.2 m1_96 dX12_matter_90 ?_
    exact hx_iret hx hb (Nat.le_of_ble_eq_true rfl) (Nat.le_of_ble_eq_true rfl) hret hf hH hlocks dX12_matter_93
  replace hf := (if_neg c12).symm.trans hf
  by_cases c14 : a_2 = 2
  · replace hf := (if_pos c14).symm.trans hf
    refine hl_tabIn (tgt := 94) hx hb dX12_matter_31 c14 (by decide) (by decide) rfl (by decide) ?_
    refine hl_aload_n hx hb dX12_matter_94 rfl (lv_at hl 1 rfl) ?_
    obtain ⟨a15, ha15, hf⟩ := bnd hf
    replace ha15 := chk_some ha15
    refine gn3_2 hx hb hts hown hKs hH ha15.1 ha15.2 m1_100 dX12_matter_95 ?_
    exact hx_iret hx hb (Nat.le_of_ble_eq_true rfl) (Nat.le_of_ble_eq_true rfl) hret hf hH hlocks dX12_matter_98
  replace hf := (if_neg c14).symm.trans hf
  by_cases c16 : a_2 = 3
  · replace hf := (if_pos c16).symm.trans hf
    refine hl_tabIn (tgt := 99) hx hb dX12_matter_31 c16 (by decide) (by decide) rfl (by decide) ?_
    refine hl_aload hx hb dX12_matter_99 (lv_at hl 0 rfl) ?_
    obtain ⟨a17, ha17, hf⟩ := bnd hf
    replace ha17 := chk_some ha17
    refine gn7_1 hx hb hts hown hKs hH ha17.1 ha17.2 m2_74 dX12_matter_101 ?_
    exact hx_iret hx hb (Nat.le_of_ble_eq_true rfl) (Nat.le_of_ble_eq_true rfl) hret hf hH hlocks dX12_matter_104
  replace hf := (if_neg c16).symm.trans hf
  by_cases c18 : a_2 = 4
  · replace hf := (if_pos c18).symm.trans hf
    refine hl_tabIn (tgt := 105) hx hb dX12_matter_31 c18 (by decide) (by decide) rfl (by decide) ?_
    refine hl_aload_n hx hb dX12_matter_105 rfl (lv_at hl 2 rfl) ?_
    refine g12_5 hx hb hts hown hKs hH rfl ho m2_224 dX12_matter_106 ?_
    refine lv_iload_n hx hb dX12_matter_109 rfl (lv_at hl 3 rfl) ?_
    obtain ⟨q19, hq19, hf⟩ := bnd hf
    refine hcV_i hx hb hml hown hts hKs hT hb0 hH (As := [.int a_1]) (rest := []) (k_X10_limitDay l E K H.size a3 a_1 q1.2 ha3.2 hq19) (gV m5_146 m4_67 m4_68 m1_12 m4_69) hd_X10_limitDay ⟨Nat.le_of_ble_eq_true rfl, Nat.le_of_ble_eq_true rfl, rfl, rfl⟩ ha3.1 ha3.2 rfl rfl rfl hl.1 rfl rc0 rfl dX12_matter_110 ⟨Nat.le_of_ble_eq_true rfl, Nat.le_of_ble_eq_true rfl⟩ (fun H locs hH => ?_)
    exact hx_iret hx hb (Nat.le_of_ble_eq_true rfl) (Nat.le_of_ble_eq_true rfl) hret hf hH hlocks dX12_matter_113
  replace hf := (if_neg c18).symm.trans hf
  by_cases c20 : a_2 = 5
  · replace hf := (if_pos c20).symm.trans hf
    refine hl_tabIn (tgt := 114) hx hb dX12_matter_31 c20 (by decide) (by decide) rfl (by decide) ?_
    refine hl_aload hx hb dX12_matter_114 (lv_at hl 0 rfl) ?_
    obtain ⟨a21, ha21, hf⟩ := bnd hf
    replace ha21 := chk_some ha21
    refine gn7_0 hx hb hts hown hKs hH ha21.1 ha21.2 m2_71 dX12_matter_116 ?_
    exact hx_iret hx hb (Nat.le_of_ble_eq_true rfl) (Nat.le_of_ble_eq_true rfl) hret hf hH hlocks dX12_matter_119
  replace hf := (if_neg c20).symm.trans hf
  by_cases c22 : a_2 = 6
  · replace hf := (if_pos c22).symm.trans hf
    refine hl_tabIn (tgt := 120) hx hb dX12_matter_31 c22 (by decide) (by decide) rfl (by decide) ?_
    refine hl_aload_n hx hb dX12_matter_120 rfl (lv_at hl 1 rfl) ?_
    obtain ⟨a23, ha23, hf⟩ := bnd hf
    replace ha23 := chk_some ha23
    refine gn3_3 hx hb hts hown hKs hH ha23.1 ha23.2 m1_104 dX12_matter_121 ?_
    refine lv_if_eq (tgt := 131) hx hb dX12_matter_124 (by decide) (fun c24 => ?_) (fun c24 => ?_)
    · replace hf := (if_pos c24).symm.trans hf
      refine lv_iconst (v := 0) hx hb dX12_matter_131 (by decide) ?_
      exact hx_iret hx hb (Nat.le_of_ble_eq_true rfl) (Nat.le_of_ble_eq_true rfl) hret hf hH hlocks dX12_matter_132
    · replace hf := (if_neg c24).symm.trans hf
      refine lv_iconst (v := 1) hx hb dX12_matter_127 (by decide) ?_
      refine lv_goto (tgt := 132) hx hb dX12_matter_128 (by decide) ?_
      exact hx_iret hx hb (Nat.le_of_ble_eq_true rfl) (Nat.le_of_ble_eq_true rfl) hret hf hH hlocks dX12_matter_132
  replace hf := (if_neg c22).symm.trans hf
  by_cases c25 : a_2 = 7
  · replace hf := (if_pos c25).symm.trans hf
    refine hl_tabIn (tgt := 133) hx hb dX12_matter_31 c25 (by decide) (by decide) rfl (by decide) ?_
    refine hl_aload hx hb dX12_matter_133 (lv_at hl 0 rfl) ?_
    obtain ⟨a26, ha26, hf⟩ := bnd hf
    replace ha26 := chk_some ha26
    refine gn7_6 hx hb hts hown hKs hH ha26.1 ha26.2 m2_90 dX12_matter_135 ?_
    exact hx_iret hx hb (Nat.le_of_ble_eq_true rfl) (Nat.le_of_ble_eq_true rfl) hret hf hH hlocks dX12_matter_138
  replace hf := (if_neg c25).symm.trans hf
  by_cases c27 : a_2 = 8
  · replace hf := (if_pos c27).symm.trans hf
    refine hl_tabIn (tgt := 139) hx hb dX12_matter_31 c27 (by decide) (by decide) rfl (by decide) ?_
    refine hl_aload_n hx hb dX12_matter_139 rfl (lv_at hl 1 rfl) ?_
    obtain ⟨a28, ha28, hf⟩ := bnd hf
    replace ha28 := chk_some ha28
    refine gn3_4 hx hb hts hown hKs hH ha28.1 ha28.2 m1_109 dX12_matter_140 ?_
    obtain ⟨q29, hq29, hf⟩ := bnd hf
    refine hcS_i hx hb hml hown hts hKs hT hb0 hH (As := [.int ((wI q1.2 304 a28))]) (rest := []) (k_J6_bitCount_0f7a4 l E K H.size (wI q1.2 304 a28) q1.2 hq29) (gS m5_147 m4_8 m1_23 m4_9) hs_J6_bitCount_0f7a4 ⟨Nat.le_of_ble_eq_true rfl, Nat.le_of_ble_eq_true rfl, rfl, rfl⟩ hl.1 rfl rc0 rfl dX12_matter_143 ⟨Nat.le_of_ble_eq_true rfl, Nat.le_of_ble_eq_true rfl⟩ (fun H locs hH => ?_)
    exact hx_iret hx hb (Nat.le_of_ble_eq_true rfl) (Nat.le_of_ble_eq_true rfl) hret hf hH hlocks dX12_matter_146
  replace hf := (if_neg c27).symm.trans hf
  by_cases c30 : a_2 = 9
  · replace hf := (if_pos c30).symm.trans hf
    refine hl_tabIn (tgt := 147) hx hb dX12_matter_31 c30 (by decide) (by decide) rfl (by decide) ?_
    refine hl_aload_n hx hb dX12_matter_147 rfl (lv_at hl 1 rfl) ?_
    obtain ⟨a31, ha31, hf⟩ := bnd hf
    replace ha31 := chk_some ha31
    refine gn3_5 hx hb hts hown hKs hH ha31.1 ha31.2 m1_115 dX12_matter_148 ?_
    obtain ⟨q32, hq32, hf⟩ := bnd hf
    refine hcS_i hx hb hml hown hts hKs hT hb0 hH (As := [.int ((wI q1.2 305 a31))]) (rest := []) (k_J6_bitCount_0f7a4 l E K H.size (wI q1.2 305 a31) q1.2 hq32) (gS m5_147 m4_8 m1_23 m4_9) hs_J6_bitCount_0f7a4 ⟨Nat.le_of_ble_eq_true rfl, Nat.le_of_ble_eq_true rfl, rfl, rfl⟩ hl.1 rfl rc0 rfl dX12_matter_151 ⟨Nat.le_of_ble_eq_true rfl, Nat.le_of_ble_eq_true rfl⟩ (fun H locs hH => ?_)
    exact hx_iret hx hb (Nat.le_of_ble_eq_true rfl) (Nat.le_of_ble_eq_true rfl) hret hf hH hlocks dX12_matter_154
  replace hf := (if_neg c30).symm.trans hf
  cases hf

theorem dX12_hearing_0 : decode cX12_hearing 0 = .ok (.aload_n 0, 1) := by decide +kernel
theorem dX12_hearing_1 : decode cX12_hearing 1 = .ok (.iconst 3, 1) := by decide +kernel
theorem dX12_hearing_2 : decode cX12_hearing 2 = .ok (.iload_n 1, 1) := by decide +kernel
theorem dX12_hearing_3 : decode cX12_hearing 3 = .ok (.invokevirtual 175, 3) := by decide +kernel
theorem dX12_hearing_6 : decode cX12_hearing 6 = .ok (.aload_n 0, 1) := by decide +kernel
theorem dX12_hearing_7 : decode cX12_hearing 7 = .ok (.getfield 35, 3) := by decide +kernel
theorem dX12_hearing_10 : decode cX12_hearing 10 = .ok (.getfield 213, 3) := by decide +kernel
theorem dX12_hearing_13 : decode cX12_hearing 13 = .ok (.iload_n 1, 1) := by decide +kernel
theorem dX12_hearing_14 : decode cX12_hearing 14 = .ok (.aaload, 1) := by decide +kernel
theorem dX12_hearing_15 : decode cX12_hearing 15 = .ok (.astore_n 3, 1) := by decide +kernel
theorem dX12_hearing_16 : decode cX12_hearing 16 = .ok (.iload_n 2, 1) := by decide +kernel
theorem dX12_hearing_17 : decode cX12_hearing 17 = .ok (.tableswitch 51 0 3 #[31, 36, 41, 46], 31) := by decide +kernel
theorem dX12_hearing_48 : decode cX12_hearing 48 = .ok (.aload_n 3, 1) := by decide +kernel
theorem dX12_hearing_49 : decode cX12_hearing 49 = .ok (.getfield 256, 3) := by decide +kernel
theorem dX12_hearing_52 : decode cX12_hearing 52 = .ok (.ireturn, 1) := by decide +kernel
theorem dX12_hearing_53 : decode cX12_hearing 53 = .ok (.aload_n 3, 1) := by decide +kernel
theorem dX12_hearing_54 : decode cX12_hearing 54 = .ok (.getfield 257, 3) := by decide +kernel
theorem dX12_hearing_57 : decode cX12_hearing 57 = .ok (.ireturn, 1) := by decide +kernel
theorem dX12_hearing_58 : decode cX12_hearing 58 = .ok (.aload_n 3, 1) := by decide +kernel
theorem dX12_hearing_59 : decode cX12_hearing 59 = .ok (.getfield 260, 3) := by decide +kernel
theorem dX12_hearing_62 : decode cX12_hearing 62 = .ok (.ireturn, 1) := by decide +kernel
theorem dX12_hearing_63 : decode cX12_hearing 63 = .ok (.aload_n 3, 1) := by decide +kernel
theorem dX12_hearing_64 : decode cX12_hearing 64 = .ok (.getfield 263, 3) := by decide +kernel
theorem dX12_hearing_67 : decode cX12_hearing 67 = .ok (.ireturn, 1) := by decide +kernel
theorem dX12_hearing_68 : decode cX12_hearing 68 = .ok (.new 193, 3) := by decide +kernel
theorem dX12_hearing_71 : decode cX12_hearing 71 = .ok (.dup, 1) := by decide +kernel
theorem dX12_hearing_72 : decode cX12_hearing 72 = .ok (.invokespecial 195, 3) := by decide +kernel
theorem dX12_hearing_75 : decode cX12_hearing 75 = .ok (.athrow, 1) := by decide +kernel
theorem hd_X12_hearing : yX12_hearing.cls = RX12 ∧ yX12_hearing.cls ≠ "java/lang/invoke/MethodHandle" ∧ yX12_hearing.cls ≠ "java/lang/invoke/VarHandle" ∧ (parseMethodDescriptor yX12_hearing.desc).map (fun d => d.parameters.length) = some 2 := by decide +kernel
theorem hs_X12_hearing : yX12_hearing.cls ≠ "java/lang/invoke/MethodHandle" ∧ yX12_hearing.cls ≠ "java/lang/invoke/VarHandle" ∧ (parseMethodDescriptor yX12_hearing.desc).map (fun d => d.parameters.length) = some 2 := by decide +kernel
set_option maxHeartbeats 4000000 in
set_option maxRecDepth 100000 in
theorem k_X12_hearing (l : Launch) (hls : l.stackTraces = false) (E : Ev) (K : Kd) (z : Nat) (o : Nat) (a_1 : Int32) (a_2 : Int32) (w : Wd) (ho : K o = some (10, 0)) {r : Int32 ⊕ Nat} {w' : Wd} (hf : f_X12_hearing K o a_1 a_2 w = some (r, w')) : vx_Met l yX12_hearing (Cond.code yX12_hearing cX12_hearing 4 (Option.some Jvm.ClassFile.FieldType.int) :: bt) ({ frames := 7, cells := 2, slots := 12, locals := 112 } : Room) (va_Pc [rv E (some o), .int a_1, .int a_2] (HB E K w z)) (XI E K z w' r) (XX E K w' r) 2 12 (hA E) := by
  refine vx_ofW (cc := cX12_hearing) (maxL := 4) (ret := (Option.some Jvm.ClassFile.FieldType.int)) (by decide) rfl ?_
  intro p e s m args below meth c s₁ B hml hout hv
  obtain ⟨rfl, hz, hP, hKs, hT, hb0⟩ := hv
  have C : CX p l e s m _ meth c cX12_hearing 4 RX12 (Option.some Jvm.ClassFile.FieldType.int) E := ⟨B.exec, B.bytes, hml, findClass_of_methodNamed B.named, fun w h => atoms_spec (ws := Cond.code yX12_hearing cX12_hearing 4 (Option.some Jvm.ClassFile.FieldType.int) :: bt) B.pre w (List.mem_cons_of_mem _ h), hKs, hT, by rw [hz]; exact hb0, B.notSynchronized, B.returns⟩
  have hH : HQ E K z w s s.heap [] := ⟨hP, va_S.rf, hz⟩
  obtain ⟨hx, hb, hml, hown, hts, hKs, hT, hb0, hlocks, hret⟩ := id C
  have hl := lv_entry [rv E (some o), .int a_1, .int a_2] (n := 4) (by simp [lg_len_nil, lg_len_i, lg_len_j, lg_len_q])
  rw [lg_entry_eq]
  generalize (lg_sl [rv E (some o), .int a_1, .int a_2] ++ List.replicate (4 - (lg_sl [rv E (some o), .int a_1, .int a_2]).length) Slot.unset).toArray = ls at hl ⊢
  replace hl : lv_has ls 4 [(0, rv E (some o)), (1, .int a_1), (2, .int a_2)] := by simpa only [lv_args, cat_q, cat_i, cat_j, reduceIte, Nat.reduceEqDiff, Nat.reduceAdd, Nat.zero_add] using hl
  generalize s.heap = H at hH ⊢
  unfold f_X12_hearing at hf
  refine hl_aload_n hx hb dX12_hearing_0 rfl (lv_at hl 0 rfl) ?_
  refine lv_iconst (v := 3) hx hb dX12_hearing_1 (by decide) ?_
  refine lv_iload_n hx hb dX12_hearing_2 rfl (lv_at hl 1 rfl) ?_
  obtain ⟨q1, hq1, hf⟩ := bnd hf
  refine hxV_v hx hb hml hown hts hKs hT hb0 hH (As := [.int 3, .int a_1]) (rest := []) (k_X12_requireExisting l hls E K H.size o 3 a_1 w ho hq1) (gV m5_91 m5_93 ms_37 m1_1 m5_94) hd_X12_requireExisting ⟨Nat.le_of_ble_eq_true rfl, Nat.le_of_ble_eq_true rfl, rfl, rfl⟩ rfl ho rfl rfl rfl hl.1 rfl rc0 rfl dX12_hearing_3 ⟨Nat.le_of_ble_eq_true rfl, Nat.le_of_ble_eq_true rfl⟩ ⟨Nat.le_of_ble_eq_true rfl, Nat.le_of_ble_eq_true rfl⟩ hout hlocks (fun x hx9 => (fun h9 => ⟨(congrArg Prod.fst h9).symm, (congrArg Prod.snd h9).symm⟩) (Option.some.inj ((xk_inr hx9).symm.trans hf))) (fun v2 hv2 H locs hH => ?_)
  replace hf := (xk_inl hv2).symm.trans hf
  refine hl_aload_n hx hb dX12_hearing_6 rfl (lv_at hl 0 rfl) ?_
  refine g12_5 hx hb hts hown hKs hH rfl ho m2_224 dX12_hearing_7 ?_
  obtain ⟨a3, ha3, hf⟩ := bnd hf
  replace ha3 := chk_some ha3
  refine gn10_5 hx hb hts hown hKs hH ha3.1 ha3.2 m2_135 dX12_hearing_10 ?_
  refine lv_iload_n hx hb dX12_hearing_13 rfl (lv_at hl 1 rfl) ?_
  obtain ⟨a4, ha4, hf⟩ := bnd hf
  replace ha4 := cha_some ha4
  obtain ⟨j5, hj5, hf⟩ := bnd hf
  refine hw_aald27 hx hb hKs hH ha4.1 ha4.2 hj5 dX12_hearing_14 ?_
  refine hl_astore_n (lv' := [(3, rv E (aR q1.2 a4.1 j5)), (0, rv E (some o)), (1, .int a_1), (2, .int a_2)]) hx hb dX12_hearing_15 rfl hl (by decide) rfl (fun ls hl => ?_)
  refine lv_iload_n hx hb dX12_hearing_16 rfl (lv_at hl 3 rfl) ?_
  by_cases c6 : (a_2 < 0 ∨ 3 < a_2)
  · replace hf := (if_pos c6).symm.trans hf
    refine hl_tabOut (tgt := 68) hx hb dX12_hearing_17 c6 (by decide) (by decide) (by decide) ?_
    exact hx_throw hx hb hls (code := 1) hml hl.1 hown hts hKs hT hb0 hH (by decide) rfl m5_95 m1_28 hat_RX12_195 dX12_hearing_68 dX12_hearing_71 dX12_hearing_72 dX12_hearing_75 hout (Nat.le_of_ble_eq_true rfl) rc0 (Nat.le_of_ble_eq_true rfl) (Nat.le_of_ble_eq_true rfl) (Nat.le_of_ble_eq_true rfl) hlocks hf (Nat.le_of_ble_eq_true rfl) (Nat.le_of_ble_eq_true rfl)
  replace hf := (if_neg c6).symm.trans hf
  by_cases c7 : a_2 = 0
  · replace hf := (if_pos c7).symm.trans hf
    refine hl_tabIn (tgt := 48) hx hb dX12_hearing_17 c7 (by decide) (by decide) rfl (by decide) ?_
    refine hl_aload_n hx hb dX12_hearing_48 rfl (lv_at hl 0 rfl) ?_
    obtain ⟨a8, ha8, hf⟩ := bnd hf
    replace ha8 := chk_some ha8
    refine gn7_2 hx hb hts hown hKs hH ha8.1 ha8.2 m2_77 dX12_hearing_49 ?_
    exact hx_iret hx hb (Nat.le_of_ble_eq_true rfl) (Nat.le_of_ble_eq_true rfl) hret hf hH hlocks dX12_hearing_52
  replace hf := (if_neg c7).symm.trans hf
  by_cases c9 : a_2 = 1
  · replace hf := (if_pos c9).symm.trans hf
    refine hl_tabIn (tgt := 53) hx hb dX12_hearing_17 c9 (by decide) (by decide) rfl (by decide) ?_
    refine hl_aload_n hx hb dX12_hearing_53 rfl (lv_at hl 0 rfl) ?_
    obtain ⟨a10, ha10, hf⟩ := bnd hf
    replace ha10 := chk_some ha10
    refine gn7_3 hx hb hts hown hKs hH ha10.1 ha10.2 m2_80 dX12_hearing_54 ?_
    exact hx_iret hx hb (Nat.le_of_ble_eq_true rfl) (Nat.le_of_ble_eq_true rfl) hret hf hH hlocks dX12_hearing_57
  replace hf := (if_neg c9).symm.trans hf
  by_cases c11 : a_2 = 2
  · replace hf := (if_pos c11).symm.trans hf
    refine hl_tabIn (tgt := 58) hx hb dX12_hearing_17 c11 (by decide) (by decide) rfl (by decide) ?_
    refine hl_aload_n hx hb dX12_hearing_58 rfl (lv_at hl 0 rfl) ?_
    obtain ⟨a12, ha12, hf⟩ := bnd hf
    replace ha12 := chk_some ha12
    refine gn7_4 hx hb hts hown hKs hH ha12.1 ha12.2 m2_84 dX12_hearing_59 ?_
    exact hx_iret hx hb (Nat.le_of_ble_eq_true rfl) (Nat.le_of_ble_eq_true rfl) hret hf hH hlocks dX12_hearing_62
  replace hf := (if_neg c11).symm.trans hf
  by_cases c13 : a_2 = 3
  · replace hf := (if_pos c13).symm.trans hf
    refine hl_tabIn (tgt := 63) hx hb dX12_hearing_17 c13 (by decide) (by decide) rfl (by decide) ?_
    refine hl_aload_n hx hb dX12_hearing_63 rfl (lv_at hl 0 rfl) ?_
    obtain ⟨a14, ha14, hf⟩ := bnd hf
    replace ha14 := chk_some ha14
    refine gn7_5 hx hb hts hown hKs hH ha14.1 ha14.2 m2_88 dX12_hearing_64 ?_
    exact hx_iret hx hb (Nat.le_of_ble_eq_true rfl) (Nat.le_of_ble_eq_true rfl) hret hf hH hlocks dX12_hearing_67
  replace hf := (if_neg c13).symm.trans hf
  cases hf

theorem dX12_adjournment_0 : decode cX12_adjournment 0 = .ok (.aload_n 0, 1) := by decide +kernel
theorem dX12_adjournment_1 : decode cX12_adjournment 1 = .ok (.iconst 3, 1) := by decide +kernel
theorem dX12_adjournment_2 : decode cX12_adjournment 2 = .ok (.iload_n 1, 1) := by decide +kernel
theorem dX12_adjournment_3 : decode cX12_adjournment 3 = .ok (.invokevirtual 175, 3) := by decide +kernel
theorem dX12_adjournment_6 : decode cX12_adjournment 6 = .ok (.aload_n 0, 1) := by decide +kernel
theorem dX12_adjournment_7 : decode cX12_adjournment 7 = .ok (.getfield 35, 3) := by decide +kernel
theorem dX12_adjournment_10 : decode cX12_adjournment 10 = .ok (.getfield 213, 3) := by decide +kernel
theorem dX12_adjournment_13 : decode cX12_adjournment 13 = .ok (.iload_n 1, 1) := by decide +kernel
theorem dX12_adjournment_14 : decode cX12_adjournment 14 = .ok (.aaload, 1) := by decide +kernel
theorem dX12_adjournment_15 : decode cX12_adjournment 15 = .ok (.astore 4, 2) := by decide +kernel
theorem dX12_adjournment_17 : decode cX12_adjournment 17 = .ok (.iload_n 2, 1) := by decide +kernel
theorem dX12_adjournment_18 : decode cX12_adjournment 18 = .ok (.ifCond .lt 21, 3) := by decide +kernel
theorem dX12_adjournment_21 : decode cX12_adjournment 21 = .ok (.iload_n 2, 1) := by decide +kernel
theorem dX12_adjournment_22 : decode cX12_adjournment 22 = .ok (.aload 4, 2) := by decide +kernel
theorem dX12_adjournment_24 : decode cX12_adjournment 24 = .ok (.getfield 242, 3) := by decide +kernel
theorem dX12_adjournment_27 : decode cX12_adjournment 27 = .ok (.if_icmp .ge 12, 3) := by decide +kernel
theorem dX12_adjournment_30 : decode cX12_adjournment 30 = .ok (.iload_n 3, 1) := by decide +kernel
theorem dX12_adjournment_31 : decode cX12_adjournment 31 = .ok (.ifCond .lt 8, 3) := by decide +kernel
theorem dX12_adjournment_34 : decode cX12_adjournment 34 = .ok (.iload_n 3, 1) := by decide +kernel
theorem dX12_adjournment_35 : decode cX12_adjournment 35 = .ok (.iconst 4, 1) := by decide +kernel
theorem dX12_adjournment_36 : decode cX12_adjournment 36 = .ok (.if_icmp .lt 11, 3) := by decide +kernel
theorem dX12_adjournment_39 : decode cX12_adjournment 39 = .ok (.new 193, 3) := by decide +kernel
theorem dX12_adjournment_42 : decode cX12_adjournment 42 = .ok (.dup, 1) := by decide +kernel
theorem dX12_adjournment_43 : decode cX12_adjournment 43 = .ok (.invokespecial 195, 3) := by decide +kernel
theorem dX12_adjournment_46 : decode cX12_adjournment 46 = .ok (.athrow, 1) := by decide +kernel
theorem dX12_adjournment_47 : decode cX12_adjournment 47 = .ok (.aload 4, 2) := by decide +kernel
theorem dX12_adjournment_49 : decode cX12_adjournment 49 = .ok (.getfield 266, 3) := by decide +kernel
theorem dX12_adjournment_52 : decode cX12_adjournment 52 = .ok (.iload_n 2, 1) := by decide +kernel
theorem dX12_adjournment_53 : decode cX12_adjournment 53 = .ok (.iconst 4, 1) := by decide +kernel
theorem dX12_adjournment_54 : decode cX12_adjournment 54 = .ok (.imul, 1) := by decide +kernel
theorem dX12_adjournment_55 : decode cX12_adjournment 55 = .ok (.iload_n 3, 1) := by decide +kernel
theorem dX12_adjournment_56 : decode cX12_adjournment 56 = .ok (.iadd, 1) := by decide +kernel
theorem dX12_adjournment_57 : decode cX12_adjournment 57 = .ok (.iaload, 1) := by decide +kernel
theorem dX12_adjournment_58 : decode cX12_adjournment 58 = .ok (.ireturn, 1) := by decide +kernel
theorem hd_X12_adjournment : yX12_adjournment.cls = RX12 ∧ yX12_adjournment.cls ≠ "java/lang/invoke/MethodHandle" ∧ yX12_adjournment.cls ≠ "java/lang/invoke/VarHandle" ∧ (parseMethodDescriptor yX12_adjournment.desc).map (fun d => d.parameters.length) = some 3 := by decide +kernel
theorem hs_X12_adjournment : yX12_adjournment.cls ≠ "java/lang/invoke/MethodHandle" ∧ yX12_adjournment.cls ≠ "java/lang/invoke/VarHandle" ∧ (parseMethodDescriptor yX12_adjournment.desc).map (fun d => d.parameters.length) = some 3 := by decide +kernel
set_option maxHeartbeats 4000000 in
set_option maxRecDepth 100000 in
theorem k_X12_adjournment (l : Launch) (hls : l.stackTraces = false) (E : Ev) (K : Kd) (z : Nat) (o : Nat) (a_1 : Int32) (a_2 : Int32) (a_3 : Int32) (w : Wd) (ho : K o = some (10, 0)) {r : Int32 ⊕ Nat} {w' : Wd} (hf : f_X12_adjournment K o a_1 a_2 a_3 w = some (r, w')) : vx_Met l yX12_adjournment (Cond.code yX12_adjournment cX12_adjournment 5 (Option.some Jvm.ClassFile.FieldType.int) :: bt) ({ frames := 7, cells := 2, slots := 12, locals := 112 } : Room) (va_Pc [rv E (some o), .int a_1, .int a_2, .int a_3] (HB E K w z)) (XI E K z w' r) (XX E K w' r) 2 12 (hA E) := by
  refine vx_ofW (cc := cX12_adjournment) (maxL := 5) (ret := (Option.some Jvm.ClassFile.FieldType.int)) (by decide) rfl ?_
  intro p e s m args below meth c s₁ B hml hout hv
  obtain ⟨rfl, hz, hP, hKs, hT, hb0⟩ := hv
  have C : CX p l e s m _ meth c cX12_adjournment 5 RX12 (Option.some Jvm.ClassFile.FieldType.int) E := ⟨B.exec, B.bytes, hml, findClass_of_methodNamed B.named, fun w h => atoms_spec (ws := Cond.code yX12_adjournment cX12_adjournment 5 (Option.some Jvm.ClassFile.FieldType.int) :: bt) B.pre w (List.mem_cons_of_mem _ h), hKs, hT, by rw [hz]; exact hb0, B.notSynchronized, B.returns⟩
  have hH : HQ E K z w s s.heap [] := ⟨hP, va_S.rf, hz⟩
  obtain ⟨hx, hb, hml, hown, hts, hKs, hT, hb0, hlocks, hret⟩ := id C
  have hl := lv_entry [rv E (some o), .int a_1, .int a_2, .int a_3] (n := 5) (by simp [lg_len_nil, lg_len_i, lg_len_j, lg_len_q])
  rw [lg_entry_eq]
  generalize (lg_sl [rv E (some o), .int a_1, .int a_2, .int a_3] ++ List.replicate (5 - (lg_sl [rv E (some o), .int a_1, .int a_2, .int a_3]).length) Slot.unset).toArray = ls at hl ⊢
  replace hl : lv_has ls 5 [(0, rv E (some o)), (1, .int a_1), (2, .int a_2), (3, .int a_3)] := by simpa only [lv_args, cat_q, cat_i, cat_j, reduceIte, Nat.reduceEqDiff, Nat.reduceAdd, Nat.zero_add] using hl
  generalize s.heap = H at hH ⊢
  unfold f_X12_adjournment at hf
  refine hl_aload_n hx hb dX12_adjournment_0 rfl (lv_at hl 0 rfl) ?_
  refine lv_iconst (v := 3) hx hb dX12_adjournment_1 (by decide) ?_
  refine lv_iload_n hx hb dX12_adjournment_2 rfl (lv_at hl 1 rfl) ?_
  obtain ⟨q1, hq1, hf⟩ := bnd hf
  refine hxV_v hx hb hml hown hts hKs hT hb0 hH (As := [.int 3, .int a_1]) (rest := []) (k_X12_requireExisting l hls E K H.size o 3 a_1 w ho hq1) (gV m5_91 m5_93 ms_37 m1_1 m5_94) hd_X12_requireExisting ⟨Nat.le_of_ble_eq_true rfl, Nat.le_of_ble_eq_true rfl, rfl, rfl⟩ rfl ho rfl rfl rfl hl.1 rfl rc0 rfl dX12_adjournment_3 ⟨Nat.le_of_ble_eq_true rfl, Nat.le_of_ble_eq_true rfl⟩ ⟨Nat.le_of_ble_eq_true rfl, Nat.le_of_ble_eq_true rfl⟩ hout hlocks (fun x hx9 => (fun h9 => ⟨(congrArg Prod.fst h9).symm, (congrArg Prod.snd h9).symm⟩) (Option.some.inj ((xk_inr hx9).symm.trans hf))) (fun v2 hv2 H locs hH => ?_)
  replace hf := (xk_inl hv2).symm.trans hf
  refine hl_aload_n hx hb dX12_adjournment_6 rfl (lv_at hl 0 rfl) ?_
  refine g12_5 hx hb hts hown hKs hH rfl ho m2_224 dX12_adjournment_7 ?_
  obtain ⟨a3, ha3, hf⟩ := bnd hf
  replace ha3 := chk_some ha3
  refine gn10_5 hx hb hts hown hKs hH ha3.1 ha3.2 m2_135 dX12_adjournment_10 ?_
  refine lv_iload_n hx hb dX12_adjournment_13 rfl (lv_at hl 1 rfl) ?_
  obtain ⟨a4, ha4, hf⟩ := bnd hf
  replace ha4 := cha_some ha4
  obtain ⟨j5, hj5, hf⟩ := bnd hf
  refine hw_aald27 hx hb hKs hH ha4.1 ha4.2 hj5 dX12_adjournment_14 ?_
  refine hl_astore (lv' := [(4, rv E (aR q1.2 a4.1 j5)), (0, rv E (some o)), (1, .int a_1), (2, .int a_2), (3, .int a_3)]) hx hb dX12_adjournment_15 hl (by decide) rfl (fun ls hl => ?_)
  refine lv_iload_n hx hb dX12_adjournment_17 rfl (lv_at hl 3 rfl) ?_
  refine lv_if_lt (tgt := 39) hx hb dX12_adjournment_18 (by decide) (fun c6 => ?_) (fun c6 => ?_)
  · replace hf := (if_pos c6).symm.trans hf
    exact hx_throw hx hb hls (code := 1) hml hl.1 hown hts hKs hT hb0 hH (by decide) rfl m5_95 m1_28 hat_RX12_195 dX12_adjournment_39 dX12_adjournment_42 dX12_adjournment_43 dX12_adjournment_46 hout (Nat.le_of_ble_eq_true rfl) rc0 (Nat.le_of_ble_eq_true rfl) (Nat.le_of_ble_eq_true rfl) (Nat.le_of_ble_eq_true rfl) hlocks hf (Nat.le_of_ble_eq_true rfl) (Nat.le_of_ble_eq_true rfl)
  · replace hf := (if_neg c6).symm.trans hf
    refine lv_iload_n hx hb dX12_adjournment_21 rfl (lv_at hl 3 rfl) ?_
    refine hl_aload hx hb dX12_adjournment_22 (lv_at hl 0 rfl) ?_
    obtain ⟨a7, ha7, hf⟩ := bnd hf
    replace ha7 := chk_some ha7
    refine gn7_6 hx hb hts hown hKs hH ha7.1 ha7.2 m2_90 dX12_adjournment_24 ?_
    refine lv_icmp_ge (tgt := 39) hx hb dX12_adjournment_27 (by decide) (fun c8 => ?_) (fun c8 => ?_)
    · replace hf := (if_pos c8).symm.trans hf
      exact hx_throw hx hb hls (code := 1) hml hl.1 hown hts hKs hT hb0 hH (by decide) rfl m5_95 m1_28 hat_RX12_195 dX12_adjournment_39 dX12_adjournment_42 dX12_adjournment_43 dX12_adjournment_46 hout (Nat.le_of_ble_eq_true rfl) rc0 (Nat.le_of_ble_eq_true rfl) (Nat.le_of_ble_eq_true rfl) (Nat.le_of_ble_eq_true rfl) hlocks hf (Nat.le_of_ble_eq_true rfl) (Nat.le_of_ble_eq_true rfl)
    · replace hf := (if_neg c8).symm.trans hf
      refine lv_iload_n hx hb dX12_adjournment_30 rfl (lv_at hl 4 rfl) ?_
      refine lv_if_lt (tgt := 39) hx hb dX12_adjournment_31 (by decide) (fun c9 => ?_) (fun c9 => ?_)
      · replace hf := (if_pos c9).symm.trans hf
        exact hx_throw hx hb hls (code := 1) hml hl.1 hown hts hKs hT hb0 hH (by decide) rfl m5_95 m1_28 hat_RX12_195 dX12_adjournment_39 dX12_adjournment_42 dX12_adjournment_43 dX12_adjournment_46 hout (Nat.le_of_ble_eq_true rfl) rc0 (Nat.le_of_ble_eq_true rfl) (Nat.le_of_ble_eq_true rfl) (Nat.le_of_ble_eq_true rfl) hlocks hf (Nat.le_of_ble_eq_true rfl) (Nat.le_of_ble_eq_true rfl)
      · replace hf := (if_neg c9).symm.trans hf
        refine lv_iload_n hx hb dX12_adjournment_34 rfl (lv_at hl 4 rfl) ?_
        refine lv_iconst (v := 4) hx hb dX12_adjournment_35 (by decide) ?_
        refine lv_icmp_lt (tgt := 47) hx hb dX12_adjournment_36 (by decide) (fun c10 => ?_) (fun c10 => ?_)
        · replace hf := (if_pos c10).symm.trans hf
          refine hl_aload hx hb dX12_adjournment_47 (lv_at hl 0 rfl) ?_
          refine gn7_7 hx hb hts hown hKs hH ha7.1 ha7.2 m2_93 dX12_adjournment_49 ?_
          refine lv_iload_n hx hb dX12_adjournment_52 rfl (lv_at hl 3 rfl) ?_
          refine lv_iconst (v := 4) hx hb dX12_adjournment_53 (by decide) ?_
          refine lv_imul hx hb dX12_adjournment_54 ?_
          refine lv_iload_n hx hb dX12_adjournment_55 rfl (lv_at hl 4 rfl) ?_
          refine lv_iadd hx hb dX12_adjournment_56 ?_
          obtain ⟨a11, ha11, hf⟩ := bnd hf
          replace ha11 := cha_some ha11
          obtain ⟨j12, hj12, hf⟩ := bnd hf
          refine hw_iald hx hb hKs hH ha11.1 ha11.2 hj12 dX12_adjournment_57 ?_
          exact hx_iret hx hb (Nat.le_of_ble_eq_true rfl) (Nat.le_of_ble_eq_true rfl) hret hf hH hlocks dX12_adjournment_58
        · replace hf := (if_neg c10).symm.trans hf
          exact hx_throw hx hb hls (code := 1) hml hl.1 hown hts hKs hT hb0 hH (by decide) rfl m5_95 m1_28 hat_RX12_195 dX12_adjournment_39 dX12_adjournment_42 dX12_adjournment_43 dX12_adjournment_46 hout (Nat.le_of_ble_eq_true rfl) rc0 (Nat.le_of_ble_eq_true rfl) (Nat.le_of_ble_eq_true rfl) (Nat.le_of_ble_eq_true rfl) hlocks hf (Nat.le_of_ble_eq_true rfl) (Nat.le_of_ble_eq_true rfl)

theorem dX12_caseAt_0 : decode cX12_caseAt 0 = .ok (.aload_n 0, 1) := by decide +kernel
theorem dX12_caseAt_1 : decode cX12_caseAt 1 = .ok (.iconst 0, 1) := by decide +kernel
theorem dX12_caseAt_2 : decode cX12_caseAt 2 = .ok (.iload_n 1, 1) := by decide +kernel
theorem dX12_caseAt_3 : decode cX12_caseAt 3 = .ok (.invokevirtual 175, 3) := by decide +kernel
theorem dX12_caseAt_6 : decode cX12_caseAt 6 = .ok (.aload_n 0, 1) := by decide +kernel
theorem dX12_caseAt_7 : decode cX12_caseAt 7 = .ok (.iload_n 2, 1) := by decide +kernel
theorem dX12_caseAt_8 : decode cX12_caseAt 8 = .ok (.invokevirtual 154, 3) := by decide +kernel
theorem dX12_caseAt_11 : decode cX12_caseAt 11 = .ok (.aload_n 0, 1) := by decide +kernel
theorem dX12_caseAt_12 : decode cX12_caseAt 12 = .ok (.iload_n 3, 1) := by decide +kernel
theorem dX12_caseAt_13 : decode cX12_caseAt 13 = .ok (.invokevirtual 269, 3) := by decide +kernel
theorem dX12_caseAt_16 : decode cX12_caseAt 16 = .ok (.aload_n 0, 1) := by decide +kernel
theorem dX12_caseAt_17 : decode cX12_caseAt 17 = .ok (.getfield 35, 3) := by decide +kernel
theorem dX12_caseAt_20 : decode cX12_caseAt 20 = .ok (.iload_n 1, 1) := by decide +kernel
theorem dX12_caseAt_21 : decode cX12_caseAt 21 = .ok (.iload_n 2, 1) := by decide +kernel
theorem dX12_caseAt_22 : decode cX12_caseAt 22 = .ok (.iload_n 3, 1) := by decide +kernel
theorem dX12_caseAt_23 : decode cX12_caseAt 23 = .ok (.invokevirtual 272, 3) := by decide +kernel
theorem dX12_caseAt_26 : decode cX12_caseAt 26 = .ok (.ireturn, 1) := by decide +kernel
theorem hd_X12_caseAt : yX12_caseAt.cls = RX12 ∧ yX12_caseAt.cls ≠ "java/lang/invoke/MethodHandle" ∧ yX12_caseAt.cls ≠ "java/lang/invoke/VarHandle" ∧ (parseMethodDescriptor yX12_caseAt.desc).map (fun d => d.parameters.length) = some 3 := by decide +kernel
theorem hs_X12_caseAt : yX12_caseAt.cls ≠ "java/lang/invoke/MethodHandle" ∧ yX12_caseAt.cls ≠ "java/lang/invoke/VarHandle" ∧ (parseMethodDescriptor yX12_caseAt.desc).map (fun d => d.parameters.length) = some 3 := by decide +kernel
set_option maxHeartbeats 4000000 in
set_option maxRecDepth 100000 in
theorem k_X12_caseAt (l : Launch) (hls : l.stackTraces = false) (E : Ev) (K : Kd) (z : Nat) (o : Nat) (a_1 : Int32) (a_2 : Int32) (a_3 : Int32) (w : Wd) (ho : K o = some (10, 0)) {r : Int32 ⊕ Nat} {w' : Wd} (hf : f_X12_caseAt K o a_1 a_2 a_3 w = some (r, w')) : vx_Met l yX12_caseAt (Cond.code yX12_caseAt cX12_caseAt 4 (Option.some Jvm.ClassFile.FieldType.int) :: bt) ({ frames := 7, cells := 3, slots := 18, locals := 112 } : Room) (va_Pc [rv E (some o), .int a_1, .int a_2, .int a_3] (HB E K w z)) (XI E K z w' r) (XX E K w' r) 3 18 (hA E) := by
  refine vx_ofW (cc := cX12_caseAt) (maxL := 4) (ret := (Option.some Jvm.ClassFile.FieldType.int)) (by decide) rfl ?_
  intro p e s m args below meth c s₁ B hml hout hv
  obtain ⟨rfl, hz, hP, hKs, hT, hb0⟩ := hv
  have C : CX p l e s m _ meth c cX12_caseAt 4 RX12 (Option.some Jvm.ClassFile.FieldType.int) E := ⟨B.exec, B.bytes, hml, findClass_of_methodNamed B.named, fun w h => atoms_spec (ws := Cond.code yX12_caseAt cX12_caseAt 4 (Option.some Jvm.ClassFile.FieldType.int) :: bt) B.pre w (List.mem_cons_of_mem _ h), hKs, hT, by rw [hz]; exact hb0, B.notSynchronized, B.returns⟩
  have hH : HQ E K z w s s.heap [] := ⟨hP, va_S.rf, hz⟩
  obtain ⟨hx, hb, hml, hown, hts, hKs, hT, hb0, hlocks, hret⟩ := id C
  have hl := lv_entry [rv E (some o), .int a_1, .int a_2, .int a_3] (n := 4) (by simp [lg_len_nil, lg_len_i, lg_len_j, lg_len_q])
  rw [lg_entry_eq]
  generalize (lg_sl [rv E (some o), .int a_1, .int a_2, .int a_3] ++ List.replicate (4 - (lg_sl [rv E (some o), .int a_1, .int a_2, .int a_3]).length) Slot.unset).toArray = ls at hl ⊢
  replace hl : lv_has ls 4 [(0, rv E (some o)), (1, .int a_1), (2, .int a_2), (3, .int a_3)] := by simpa only [lv_args, cat_q, cat_i, cat_j, reduceIte, Nat.reduceEqDiff, Nat.reduceAdd, Nat.zero_add] using hl
  generalize s.heap = H at hH ⊢
  unfold f_X12_caseAt at hf
  refine hl_aload_n hx hb dX12_caseAt_0 rfl (lv_at hl 0 rfl) ?_
  refine lv_iconst (v := 0) hx hb dX12_caseAt_1 (by decide) ?_
  refine lv_iload_n hx hb dX12_caseAt_2 rfl (lv_at hl 1 rfl) ?_
  obtain ⟨q1, hq1, hf⟩ := bnd hf
  refine hxV_v hx hb hml hown hts hKs hT hb0 hH (As := [.int 0, .int a_1]) (rest := []) (k_X12_requireExisting l hls E K H.size o 0 a_1 w ho hq1) (gV m5_91 m5_93 ms_37 m1_1 m5_94) hd_X12_requireExisting ⟨Nat.le_of_ble_eq_true rfl, Nat.le_of_ble_eq_true rfl, rfl, rfl⟩ rfl ho rfl rfl rfl hl.1 rfl rc0 rfl dX12_caseAt_3 ⟨Nat.le_of_ble_eq_true rfl, Nat.le_of_ble_eq_true rfl⟩ ⟨Nat.le_of_ble_eq_true rfl, Nat.le_of_ble_eq_true rfl⟩ hout hlocks (fun x hx9 => (fun h9 => ⟨(congrArg Prod.fst h9).symm, (congrArg Prod.snd h9).symm⟩) (Option.some.inj ((xk_inr hx9).symm.trans hf))) (fun v2 hv2 H locs hH => ?_)
  replace hf := (xk_inl hv2).symm.trans hf
  refine hl_aload_n hx hb dX12_caseAt_6 rfl (lv_at hl 0 rfl) ?_
  refine lv_iload_n hx hb dX12_caseAt_7 rfl (lv_at hl 2 rfl) ?_
  obtain ⟨q3, hq3, hf⟩ := bnd hf
  refine hxV_v hx hb hml hown hts hKs hT hb0 hH (As := [.int a_2]) (rest := []) (k_X12_requireDay l hls E K H.size o a_2 q1.2 ho hq3) (gV m5_55 m5_57 ms_34 m1_1 m5_58) hd_X12_requireDay ⟨Nat.le_of_ble_eq_true rfl, Nat.le_of_ble_eq_true rfl, rfl, rfl⟩ rfl ho rfl rfl rfl hl.1 rfl rc0 rfl dX12_caseAt_8 ⟨Nat.le_of_ble_eq_true rfl, Nat.le_of_ble_eq_true rfl⟩ ⟨Nat.le_of_ble_eq_true rfl, Nat.le_of_ble_eq_true rfl⟩ hout hlocks (fun x hx9 => (fun h9 => ⟨(congrArg Prod.fst h9).symm, (congrArg Prod.snd h9).symm⟩) (Option.some.inj ((xk_inr hx9).symm.trans hf))) (fun v4 hv4 H locs hH => ?_)
  replace hf := (xk_inl hv4).symm.trans hf
  refine hl_aload_n hx hb dX12_caseAt_11 rfl (lv_at hl 0 rfl) ?_
  refine lv_iload_n hx hb dX12_caseAt_12 rfl (lv_at hl 3 rfl) ?_
  obtain ⟨q5, hq5, hf⟩ := bnd hf
  refine hxV_v hx hb hml hown hts hKs hT hb0 hH (As := [.int a_3]) (rest := []) (k_X12_requireSlot l hls E K H.size o a_3 q3.2 ho hq5) (gV m5_169 m5_171 ms_38 m1_1 m5_172) hd_X12_requireSlot ⟨Nat.le_of_ble_eq_true rfl, Nat.le_of_ble_eq_true rfl, rfl, rfl⟩ rfl ho rfl rfl rfl hl.1 rfl rc0 rfl dX12_caseAt_13 ⟨Nat.le_of_ble_eq_true rfl, Nat.le_of_ble_eq_true rfl⟩ ⟨Nat.le_of_ble_eq_true rfl, Nat.le_of_ble_eq_true rfl⟩ hout hlocks (fun x hx9 => (fun h9 => ⟨(congrArg Prod.fst h9).symm, (congrArg Prod.snd h9).symm⟩) (Option.some.inj ((xk_inr hx9).symm.trans hf))) (fun v6 hv6 H locs hH => ?_)
  replace hf := (xk_inl hv6).symm.trans hf
  refine hl_aload_n hx hb dX12_caseAt_16 rfl (lv_at hl 0 rfl) ?_
  refine g12_5 hx hb hts hown hKs hH rfl ho m2_224 dX12_caseAt_17 ?_
  refine lv_iload_n hx hb dX12_caseAt_20 rfl (lv_at hl 1 rfl) ?_
  refine lv_iload_n hx hb dX12_caseAt_21 rfl (lv_at hl 2 rfl) ?_
  refine lv_iload_n hx hb dX12_caseAt_22 rfl (lv_at hl 3 rfl) ?_
  obtain ⟨a7, ha7, hf⟩ := bnd hf
  replace ha7 := chk_some ha7
  obtain ⟨q8, hq8, hf⟩ := bnd hf
  refine hcV_i hx hb hml hown hts hKs hT hb0 hH (As := [.int a_1, .int a_2, .int a_3]) (rest := []) (k_X10_caseTaking l E K H.size a7 a_1 a_2 a_3 q5.2 ha7.2 hq8) (gV m5_173 m5_174 m5_175 m1_12 m5_176) hd_X10_caseTaking ⟨Nat.le_of_ble_eq_true rfl, Nat.le_of_ble_eq_true rfl, rfl, rfl⟩ ha7.1 ha7.2 rfl rfl rfl hl.1 rfl rc0 rfl dX12_caseAt_23 ⟨Nat.le_of_ble_eq_true rfl, Nat.le_of_ble_eq_true rfl⟩ (fun H locs hH => ?_)
  exact hx_iret hx hb (Nat.le_of_ble_eq_true rfl) (Nat.le_of_ble_eq_true rfl) hret hf hH hlocks dX12_caseAt_26

theorem dX12_urgent_0 : decode cX12_urgent 0 = .ok (.aload_n 0, 1) := by decide +kernel
theorem dX12_urgent_1 : decode cX12_urgent 1 = .ok (.getfield 35, 3) := by decide +kernel
theorem dX12_urgent_4 : decode cX12_urgent 4 = .ok (.aload_n 0, 1) := by decide +kernel
theorem dX12_urgent_5 : decode cX12_urgent 5 = .ok (.getfield 63, 3) := by decide +kernel
theorem dX12_urgent_8 : decode cX12_urgent 8 = .ok (.invokevirtual 299, 3) := by decide +kernel
theorem dX12_urgent_11 : decode cX12_urgent 11 = .ok (.istore_n 2, 1) := by decide +kernel
theorem dX12_urgent_12 : decode cX12_urgent 12 = .ok (.iload_n 1, 1) := by decide +kernel
theorem dX12_urgent_13 : decode cX12_urgent 13 = .ok (.ifCond .lt 8, 3) := by decide +kernel
theorem dX12_urgent_16 : decode cX12_urgent 16 = .ok (.iload_n 1, 1) := by decide +kernel
theorem dX12_urgent_17 : decode cX12_urgent 17 = .ok (.iload_n 2, 1) := by decide +kernel
theorem dX12_urgent_18 : decode cX12_urgent 18 = .ok (.if_icmp .lt 11, 3) := by decide +kernel
theorem dX12_urgent_21 : decode cX12_urgent 21 = .ok (.new 303, 3) := by decide +kernel
theorem dX12_urgent_24 : decode cX12_urgent 24 = .ok (.dup, 1) := by decide +kernel
theorem dX12_urgent_25 : decode cX12_urgent 25 = .ok (.invokespecial 305, 3) := by decide +kernel
theorem dX12_urgent_28 : decode cX12_urgent 28 = .ok (.athrow, 1) := by decide +kernel
theorem dX12_urgent_29 : decode cX12_urgent 29 = .ok (.aload_n 0, 1) := by decide +kernel
theorem dX12_urgent_30 : decode cX12_urgent 30 = .ok (.getfield 63, 3) := by decide +kernel
theorem dX12_urgent_33 : decode cX12_urgent 33 = .ok (.iload_n 1, 1) := by decide +kernel
theorem dX12_urgent_34 : decode cX12_urgent 34 = .ok (.iaload, 1) := by decide +kernel
theorem dX12_urgent_35 : decode cX12_urgent 35 = .ok (.ireturn, 1) := by decide +kernel
theorem hd_X12_urgent : yX12_urgent.cls = RX12 ∧ yX12_urgent.cls ≠ "java/lang/invoke/MethodHandle" ∧ yX12_urgent.cls ≠ "java/lang/invoke/VarHandle" ∧ (parseMethodDescriptor yX12_urgent.desc).map (fun d => d.parameters.length) = some 1 := by decide +kernel
theorem hs_X12_urgent : yX12_urgent.cls ≠ "java/lang/invoke/MethodHandle" ∧ yX12_urgent.cls ≠ "java/lang/invoke/VarHandle" ∧ (parseMethodDescriptor yX12_urgent.desc).map (fun d => d.parameters.length) = some 1 := by decide +kernel
set_option maxHeartbeats 4000000 in
set_option maxRecDepth 100000 in
theorem k_X12_urgent (l : Launch) (hls : l.stackTraces = false) (E : Ev) (K : Kd) (z : Nat) (o : Nat) (a_1 : Int32) (w : Wd) (ho : K o = some (10, 0)) {r : Int32 ⊕ Nat} {w' : Wd} (hf : f_X12_urgent K o a_1 w = some (r, w')) : vx_Met l yX12_urgent (Cond.code yX12_urgent cX12_urgent 3 (Option.some Jvm.ClassFile.FieldType.int) :: bt) ({ frames := 6, cells := 1, slots := 6, locals := 111 } : Room) (va_Pc [rv E (some o), .int a_1] (HB E K w z)) (XI E K z w' r) (XX E K w' r) 1 6 (hA E) := by
  refine vx_ofW (cc := cX12_urgent) (maxL := 3) (ret := (Option.some Jvm.ClassFile.FieldType.int)) (by decide) rfl ?_
  intro p e s m args below meth c s₁ B hml hout hv
  obtain ⟨rfl, hz, hP, hKs, hT, hb0⟩ := hv
  have C : CX p l e s m _ meth c cX12_urgent 3 RX12 (Option.some Jvm.ClassFile.FieldType.int) E := ⟨B.exec, B.bytes, hml, findClass_of_methodNamed B.named, fun w h => atoms_spec (ws := Cond.code yX12_urgent cX12_urgent 3 (Option.some Jvm.ClassFile.FieldType.int) :: bt) B.pre w (List.mem_cons_of_mem _ h), hKs, hT, by rw [hz]; exact hb0, B.notSynchronized, B.returns⟩
  have hH : HQ E K z w s s.heap [] := ⟨hP, va_S.rf, hz⟩
  obtain ⟨hx, hb, hml, hown, hts, hKs, hT, hb0, hlocks, hret⟩ := id C
  have hl := lv_entry [rv E (some o), .int a_1] (n := 3) (by simp [lg_len_nil, lg_len_i, lg_len_j, lg_len_q])
  rw [lg_entry_eq]
  generalize (lg_sl [rv E (some o), .int a_1] ++ List.replicate (3 - (lg_sl [rv E (some o), .int a_1]).length) Slot.unset).toArray = ls at hl ⊢
  replace hl : lv_has ls 3 [(0, rv E (some o)), (1, .int a_1)] := by simpa only [lv_args, cat_q, cat_i, cat_j, reduceIte, Nat.reduceEqDiff, Nat.reduceAdd, Nat.zero_add] using hl
  generalize s.heap = H at hH ⊢
  unfold f_X12_urgent at hf
  refine hl_aload_n hx hb dX12_urgent_0 rfl (lv_at hl 0 rfl) ?_
  refine g12_5 hx hb hts hown hKs hH rfl ho m2_224 dX12_urgent_1 ?_
  refine hl_aload_n hx hb dX12_urgent_4 rfl (lv_at hl 0 rfl) ?_
  refine g12_13 hx hb hts hown hKs hH rfl ho m2_232 dX12_urgent_5 ?_
  obtain ⟨a1, ha1, hf⟩ := bnd hf
  replace ha1 := chk_some ha1
  obtain ⟨q2, hq2, hf⟩ := bnd hf
  refine hcV_i hx hb hml hown hts hKs hT hb0 hH (As := [rv E (wR w 1213 o)]) (rest := []) (k_X10_sortWaiting l E K H.size a1 (wR w 1213 o) w ha1.2 hq2) (gV m6_1 m4_101 m4_102 m1_12 m4_103) hd_X10_sortWaiting ⟨Nat.le_of_ble_eq_true rfl, Nat.le_of_ble_eq_true rfl, rfl, rfl⟩ ha1.1 ha1.2 rfl rfl rfl hl.1 rfl rc0 rfl dX12_urgent_8 ⟨Nat.le_of_ble_eq_true rfl, Nat.le_of_ble_eq_true rfl⟩ (fun H locs hH => ?_)
  refine lv_istore_n (lv' := [(2, .int (q2.1)), (0, rv E (some o)), (1, .int a_1)]) hx hb dX12_urgent_11 rfl hl (by decide) rfl (fun ls hl => ?_)
  refine lv_iload_n hx hb dX12_urgent_12 rfl (lv_at hl 2 rfl) ?_
  refine lv_if_lt (tgt := 21) hx hb dX12_urgent_13 (by decide) (fun c3 => ?_) (fun c3 => ?_)
  · replace hf := (if_pos c3).symm.trans hf
    exact hx_throw hx hb hls (code := 4) hml hl.1 hown hts hKs hT hb0 hH (by decide) rfl m6_2 m1_30 hat_RX12_305 dX12_urgent_21 dX12_urgent_24 dX12_urgent_25 dX12_urgent_28 hout (Nat.le_of_ble_eq_true rfl) rc0 (Nat.le_of_ble_eq_true rfl) (Nat.le_of_ble_eq_true rfl) (Nat.le_of_ble_eq_true rfl) hlocks hf (Nat.le_of_ble_eq_true rfl) (Nat.le_of_ble_eq_true rfl)
  · replace hf := (if_neg c3).symm.trans hf
    refine lv_iload_n hx hb dX12_urgent_16 rfl (lv_at hl 2 rfl) ?_
    refine lv_iload_n hx hb dX12_urgent_17 rfl (lv_at hl 0 rfl) ?_
    refine lv_icmp_lt (tgt := 29) hx hb dX12_urgent_18 (by decide) (fun c4 => ?_) (fun c4 => ?_)
    · replace hf := (if_pos c4).symm.trans hf
      refine hl_aload_n hx hb dX12_urgent_29 rfl (lv_at hl 1 rfl) ?_
      refine g12_13 hx hb hts hown hKs hH rfl ho m2_232 dX12_urgent_30 ?_
      refine lv_iload_n hx hb dX12_urgent_33 rfl (lv_at hl 2 rfl) ?_
      obtain ⟨a5, ha5, hf⟩ := bnd hf
      replace ha5 := cha_some ha5
      obtain ⟨j6, hj6, hf⟩ := bnd hf
      refine hw_iald hx hb hKs hH ha5.1 ha5.2 hj6 dX12_urgent_34 ?_
      exact hx_iret hx hb (Nat.le_of_ble_eq_true rfl) (Nat.le_of_ble_eq_true rfl) hret hf hH hlocks dX12_urgent_35
    · replace hf := (if_neg c4).symm.trans hf
      exact hx_throw hx hb hls (code := 4) hml hl.1 hown hts hKs hT hb0 hH (by decide) rfl m6_2 m1_30 hat_RX12_305 dX12_urgent_21 dX12_urgent_24 dX12_urgent_25 dX12_urgent_28 hout (Nat.le_of_ble_eq_true rfl) rc0 (Nat.le_of_ble_eq_true rfl) (Nat.le_of_ble_eq_true rfl) (Nat.le_of_ble_eq_true rfl) hlocks hf (Nat.le_of_ble_eq_true rfl) (Nat.le_of_ble_eq_true rfl)

theorem dX12_slack_0 : decode cX12_slack 0 = .ok (.aload_n 0, 1) := by decide +kernel
theorem dX12_slack_1 : decode cX12_slack 1 = .ok (.iconst 3, 1) := by decide +kernel
theorem dX12_slack_2 : decode cX12_slack 2 = .ok (.iload_n 1, 1) := by decide +kernel
theorem dX12_slack_3 : decode cX12_slack 3 = .ok (.invokevirtual 175, 3) := by decide +kernel
theorem dX12_slack_6 : decode cX12_slack 6 = .ok (.aload_n 0, 1) := by decide +kernel
theorem dX12_slack_7 : decode cX12_slack 7 = .ok (.getfield 35, 3) := by decide +kernel
theorem dX12_slack_10 : decode cX12_slack 10 = .ok (.iload_n 1, 1) := by decide +kernel
theorem dX12_slack_11 : decode cX12_slack 11 = .ok (.invokevirtual 306, 3) := by decide +kernel
theorem dX12_slack_14 : decode cX12_slack 14 = .ok (.ireturn, 1) := by decide +kernel
theorem hd_X12_slack : yX12_slack.cls = RX12 ∧ yX12_slack.cls ≠ "java/lang/invoke/MethodHandle" ∧ yX12_slack.cls ≠ "java/lang/invoke/VarHandle" ∧ (parseMethodDescriptor yX12_slack.desc).map (fun d => d.parameters.length) = some 1 := by decide +kernel
theorem hs_X12_slack : yX12_slack.cls ≠ "java/lang/invoke/MethodHandle" ∧ yX12_slack.cls ≠ "java/lang/invoke/VarHandle" ∧ (parseMethodDescriptor yX12_slack.desc).map (fun d => d.parameters.length) = some 1 := by decide +kernel
set_option maxHeartbeats 4000000 in
set_option maxRecDepth 100000 in
theorem k_X12_slack (l : Launch) (hls : l.stackTraces = false) (E : Ev) (K : Kd) (z : Nat) (o : Nat) (a_1 : Int32) (w : Wd) (ho : K o = some (10, 0)) {r : Int32 ⊕ Nat} {w' : Wd} (hf : f_X12_slack K o a_1 w = some (r, w')) : vx_Met l yX12_slack (Cond.code yX12_slack cX12_slack 2 (Option.some Jvm.ClassFile.FieldType.int) :: bt) ({ frames := 7, cells := 1, slots := 6, locals := 112 } : Room) (va_Pc [rv E (some o), .int a_1] (HB E K w z)) (XI E K z w' r) (XX E K w' r) 1 6 (hA E) := by
  refine vx_ofW (cc := cX12_slack) (maxL := 2) (ret := (Option.some Jvm.ClassFile.FieldType.int)) (by decide) rfl ?_
  intro p e s m args below meth c s₁ B hml hout hv
  obtain ⟨rfl, hz, hP, hKs, hT, hb0⟩ := hv
  have C : CX p l e s m _ meth c cX12_slack 2 RX12 (Option.some Jvm.ClassFile.FieldType.int) E := ⟨B.exec, B.bytes, hml, findClass_of_methodNamed B.named, fun w h => atoms_spec (ws := Cond.code yX12_slack cX12_slack 2 (Option.some Jvm.ClassFile.FieldType.int) :: bt) B.pre w (List.mem_cons_of_mem _ h), hKs, hT, by rw [hz]; exact hb0, B.notSynchronized, B.returns⟩
  have hH : HQ E K z w s s.heap [] := ⟨hP, va_S.rf, hz⟩
  obtain ⟨hx, hb, hml, hown, hts, hKs, hT, hb0, hlocks, hret⟩ := id C
  have hl := lv_entry [rv E (some o), .int a_1] (n := 2) (by simp [lg_len_nil, lg_len_i, lg_len_j, lg_len_q])
  rw [lg_entry_eq]
  generalize (lg_sl [rv E (some o), .int a_1] ++ List.replicate (2 - (lg_sl [rv E (some o), .int a_1]).length) Slot.unset).toArray = ls at hl ⊢
  replace hl : lv_has ls 2 [(0, rv E (some o)), (1, .int a_1)] := by simpa only [lv_args, cat_q, cat_i, cat_j, reduceIte, Nat.reduceEqDiff, Nat.reduceAdd, Nat.zero_add] using hl
  generalize s.heap = H at hH ⊢
  unfold f_X12_slack at hf
  refine hl_aload_n hx hb dX12_slack_0 rfl (lv_at hl 0 rfl) ?_
  refine lv_iconst (v := 3) hx hb dX12_slack_1 (by decide) ?_
  refine lv_iload_n hx hb dX12_slack_2 rfl (lv_at hl 1 rfl) ?_
  obtain ⟨q1, hq1, hf⟩ := bnd hf
  refine hxV_v hx hb hml hown hts hKs hT hb0 hH (As := [.int 3, .int a_1]) (rest := []) (k_X12_requireExisting l hls E K H.size o 3 a_1 w ho hq1) (gV m5_91 m5_93 ms_37 m1_1 m5_94) hd_X12_requireExisting ⟨Nat.le_of_ble_eq_true rfl, Nat.le_of_ble_eq_true rfl, rfl, rfl⟩ rfl ho rfl rfl rfl hl.1 rfl rc0 rfl dX12_slack_3 ⟨Nat.le_of_ble_eq_true rfl, Nat.le_of_ble_eq_true rfl⟩ ⟨Nat.le_of_ble_eq_true rfl, Nat.le_of_ble_eq_true rfl⟩ hout hlocks (fun x hx9 => (fun h9 => ⟨(congrArg Prod.fst h9).symm, (congrArg Prod.snd h9).symm⟩) (Option.some.inj ((xk_inr hx9).symm.trans hf))) (fun v2 hv2 H locs hH => ?_)
  replace hf := (xk_inl hv2).symm.trans hf
  refine hl_aload_n hx hb dX12_slack_6 rfl (lv_at hl 0 rfl) ?_
  refine g12_5 hx hb hts hown hKs hH rfl ho m2_224 dX12_slack_7 ?_
  refine lv_iload_n hx hb dX12_slack_10 rfl (lv_at hl 1 rfl) ?_
  obtain ⟨a3, ha3, hf⟩ := bnd hf
  replace ha3 := chk_some ha3
  obtain ⟨q4, hq4, hf⟩ := bnd hf
  refine hcV_i hx hb hml hown hts hKs hT hb0 hH (As := [.int a_1]) (rest := []) (k_X10_slackOf l E K H.size a3 a_1 q1.2 ha3.2 hq4) (gV m4_62 m4_63 m4_64 m1_12 m4_65) hd_X10_slackOf ⟨Nat.le_of_ble_eq_true rfl, Nat.le_of_ble_eq_true rfl, rfl, rfl⟩ ha3.1 ha3.2 rfl rfl rfl hl.1 rfl rc0 rfl dX12_slack_11 ⟨Nat.le_of_ble_eq_true rfl, Nat.le_of_ble_eq_true rfl⟩ (fun H locs hH => ?_)
  exact hx_iret hx hb (Nat.le_of_ble_eq_true rfl) (Nat.le_of_ble_eq_true rfl) hret hf hH hlocks dX12_slack_14
end
