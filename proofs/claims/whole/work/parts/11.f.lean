/-! The methods as functions over the memory. -/
def f_J1_charAt_3b067 (K : Kd) (a_1 : Int32) (w : Wd) : Option (Int32 × Wd) :=
  (f_J0_checkIndex_df160 K a_1 (101 : Int32) w).bind fun q1 =>
  (ixa a_1 101).bind fun j2 =>
  some ((i2cI ((wordsB.getD j2 0) &&& 255)), q1)

def f_X12_count (K : Kd) (o : Nat) (a_1 : Int32) (w : Wd) : Option (Int32 × Wd) :=
  if a_1 < 0 ∨ 13 < a_1 then
    (some ((-1), w))
  else if a_1 = 0 then
    ((chk K 9 (wR w 1205 o)).bind fun a3 =>
    (chk K 8 (wR w 1000 a3)).bind fun a4 =>
    (f_X9_size K a4 0 w).bind fun q5 =>
    some (q5.1, q5.2))
  else if a_1 = 1 then
    ((chk K 9 (wR w 1205 o)).bind fun a7 =>
    (chk K 8 (wR w 1000 a7)).bind fun a8 =>
    (f_X9_size K a8 1 w).bind fun q9 =>
    some (q9.1, q9.2))
  else if a_1 = 2 then
    ((chk K 9 (wR w 1205 o)).bind fun a11 =>
    (chk K 8 (wR w 1000 a11)).bind fun a12 =>
    (f_X9_size K a12 2 w).bind fun q13 =>
    some (q13.1, q13.2))
  else if a_1 = 3 then
    ((chk K 9 (wR w 1205 o)).bind fun a15 =>
    (chk K 8 (wR w 1000 a15)).bind fun a16 =>
    (f_X9_size K a16 3 w).bind fun q17 =>
    some (q17.1, q17.2))
  else if a_1 = 4 then
    ((chk K 9 (wR w 1205 o)).bind fun a19 =>
    (chk K 1 (wR w 1002 a19)).bind fun a20 =>
    some ((wI w 201 a20), w))
  else if a_1 = 5 then
    ((chk K 9 (wR w 1205 o)).bind fun a22 =>
    (f_X10_countBars K a22 w).bind fun q23 =>
    some (q23.1, q23.2))
  else if a_1 = 6 then
    ((chk K 9 (wR w 1205 o)).bind fun a25 =>
    (chk K 8 (wR w 1000 a25)).bind fun a26 =>
    (f_X9_countConflicts K a26 w).bind fun q27 =>
    some (q27.1, q27.2))
  else if a_1 = 7 then
    ((chk K 9 (wR w 1205 o)).bind fun a29 =>
    some ((wI w 1001 a29), w))
  else if a_1 = 8 then
    ((chk K 9 (wR w 1205 o)).bind fun a31 =>
    (chk K 8 (wR w 1000 a31)).bind fun a32 =>
    some ((wI w 913 a32), w))
  else if a_1 = 9 then
    (some ((wI w 1210 o), w))
  else if a_1 = 10 then
    ((chk K 9 (wR w 1205 o)).bind fun a35 =>
    (f_X10_countPhase K a35 0 w).bind fun q36 =>
    some (q36.1, q36.2))
  else if a_1 = 11 then
    ((chk K 9 (wR w 1205 o)).bind fun a38 =>
    (f_X10_countPhase K a38 1 w).bind fun q39 =>
    some (q39.1, q39.2))
  else if a_1 = 12 then
    ((chk K 9 (wR w 1205 o)).bind fun a41 =>
    (f_X10_countPhase K a41 2 w).bind fun q42 =>
    some (q42.1, q42.2))
  else if a_1 = 13 then
    ((chk K 9 (wR w 1205 o)).bind fun a44 =>
    (f_X10_countPhase K a44 3 w).bind fun q45 =>
    some (q45.1, q45.2))
  else none

def f_X12_find (K : Kd) (o : Nat) (a_1 : Int32) (w : Wd) : Option ((Int32 ⊕ Nat) × Wd) :=
  if a_1 < 0 then
    (some (.inr 2, w))
  else
    (if a_1 < 4 then
      ((f_X12_bufferedName K o w).bind fun q3 =>
      (some (sI q3.2 1201 o 0)).bind fun w4 =>
      if (lg_cmp q3.1 0) = 0 then
        (some (.inl (-1), w4))
      else
        ((chk K 9 (wR w4 1205 o)).bind fun a6 =>
        (chk K 8 (wR w4 1000 a6)).bind fun a7 =>
        (cha K 26 (wR w4 900 a7)).bind fun a8 =>
        (ixa a_1 a8.2).bind fun j9 =>
        (chk K 3 (aR w4 a8.1 j9)).bind fun a10 =>
        (f_X4_indexOf K a10 q3.1 w4).bind fun q11 =>
        some (.inl q11.1, q11.2)))
    else
      (some (.inr 2, w)))

def f_X12_witness (K : Kd) (o : Nat) (a_1 : Int32) (a_2 : Int32) (w : Wd) : Option ((Int32 ⊕ Nat) × Wd) :=
  (f_X12_requireExisting K o 2 a_1 w).bind fun q1 =>
  xk q1 fun _ =>
  if a_2 < 0 ∨ 4 < a_2 then
    (some (.inr 1, q1.2))
  else if a_2 = 0 then
    ((chk K 9 (wR q1.2 1205 o)).bind fun a5 =>
    (chk K 8 (wR q1.2 1000 a5)).bind fun a6 =>
    (cha K 20 (wR q1.2 905 a6)).bind fun a7 =>
    (ixa a_1 a7.2).bind fun j8 =>
    some (.inl (aI q1.2 a7.1 j8), q1.2))
  else if a_2 = 1 then
    ((chk K 9 (wR q1.2 1205 o)).bind fun a10 =>
    (cha K 20 (wR q1.2 1003 a10)).bind fun a11 =>
    (ixa a_1 a11.2).bind fun j12 =>
    some (.inl (aI q1.2 a11.1 j12), q1.2))
  else if a_2 = 2 then
    ((chk K 9 (wR q1.2 1205 o)).bind fun a14 =>
    (chk K 8 (wR q1.2 1000 a14)).bind fun a15 =>
    (cha K 20 (wR q1.2 907 a15)).bind fun a16 =>
    (ixa a_1 a16.2).bind fun j17 =>
    some (.inl (aI q1.2 a16.1 j17), q1.2))
  else if a_2 = 3 then
    ((chk K 9 (wR q1.2 1205 o)).bind fun a19 =>
    (chk K 8 (wR q1.2 1000 a19)).bind fun a20 =>
    (cha K 20 (wR q1.2 908 a20)).bind fun a21 =>
    (ixa a_1 a21.2).bind fun j22 =>
    some (.inl (aI q1.2 a21.1 j22), q1.2))
  else if a_2 = 4 then
    ((chk K 9 (wR q1.2 1205 o)).bind fun a24 =>
    (f_X10_countNeeding K a24 a_1 q1.2).bind fun q25 =>
    some (.inl q25.1, q25.2))
  else none

def f_X12_isOff (K : Kd) (o : Nat) (a_1 : Int32) (a_2 : Int32) (w : Wd) : Option ((Bool ⊕ Nat) × Wd) :=
  (f_X12_requireExisting K o 1 a_1 w).bind fun q1 =>
  xk q1 fun _ =>
  (f_X12_requireDay K o a_2 q1.2).bind fun q3 =>
  xk q3 fun _ =>
  (chk K 9 (wR q3.2 1205 o)).bind fun a5 =>
  (chk K 8 (wR q3.2 1000 a5)).bind fun a6 =>
  (f_X9_isAway K a6 a_1 a_2 q3.2).bind fun q7 =>
  some (.inl q7.1, q7.2)

def f_X12_isBarred (K : Kd) (o : Nat) (a_1 : Int32) (a_2 : Int32) (w : Wd) : Option ((Bool ⊕ Nat) × Wd) :=
  (f_X12_requireExisting K o 1 a_1 w).bind fun q1 =>
  xk q1 fun _ =>
  (f_X12_requireExisting K o 3 a_2 q1.2).bind fun q3 =>
  xk q3 fun _ =>
  (chk K 9 (wR q3.2 1205 o)).bind fun a5 =>
  (f_X10_barredOfficers K a5 a_2 q3.2).bind fun q6 =>
  (f_X12_has K q6.1 a_1 q6.2).bind fun q7 =>
  some (.inl q7.1, q7.2)

def f_X12_load (K : Kd) (o : Nat) (a_1 : Int32) (w : Wd) : Option ((Int32 ⊕ Nat) × Wd) :=
  (f_X12_requireExisting K o 1 a_1 w).bind fun q1 =>
  xk q1 fun _ =>
  (chk K 9 (wR q1.2 1205 o)).bind fun a3 =>
  (f_X10_loadOf K a3 a_1 q1.2).bind fun q4 =>
  some (.inl q4.1, q4.2)

def f_X12_matter (K : Kd) (o : Nat) (a_1 : Int32) (a_2 : Int32) (w : Wd) : Option ((Int32 ⊕ Nat) × Wd) :=
  (f_X12_requireExisting K o 3 a_1 w).bind fun q1 =>
  xk q1 fun _ =>
  (chk K 9 (wR q1.2 1205 o)).bind fun a3 =>
  (chk K 8 (wR q1.2 1000 a3)).bind fun a4 =>
  (cha K 25 (wR q1.2 909 a4)).bind fun a5 =>
  (ixa a_1 a5.2).bind fun j6 =>
  (cha K 27 (wR q1.2 1005 a3)).bind fun a7 =>
  (ixa a_1 a7.2).bind fun j8 =>
  if a_2 < 0 ∨ 9 < a_2 then
    (some (.inr 1, q1.2))
  else if a_2 = 0 then
    ((chk K 2 (aR q1.2 a5.1 j6)).bind fun a11 =>
    some (.inl (wI q1.2 300 a11), q1.2))
  else if a_2 = 1 then
    ((chk K 2 (aR q1.2 a5.1 j6)).bind fun a13 =>
    some (.inl (wI q1.2 301 a13), q1.2))
  else if a_2 = 2 then
    ((chk K 2 (aR q1.2 a5.1 j6)).bind fun a15 =>
    some (.inl (wI q1.2 302 a15), q1.2))
  else if a_2 = 3 then
    ((chk K 6 (aR q1.2 a7.1 j8)).bind fun a17 =>
    some (.inl (wI q1.2 701 a17), q1.2))
  else if a_2 = 4 then
    ((f_X10_limitDay K a3 a_1 q1.2).bind fun q19 =>
    some (.inl q19.1, q19.2))
  else if a_2 = 5 then
    ((chk K 6 (aR q1.2 a7.1 j8)).bind fun a21 =>
    some (.inl (wI q1.2 700 a21), q1.2))
  else if a_2 = 6 then
    ((chk K 2 (aR q1.2 a5.1 j6)).bind fun a23 =>
    if (b2i (wZ q1.2 303 a23)) = 0 then
      (some (.inl 0, q1.2))
    else
      (some (.inl 1, q1.2)))
  else if a_2 = 7 then
    ((chk K 6 (aR q1.2 a7.1 j8)).bind fun a26 =>
    some (.inl (wI q1.2 706 a26), q1.2))
  else if a_2 = 8 then
    ((chk K 2 (aR q1.2 a5.1 j6)).bind fun a28 =>
    (f_J6_bitCount_0f7a4 K (wI q1.2 304 a28) q1.2).bind fun q29 =>
    some (.inl q29.1, q29.2))
  else if a_2 = 9 then
    ((chk K 2 (aR q1.2 a5.1 j6)).bind fun a31 =>
    (f_J6_bitCount_0f7a4 K (wI q1.2 305 a31) q1.2).bind fun q32 =>
    some (.inl q32.1, q32.2))
  else none

def f_X12_hearing (K : Kd) (o : Nat) (a_1 : Int32) (a_2 : Int32) (w : Wd) : Option ((Int32 ⊕ Nat) × Wd) :=
  (f_X12_requireExisting K o 3 a_1 w).bind fun q1 =>
  xk q1 fun _ =>
  (chk K 9 (wR q1.2 1205 o)).bind fun a3 =>
  (cha K 27 (wR q1.2 1005 a3)).bind fun a4 =>
  (ixa a_1 a4.2).bind fun j5 =>
  if a_2 < 0 ∨ 3 < a_2 then
    (some (.inr 1, q1.2))
  else if a_2 = 0 then
    ((chk K 6 (aR q1.2 a4.1 j5)).bind fun a8 =>
    some (.inl (wI q1.2 702 a8), q1.2))
  else if a_2 = 1 then
    ((chk K 6 (aR q1.2 a4.1 j5)).bind fun a10 =>
    some (.inl (wI q1.2 703 a10), q1.2))
  else if a_2 = 2 then
    ((chk K 6 (aR q1.2 a4.1 j5)).bind fun a12 =>
    some (.inl (wI q1.2 704 a12), q1.2))
  else if a_2 = 3 then
    ((chk K 6 (aR q1.2 a4.1 j5)).bind fun a14 =>
    some (.inl (wI q1.2 705 a14), q1.2))
  else none

def f_X12_adjournment (K : Kd) (o : Nat) (a_1 : Int32) (a_2 : Int32) (a_3 : Int32) (w : Wd) : Option ((Int32 ⊕ Nat) × Wd) :=
  (f_X12_requireExisting K o 3 a_1 w).bind fun q1 =>
  xk q1 fun _ =>
  (chk K 9 (wR q1.2 1205 o)).bind fun a3 =>
  (cha K 27 (wR q1.2 1005 a3)).bind fun a4 =>
  (ixa a_1 a4.2).bind fun j5 =>
  if a_2 < 0 then
    (some (.inr 1, q1.2))
  else
    ((chk K 6 (aR q1.2 a4.1 j5)).bind fun a7 =>
    if (wI q1.2 706 a7) ≤ a_2 then
      (some (.inr 1, q1.2))
    else
      (if a_3 < 0 then
        (some (.inr 1, q1.2))
      else
        (if a_3 < 4 then
          ((cha K 20 (wR q1.2 707 a7)).bind fun a11 =>
          (ixa ((a_2 * 4) + a_3) a11.2).bind fun j12 =>
          some (.inl (aI q1.2 a11.1 j12), q1.2))
        else
          (some (.inr 1, q1.2)))))

def f_X12_caseAt (K : Kd) (o : Nat) (a_1 : Int32) (a_2 : Int32) (a_3 : Int32) (w : Wd) : Option ((Int32 ⊕ Nat) × Wd) :=
  (f_X12_requireExisting K o 0 a_1 w).bind fun q1 =>
  xk q1 fun _ =>
  (f_X12_requireDay K o a_2 q1.2).bind fun q3 =>
  xk q3 fun _ =>
  (f_X12_requireSlot K o a_3 q3.2).bind fun q5 =>
  xk q5 fun _ =>
  (chk K 9 (wR q5.2 1205 o)).bind fun a7 =>
  (f_X10_caseTaking K a7 a_1 a_2 a_3 q5.2).bind fun q8 =>
  some (.inl q8.1, q8.2)

def f_X12_urgent (K : Kd) (o : Nat) (a_1 : Int32) (w : Wd) : Option ((Int32 ⊕ Nat) × Wd) :=
  (chk K 9 (wR w 1205 o)).bind fun a1 =>
  (f_X10_sortWaiting K a1 (wR w 1213 o) w).bind fun q2 =>
  if a_1 < 0 then
    (some (.inr 4, q2.2))
  else
    (if a_1 < q2.1 then
      ((cha K 20 (wR q2.2 1213 o)).bind fun a5 =>
      (ixa a_1 a5.2).bind fun j6 =>
      some (.inl (aI q2.2 a5.1 j6), q2.2))
    else
      (some (.inr 4, q2.2)))

def f_X12_slack (K : Kd) (o : Nat) (a_1 : Int32) (w : Wd) : Option ((Int32 ⊕ Nat) × Wd) :=
  (f_X12_requireExisting K o 3 a_1 w).bind fun q1 =>
  xk q1 fun _ =>
  (chk K 9 (wR q1.2 1205 o)).bind fun a3 =>
  (f_X10_slackOf K a3 a_1 q1.2).bind fun q4 =>
  some (.inl q4.1, q4.2)

def f_X12_eligible (K : Kd) (o : Nat) (a_1 : Int32) (w : Wd) : Option ((Int32 ⊕ Nat) × Wd) :=
  (f_X12_requireExisting K o 3 a_1 w).bind fun q1 =>
  xk q1 fun _ =>
  (chk K 9 (wR q1.2 1205 o)).bind fun a3 =>
  (chk K 8 (wR q1.2 1000 a3)).bind fun a4 =>
  (f_X9_size K a4 1 q1.2).bind fun q5 =>
  (f_X12_allOf K q5.1 q5.2).bind fun q6 =>
  (chk K 9 (wR q6.2 1205 o)).bind fun a7 =>
  (f_X10_barredOfficers K a7 a_1 q6.2).bind fun q8 =>
  some (.inl (q6.1 &&& (q8.1 ^^^ (-1))), q8.2)

def f_X12_usage (K : Kd) (o : Nat) (a_1 : Int32) (a_2 : Int32) (a_3 : Int32) (w : Wd) : Option ((UInt32 ⊕ Nat) × Wd) :=
  (f_X12_requireExisting K o 0 a_1 w).bind fun q1 =>
  xk q1 fun _ =>
  (f_X12_requireSpan K o a_2 a_3 q1.2).bind fun q3 =>
  xk q3 fun _ =>
  (chk K 9 (wR q3.2 1205 o)).bind fun a5 =>
  (chk K 8 (wR q3.2 1000 a5)).bind fun a6 =>
  (cha K 20 (wR q3.2 901 a6)).bind fun a7 =>
  (ixa a_1 a7.2).bind fun j8 =>
  (f_J6_bitCount_0f7a4 K (aI q3.2 a7.1 j8) q3.2).bind fun q9 =>
  (chk K 9 (wR q9.2 1205 o)).bind fun a10 =>
  (f_X10_countWorking K a10 a_2 a_3 q9.2).bind fun q11 =>
  if (q9.1 * q11.1) = 0 then
    (some (.inl FP.fconst0, q11.2))
  else
    ((chk K 9 (wR q11.2 1205 o)).bind fun a13 =>
    (f_X10_countTaken K a13 a_1 a_2 a_3 q11.2).bind fun q14 =>
    (grd (n32 (FP.fdiv (FP.i2f q14.1) (FP.i2f (q9.1 * q11.1))) = true)).bind fun _ =>
    some (.inl (FP.fdiv (FP.i2f q14.1) (FP.i2f (q9.1 * q11.1))), q14.2))

def f_X12_pass (K : Kd) (o : Nat) (a_1 : Int32) (w : Wd) : Option ((Int32 ⊕ Nat) × Wd) :=
  (f_X12_requirePassable K o a_1 w).bind fun q1 =>
  xk q1 fun _ =>
  (f_X12_remember K o q1.2).bind fun q3 =>
  (chk K 9 (wR q3 1205 o)).bind fun a4 =>
  (f_X10_passDays K a4 a_1 q3).bind fun q5 =>
  some (.inl q5.1, q5.2)

def f_X12_adjourn (K : Kd) (o : Nat) (a_1 : Int32) (a_2 : Int32) (w : Wd) : Option ((Int32 ⊕ Nat) × Wd) :=
  (f_X12_requireExisting K o 3 a_1 w).bind fun q1 =>
  xk q1 fun _ =>
  (f_X12_requireReason K o a_2 q1.2).bind fun q3 =>
  xk q3 fun _ =>
  (chk K 9 (wR q3.2 1205 o)).bind fun a5 =>
  (cha K 27 (wR q3.2 1005 a5)).bind fun a6 =>
  (ixa a_1 a6.2).bind fun j7 =>
  (chk K 6 (aR q3.2 a6.1 j7)).bind fun a8 =>
  if (wI q3.2 700 a8) = 1 then
    (if (wI q3.2 706 a8) < 5 then
      ((f_X12_remember K o q3.2).bind fun q11 =>
      (chk K 9 (wR q11 1205 o)).bind fun a12 =>
      (f_X10_takeAway K a12 a_1 a_2 q11).bind fun q13 =>
      (chk K 9 (wR q13 1205 o)).bind fun a14 =>
      (f_X10_limitDay K a14 a_1 q13).bind fun q15 =>
      some (.inl q15.1, q15.2))
    else
      (some (.inr 3, q3.2)))
  else
    (some (.inr 3, q3.2))

def f_X12_withdraw_L44 (K : Kd) (o : Nat) (k : Int32 → Int32 → Int32 → Int32 → Wd → Option ((Int32 ⊕ Nat) × Wd)) : Nat → Int32 → Int32 → Int32 → Int32 → Wd → Option ((Int32 ⊕ Nat) × Wd)
  | 0, _, _, _, _, _ => none
  | n + 1, v1_44, v2_44, v3_44, v4_44, w =>
    (chk K 9 (wR w 1205 o)).bind fun a12 =>
    (chk K 8 (wR w 1000 a12)).bind fun a13 =>
    (f_X9_size K a13 3 w).bind fun q14 =>
    if q14.1 ≤ v4_44 then
      (k v1_44 v2_44 v3_44 v4_44 q14.2)
    else
      ((chk K 9 (wR q14.2 1205 o)).bind fun a16 =>
      (cha K 27 (wR q14.2 1005 a16)).bind fun a17 =>
      (ixa v4_44 a17.2).bind fun j18 =>
      (chk K 8 (wR q14.2 1000 a16)).bind fun a19 =>
      (cha K 25 (wR q14.2 909 a19)).bind fun a20 =>
      (ixa v4_44 a20.2).bind fun j21 =>
      (chk K 2 (aR q14.2 a20.1 j21)).bind fun a22 =>
      (f_X12_has K (wI q14.2 304 a22) v1_44 q14.2).bind fun q23 =>
      (chk K 6 (aR q14.2 a17.1 j18)).bind fun a24 =>
      if (wI q23.2 700 a24) = 1 then
        (if (wI q23.2 702 a24) < v2_44 then
          (f_X12_withdraw_L44 K o k n v1_44 v2_44 v3_44 (v4_44 + 1) q23.2)
        else
          (if (b2i q23.1) = 0 then
            (f_X12_withdraw_L44 K o k n v1_44 v2_44 v3_44 (v4_44 + 1) q23.2)
          else
            ((chk K 9 (wR q23.2 1205 o)).bind fun a28 =>
            (f_X10_takeAway K a28 v4_44 0 q23.2).bind fun q29 =>
            f_X12_withdraw_L44 K o k n v1_44 v2_44 (v3_44 + 1) (v4_44 + 1) q29)))
      else
        (f_X12_withdraw_L44 K o k n v1_44 v2_44 v3_44 (v4_44 + 1) q23.2))

def f_X12_withdraw (K : Kd) (o : Nat) (a_1 : Int32) (a_2 : Int32) (w : Wd) : Option ((Int32 ⊕ Nat) × Wd) :=
  (f_X12_requireExisting K o 2 a_1 w).bind fun q1 =>
  xk q1 fun _ =>
  (f_X12_requireComingDay K o a_2 q1.2).bind fun q3 =>
  xk q3 fun _ =>
  (f_X12_remember K o q3.2).bind fun q5 =>
  (chk K 9 (wR q5 1205 o)).bind fun a6 =>
  (cha K 20 (wR q5 1003 a6)).bind fun a7 =>
  (ixa a_1 a7.2).bind fun j8 =>
  (ixa a_1 a7.2).bind fun j9 =>
  (some (tI q5 a7.1 j9 (imin (aI q5 a7.1 j8) (a_2 - 1)))).bind fun w10 =>
  f_X12_withdraw_L44 K o (fun v1_44 v2_44 v3_44 v4_44 w11 =>
    some (.inl v3_44, w11)) fu a_1 a_2 0 0 w10

def f_X12_addHoliday_L58 (K : Kd) (o : Nat) (k : Int32 → Int32 → Int32 → Wd → Option ((Int32 ⊕ Nat) × Wd)) : Nat → Int32 → Int32 → Int32 → Wd → Option ((Int32 ⊕ Nat) × Wd)
  | 0, _, _, _, _ => none
  | n + 1, v1_58, v2_58, v3_58, w =>
    (chk K 9 (wR w 1205 o)).bind fun a14 =>
    (chk K 8 (wR w 1000 a14)).bind fun a15 =>
    (f_X9_size K a15 3 w).bind fun q16 =>
    if q16.1 ≤ v3_58 then
      (k v1_58 v2_58 v3_58 q16.2)
    else
      ((chk K 9 (wR q16.2 1205 o)).bind fun a18 =>
      (cha K 27 (wR q16.2 1005 a18)).bind fun a19 =>
      (ixa v3_58 a19.2).bind fun j20 =>
      (chk K 6 (aR q16.2 a19.1 j20)).bind fun a21 =>
      if (wI q16.2 700 a21) = 1 then
        (if (wI q16.2 702 a21) = v1_58 then
          ((f_X10_takeAway K a18 v3_58 3 q16.2).bind fun q24 =>
          f_X12_addHoliday_L58 K o k n v1_58 (v2_58 + 1) (v3_58 + 1) q24)
        else
          (f_X12_addHoliday_L58 K o k n v1_58 v2_58 (v3_58 + 1) q16.2))
      else
        (f_X12_addHoliday_L58 K o k n v1_58 v2_58 (v3_58 + 1) q16.2))

def f_X12_addHoliday (K : Kd) (o : Nat) (a_1 : Int32) (w : Wd) : Option ((Int32 ⊕ Nat) × Wd) :=
  (f_X12_requireComingDay K o a_1 w).bind fun q1 =>
  xk q1 fun _ =>
  (chk K 9 (wR q1.2 1205 o)).bind fun a3 =>
  (f_X10_works K a3 a_1 q1.2).bind fun q4 =>
  if (b2i q4.1) = 0 then
    (some (.inr 3, q4.2))
  else
    ((chk K 9 (wR q4.2 1205 o)).bind fun a6 =>
    (chk K 1 (wR q4.2 1002 a6)).bind fun a7 =>
    if (wI q4.2 201 a7) < 20 then
      ((f_X12_remember K o q4.2).bind fun q9 =>
      (chk K 9 (wR q9 1205 o)).bind fun a10 =>
      (chk K 1 (wR q9 1002 a10)).bind fun a11 =>
      (f_X2_add K a11 a_1 q9).bind fun q12 =>
      f_X12_addHoliday_L58 K o (fun v1_58 v2_58 v3_58 w13 =>
        some (.inl v2_58, w13)) fu a_1 0 0 q12)
    else
      (some (.inr 3, q4.2)))

def f_X12_addBar (K : Kd) (o : Nat) (a_1 : Int32) (a_2 : Int32) (w : Wd) : Option ((Bool ⊕ Nat) × Wd) :=
  (f_X12_requireExisting K o 1 a_1 w).bind fun q1 =>
  xk q1 fun _ =>
  (f_X12_requireExisting K o 3 a_2 q1.2).bind fun q3 =>
  xk q3 fun _ =>
  (chk K 9 (wR q3.2 1205 o)).bind fun a5 =>
  (cha K 20 (wR q3.2 1004 a5)).bind fun a6 =>
  (ixa a_2 a6.2).bind fun j7 =>
  (f_X12_has K (aI q3.2 a6.1 j7) a_1 q3.2).bind fun q8 =>
  if (b2i q8.1) = 0 then
    ((f_X12_remember K o q8.2).bind fun q10 =>
    (chk K 9 (wR q10 1205 o)).bind fun a11 =>
    (cha K 20 (wR q10 1004 a11)).bind fun a12 =>
    (ixa a_2 a12.2).bind fun j13 =>
    (ixa a_2 a12.2).bind fun j14 =>
    (some (tI q10 a12.1 j14 ((aI q10 a12.1 j13) ||| (1 <<< (a_1 &&& 31))))).bind fun w15 =>
    (chk K 9 (wR w15 1205 o)).bind fun a16 =>
    (cha K 27 (wR w15 1005 a16)).bind fun a17 =>
    (ixa a_2 a17.2).bind fun j18 =>
    (chk K 6 (aR w15 a17.1 j18)).bind fun a19 =>
    if (wI w15 700 a19) = 1 then
      (if (wI w15 705 a19) = a_1 then
        ((f_X10_takeAway K a16 a_2 1 w15).bind fun q25 =>
        some (.inl true, q25))
      else
        (some (.inl false, w15)))
    else
      (some (.inl false, w15)))
  else
    (some (.inr 3, q8.2))

def f_X12_printHearing (K : Kd) (o : Nat) (a_1 : Int32) (w : Wd) : Option Wd :=
  (chk K 9 (wR w 1205 o)).bind fun a1 =>
  (cha K 27 (wR w 1005 a1)).bind fun a2 =>
  (ixa a_1 a2.2).bind fun j3 =>
  (chk K 6 (aR w a2.1 j3)).bind fun a4 =>
  (f_X12_print K o ((48 + (wI w 703 a4)).toInt8.toInt32) w).bind fun q5 =>
  (f_X12_print K o 32 q5).bind fun q6 =>
  (f_X12_printName K o 0 (wI q6 704 a4) q6).bind fun q7 =>
  (f_X12_print K o 32 q7).bind fun q8 =>
  (f_X12_printName K o 3 a_1 q8).bind fun q9 =>
  (f_X12_print K o 32 q9).bind fun q10 =>
  (f_X12_printName K o 1 (wI q10 705 a4) q10).bind fun q11 =>
  (f_X12_print K o 10 q11).bind fun q12 =>
  some q12

def f_X13_init (K : Kd) (n : Nat) (o : Nat) (w : Wd) : Option (Kd × Nat × Wd) :=
  (some (kup K n (20, 170))).bind fun K1 =>
  (some (clr w n)).bind fun w2 =>
  (chk K1 11 (some o)).bind fun a3 =>
  (some (sR w2 1301 a3 (some n))).bind fun w4 =>
  (some (kup K1 (n + 1) (20, 170))).bind fun K5 =>
  (some (clr w4 (n + 1))).bind fun w6 =>
  (chk K5 11 (some o)).bind fun a7 =>
  (some (sR w6 1302 a7 (some (n + 1)))).bind fun w8 =>
  (some (kup K5 ((n + 1) + 1) (20, 370))).bind fun K9 =>
  (some (clr w8 ((n + 1) + 1))).bind fun w10 =>
  (chk K9 11 (some o)).bind fun a11 =>
  (some (sR w10 1303 a11 (some ((n + 1) + 1)))).bind fun w12 =>
  (some (kup K9 (((n + 1) + 1) + 1) (20, 370))).bind fun K13 =>
  (some (clr w12 (((n + 1) + 1) + 1))).bind fun w14 =>
  (chk K13 11 (some o)).bind fun a15 =>
  (some (sR w14 1304 a15 (some (((n + 1) + 1) + 1)))).bind fun w16 =>
  (some (kup K13 ((((n + 1) + 1) + 1) + 1) (20, 370))).bind fun K17 =>
  (some (clr w16 ((((n + 1) + 1) + 1) + 1))).bind fun w18 =>
  (chk K17 11 (some o)).bind fun a19 =>
  (some (sR w18 1305 a19 (some ((((n + 1) + 1) + 1) + 1)))).bind fun w20 =>
  (some (kup K17 (((((n + 1) + 1) + 1) + 1) + 1) (20, 370))).bind fun K21 =>
  (some (clr w20 (((((n + 1) + 1) + 1) + 1) + 1))).bind fun w22 =>
  (chk K21 11 (some o)).bind fun a23 =>
  (some (sR w22 1306 a23 (some (((((n + 1) + 1) + 1) + 1) + 1)))).bind fun w24 =>
  (some (kup K21 ((((((n + 1) + 1) + 1) + 1) + 1) + 1) (20, 370))).bind fun K25 =>
  (some (clr w24 ((((((n + 1) + 1) + 1) + 1) + 1) + 1))).bind fun w26 =>
  (chk K25 11 (some o)).bind fun a27 =>
  (some (sR w26 1307 a27 (some ((((((n + 1) + 1) + 1) + 1) + 1) + 1)))).bind fun w28 =>
  (some (kup K25 (((((((n + 1) + 1) + 1) + 1) + 1) + 1) + 1) (20, 2960))).bind fun K29 =>
  (some (clr w28 (((((((n + 1) + 1) + 1) + 1) + 1) + 1) + 1))).bind fun w30 =>
  (chk K29 11 (some o)).bind fun a31 =>
  (some (sR w30 1308 a31 (some (((((((n + 1) + 1) + 1) + 1) + 1) + 1) + 1)))).bind fun w32 =>
  (some (kup K29 ((((((((n + 1) + 1) + 1) + 1) + 1) + 1) + 1) + 1) (23, 3))).bind fun K33 =>
  (some (clr w32 ((((((((n + 1) + 1) + 1) + 1) + 1) + 1) + 1) + 1))).bind fun w34 =>
  (chk K33 11 (some o)).bind fun a35 =>
  (some (sR w34 1311 a35 (some ((((((((n + 1) + 1) + 1) + 1) + 1) + 1) + 1) + 1)))).bind fun w36 =>
  (some (kup K33 (((((((((n + 1) + 1) + 1) + 1) + 1) + 1) + 1) + 1) + 1) (23, 6))).bind fun K37 =>
  (some (clr w36 (((((((((n + 1) + 1) + 1) + 1) + 1) + 1) + 1) + 1) + 1))).bind fun w38 =>
  (chk K37 11 (some o)).bind fun a39 =>
  (some (sR w38 1312 a39 (some (((((((((n + 1) + 1) + 1) + 1) + 1) + 1) + 1) + 1) + 1)))).bind fun w40 =>
  (some (kup K37 ((((((((((n + 1) + 1) + 1) + 1) + 1) + 1) + 1) + 1) + 1) + 1) (23, 12))).bind fun K41 =>
  (some (clr w40 ((((((((((n + 1) + 1) + 1) + 1) + 1) + 1) + 1) + 1) + 1) + 1))).bind fun w42 =>
  (chk K41 11 (some o)).bind fun a43 =>
  (some (sR w42 1313 a43 (some ((((((((((n + 1) + 1) + 1) + 1) + 1) + 1) + 1) + 1) + 1) + 1)))).bind fun w44 =>
  (some (kup K41 (((((((((((n + 1) + 1) + 1) + 1) + 1) + 1) + 1) + 1) + 1) + 1) + 1) (23, 12))).bind fun K45 =>
  (some (clr w44 (((((((((((n + 1) + 1) + 1) + 1) + 1) + 1) + 1) + 1) + 1) + 1) + 1))).bind fun w46 =>
  (chk K45 11 (some o)).bind fun a47 =>
  (some (sR w46 1314 a47 (some (((((((((((n + 1) + 1) + 1) + 1) + 1) + 1) + 1) + 1) + 1) + 1) + 1)))).bind fun w48 =>
  (some (sI w48 1315 a47 (-1))).bind fun w49 =>
  (some (kup K45 ((((((((((((n + 1) + 1) + 1) + 1) + 1) + 1) + 1) + 1) + 1) + 1) + 1) + 1) (20, 12))).bind fun K50 =>
  (some (clr w49 ((((((((((((n + 1) + 1) + 1) + 1) + 1) + 1) + 1) + 1) + 1) + 1) + 1) + 1))).bind fun w51 =>
  (chk K50 11 (some o)).bind fun a52 =>
  (some (sR w51 1320 a52 (some ((((((((((((n + 1) + 1) + 1) + 1) + 1) + 1) + 1) + 1) + 1) + 1) + 1) + 1)))).bind fun w53 =>
  (some (kup K50 (((((((((((((n + 1) + 1) + 1) + 1) + 1) + 1) + 1) + 1) + 1) + 1) + 1) + 1) + 1) (20, 4096))).bind fun K54 =>
  (some (clr w53 (((((((((((((n + 1) + 1) + 1) + 1) + 1) + 1) + 1) + 1) + 1) + 1) + 1) + 1) + 1))).bind fun w55 =>
  (chk K54 11 (some o)).bind fun a56 =>
  (some (sR w55 1321 a56 (some (((((((((((((n + 1) + 1) + 1) + 1) + 1) + 1) + 1) + 1) + 1) + 1) + 1) + 1) + 1)))).bind fun w57 =>
  (some (kup K54 ((((((((((((((n + 1) + 1) + 1) + 1) + 1) + 1) + 1) + 1) + 1) + 1) + 1) + 1) + 1) + 1) (22, 4096))).bind fun K58 =>
  (some (clr w57 ((((((((((((((n + 1) + 1) + 1) + 1) + 1) + 1) + 1) + 1) + 1) + 1) + 1) + 1) + 1) + 1))).bind fun w59 =>
  (chk K58 11 (some o)).bind fun a60 =>
  (some (sR w59 1322 a60 (some ((((((((((((((n + 1) + 1) + 1) + 1) + 1) + 1) + 1) + 1) + 1) + 1) + 1) + 1) + 1) + 1)))).bind fun w61 =>
  (some (kup K58 (((((((((((((((n + 1) + 1) + 1) + 1) + 1) + 1) + 1) + 1) + 1) + 1) + 1) + 1) + 1) + 1) + 1) (21, 900))).bind fun K62 =>
  (some (clr w61 (((((((((((((((n + 1) + 1) + 1) + 1) + 1) + 1) + 1) + 1) + 1) + 1) + 1) + 1) + 1) + 1) + 1))).bind fun w63 =>
  (chk K62 11 (some o)).bind fun a64 =>
  (some (sR w63 1323 a64 (some (((((((((((((((n + 1) + 1) + 1) + 1) + 1) + 1) + 1) + 1) + 1) + 1) + 1) + 1) + 1) + 1) + 1)))).bind fun w65 =>
  (some (sI w65 1332 a64 (-1))).bind fun w66 =>
  (some (kup K62 ((((((((((((((((n + 1) + 1) + 1) + 1) + 1) + 1) + 1) + 1) + 1) + 1) + 1) + 1) + 1) + 1) + 1) + 1) (23, 3))).bind fun K67 =>
  (some (clr w66 ((((((((((((((((n + 1) + 1) + 1) + 1) + 1) + 1) + 1) + 1) + 1) + 1) + 1) + 1) + 1) + 1) + 1) + 1))).bind fun w68 =>
  (chk K67 11 (some o)).bind fun a69 =>
  (some (sR w68 1333 a69 (some ((((((((((((((((n + 1) + 1) + 1) + 1) + 1) + 1) + 1) + 1) + 1) + 1) + 1) + 1) + 1) + 1) + 1) + 1)))).bind fun w70 =>
  (some (kup K67 (((((((((((((((((n + 1) + 1) + 1) + 1) + 1) + 1) + 1) + 1) + 1) + 1) + 1) + 1) + 1) + 1) + 1) + 1) + 1) (23, 6))).bind fun K71 =>
  (some (clr w70 (((((((((((((((((n + 1) + 1) + 1) + 1) + 1) + 1) + 1) + 1) + 1) + 1) + 1) + 1) + 1) + 1) + 1) + 1) + 1))).bind fun w72 =>
  (chk K71 11 (some o)).bind fun a73 =>
  (some (sR w72 1334 a73 (some (((((((((((((((((n + 1) + 1) + 1) + 1) + 1) + 1) + 1) + 1) + 1) + 1) + 1) + 1) + 1) + 1) + 1) + 1) + 1)))).bind fun w74 =>
  (some (kup K71 ((((((((((((((((((n + 1) + 1) + 1) + 1) + 1) + 1) + 1) + 1) + 1) + 1) + 1) + 1) + 1) + 1) + 1) + 1) + 1) + 1) (23, 12))).bind fun K75 =>
  (some (clr w74 ((((((((((((((((((n + 1) + 1) + 1) + 1) + 1) + 1) + 1) + 1) + 1) + 1) + 1) + 1) + 1) + 1) + 1) + 1) + 1) + 1))).bind fun w76 =>
  (chk K75 11 (some o)).bind fun a77 =>
  (some (sR w76 1335 a77 (some ((((((((((((((((((n + 1) + 1) + 1) + 1) + 1) + 1) + 1) + 1) + 1) + 1) + 1) + 1) + 1) + 1) + 1) + 1) + 1) + 1)))).bind fun w78 =>
  (some (kup K75 (((((((((((((((((((n + 1) + 1) + 1) + 1) + 1) + 1) + 1) + 1) + 1) + 1) + 1) + 1) + 1) + 1) + 1) + 1) + 1) + 1) + 1) (23, 12))).bind fun K79 =>
  (some (clr w78 (((((((((((((((((((n + 1) + 1) + 1) + 1) + 1) + 1) + 1) + 1) + 1) + 1) + 1) + 1) + 1) + 1) + 1) + 1) + 1) + 1) + 1))).bind fun w80 =>
  (chk K79 11 (some o)).bind fun a81 =>
  (some (sR w80 1336 a81 (some (((((((((((((((((((n + 1) + 1) + 1) + 1) + 1) + 1) + 1) + 1) + 1) + 1) + 1) + 1) + 1) + 1) + 1) + 1) + 1) + 1) + 1)))).bind fun w82 =>
  (some (kup K79 ((((((((((((((((((((n + 1) + 1) + 1) + 1) + 1) + 1) + 1) + 1) + 1) + 1) + 1) + 1) + 1) + 1) + 1) + 1) + 1) + 1) + 1) + 1) (21, 500))).bind fun K83 =>
  (some (clr w82 ((((((((((((((((((((n + 1) + 1) + 1) + 1) + 1) + 1) + 1) + 1) + 1) + 1) + 1) + 1) + 1) + 1) + 1) + 1) + 1) + 1) + 1) + 1))).bind fun w84 =>
  (chk K83 11 (some o)).bind fun a85 =>
  (some (sR w84 1337 a85 (some ((((((((((((((((((((n + 1) + 1) + 1) + 1) + 1) + 1) + 1) + 1) + 1) + 1) + 1) + 1) + 1) + 1) + 1) + 1) + 1) + 1) + 1) + 1)))).bind fun w86 =>
  (f_X13_clears K83 a85 w86).bind fun q87 =>
  (f_X13_takesDraft K83 a85 q87).bind fun q88 =>
  some (K83, (((((((((((((((((((((n + 1) + 1) + 1) + 1) + 1) + 1) + 1) + 1) + 1) + 1) + 1) + 1) + 1) + 1) + 1) + 1) + 1) + 1) + 1) + 1) + 1), q88)

def f_X1_gives_L66 (K : Kd) (rc : Option Nat → Int32 → Int32 → Int32 → Int32 → Wd → Option (Bool × Wd)) (k : Option Nat → Int32 → Int32 → Int32 → Int32 → Int32 → Int32 → Int32 → Int32 → Wd → Option (Bool × Wd)) : Nat → Option Nat → Int32 → Int32 → Int32 → Int32 → Int32 → Int32 → Int32 → Int32 → Wd → Option (Bool × Wd)
  | 0, _, _, _, _, _, _, _, _, _, _ => none
  | n + 1, v0_66, v1_66, v2_66, v3_66, v4_66, v5_66, v6_66, v7_66, v8_66, w =>
    (chk K 0 v0_66).bind fun a10 =>
    if (wI w 104 a10) ≤ v8_66 then
      (k v0_66 v1_66 v2_66 v3_66 v4_66 v5_66 v6_66 v7_66 v8_66 w)
    else
      ((f_X12_has K v7_66 v8_66 w).bind fun q12 =>
      if (b2i q12.1) = 0 then
        (f_X1_gives_L66 K rc k n v0_66 v1_66 v2_66 v3_66 v4_66 v5_66 v6_66 v7_66 (v8_66 + 1) q12.2)
      else
        ((f_X1_isSpare K a10 v8_66 v2_66 v3_66 q12.2).bind fun q14 =>
        if (b2i q14.1) = 0 then
          ((f_X1_giveTo K a10 v1_66 v6_66 v8_66 q14.2).bind fun q16 =>
          (rc v0_66 (v1_66 + 1) (v2_66 &&& ((1 <<< (v6_66 &&& 31)) ^^^ (-1))) (v3_66 ||| (1 <<< (v8_66 &&& 31))) v4_66 q16).bind fun q17 =>
          if (b2i q17.1) = 0 then
            (f_X1_gives_L66 K rc k n v0_66 v1_66 v2_66 v3_66 v4_66 v5_66 v6_66 v7_66 (v8_66 + 1) q17.2)
          else
            (some (true, q17.2)))
        else
          (f_X1_gives_L66 K rc k n v0_66 v1_66 v2_66 v3_66 v4_66 v5_66 v6_66 v7_66 (v8_66 + 1) q14.2)))

def f_X1_gives (K : Kd) : Nat → Option Nat → Int32 → Int32 → Int32 → Int32 → Wd → Option (Bool × Wd)
  | 0, _, _, _, _, _, _ => none
  | n9 + 1, a_0, a_1, a_2, a_3, a_4, w =>
    if a_2 = 0 then
      (some (true, w))
    else
      (if a_1 < 12 then
        ((f_J6_bitCount_0f7a4 K a_3 w).bind fun q3 =>
        if a_4 ≤ q3.1 then
          ((chk K 0 a_0).bind fun a5 =>
          (f_X1_hardest K a5 a_1 a_2 a_3 q3.2).bind fun q6 =>
          (cha K 20 (wR q6.2 102 a5)).bind fun a7 =>
          (ixa ((a_1 * 12) + q6.1) a7.2).bind fun j8 =>
          f_X1_gives_L66 K (f_X1_gives K n9) (fun v0_66 v1_66 v2_66 v3_66 v4_66 v5_66 v6_66 v7_66 v8_66 w9 =>
            some (false, w9)) fu a_0 a_1 a_2 a_3 a_4 a_3 q6.1 ((aI q6.2 a7.1 j8) &&& a_3) 0 q6.2)
        else
          ((chk K 0 a_0).bind fun a19 =>
          (f_X12_allOf K (wI q3.2 104 a19) q3.2).bind fun q20 =>
          (f_X1_hardest K a19 a_1 a_2 q20.1 q20.2).bind fun q21 =>
          (cha K 20 (wR q21.2 102 a19)).bind fun a22 =>
          (ixa ((a_1 * 12) + q21.1) a22.2).bind fun j23 =>
          f_X1_gives_L66 K (f_X1_gives K n9) (fun v0_66 v1_66 v2_66 v3_66 v4_66 v5_66 v6_66 v7_66 v8_66 w24 =>
            some (false, w24)) fu a_0 a_1 a_2 a_3 a_4 q20.1 q21.1 ((aI q21.2 a22.1 j23) &&& q20.1) 0 q21.2))
      else
        (some (false, w)))

def f_X5_takesHoliday (K : Kd) (o : Nat) (w : Wd) : Option (Bool × Wd) :=
  (chk K 8 (wR w 501 o)).bind fun a1 =>
  (chk K 1 (wR w 910 a1)).bind fun a2 =>
  if (wI w 201 a2) < 20 then
    ((chk K 7 (wR w 500 o)).bind fun a4 =>
    (f_X8_advance K a4 w).bind fun q5 =>
    (f_X5_seesNumber K o 0 599 q5).bind fun q6 =>
    if (b2i q6.1) = 0 then
      (some (false, q6.2))
    else
      ((chk K 8 (wR q6.2 501 o)).bind fun a8 =>
      (chk K 7 (wR q6.2 500 o)).bind fun a9 =>
      (chk K 1 (wR q6.2 910 a8)).bind fun a10 =>
      (f_X2_contains K a10 (wI q6.2 806 a9) q6.2).bind fun q11 =>
      if (b2i q11.1) = 0 then
        ((chk K 8 (wR q11.2 501 o)).bind fun a13 =>
        (chk K 7 (wR q11.2 500 o)).bind fun a14 =>
        (chk K 1 (wR q11.2 910 a13)).bind fun a15 =>
        (f_X2_add K a15 (wI q11.2 806 a14) q11.2).bind fun q16 =>
        (chk K 7 (wR q16 500 o)).bind fun a17 =>
        (f_X8_advance K a17 q16).bind fun q18 =>
        some (true, q18))
      else
        ((f_X5_fail K o 3 q11.2).bind fun q19 =>
        some (q19.1, q19.2))))
  else
    ((f_X5_fail K o 4 w).bind fun q20 =>
    some (q20.1, q20.2))

def f_X5_takesNeeds_L2 (K : Kd) (o : Nat) (k : Option Nat → Int32 → Wd → Option (Bool × Wd)) : Nat → Option Nat → Int32 → Wd → Option (Bool × Wd)
  | 0, _, _, _ => none
  | n + 1, v1_2, v2_2, w =>
    (chk K 7 (wR w 500 o)).bind fun a2 =>
    (grd (tkB (wR w 804 a2) = true)).bind fun _ =>
    if (wR w 804 a2) = (some 11) then
      (if v2_2 < 4 then
        ((f_X8_advance K a2 w).bind fun q6 =>
        (f_X5_seesToldName K o 2 q6).bind fun q7 =>
        if (b2i q7.1) = 0 then
          (some (false, q7.2))
        else
          ((chk K 2 v1_2).bind fun a9 =>
          (f_X12_has K (wI q7.2 304 a9) (wI q7.2 504 o) q7.2).bind fun q10 =>
          if (b2i q10.1) = 0 then
            ((some (sI q10.2 304 a9 ((wI q10.2 304 a9) ||| (1 <<< ((wI q10.2 504 o) &&& 31))))).bind fun w12 =>
            (chk K 7 (wR w12 500 o)).bind fun a13 =>
            (f_X8_advance K a13 w12).bind fun q14 =>
            f_X5_takesNeeds_L2 K o k n v1_2 (v2_2 + 1) q14)
          else
            ((f_X5_fail K o 3 q10.2).bind fun q15 =>
            some (q15.1, q15.2))))
      else
        ((f_X5_fail K o 4 w).bind fun q16 =>
        some (q16.1, q16.2)))
    else
      (k v1_2 v2_2 w)

def f_X5_takesNeeds (K : Kd) (o : Nat) (a_1 : Option Nat) (w : Wd) : Option (Bool × Wd) :=
  f_X5_takesNeeds_L2 K o (fun v1_2 v2_2 w1 =>
    some (true, w1)) fu a_1 0 w

def f_X5_takesBar (K : Kd) (o : Nat) (w : Wd) : Option (Bool × Wd) :=
  (chk K 7 (wR w 500 o)).bind fun a1 =>
  (f_X8_advance K a1 w).bind fun q2 =>
  (f_X5_seesToldName K o 1 q2).bind fun q3 =>
  if (b2i q3.1) = 0 then
    (some (false, q3.2))
  else
    ((chk K 7 (wR q3.2 500 o)).bind fun a5 =>
    (f_X8_advance K a5 q3.2).bind fun q6 =>
    (f_X5_seesToldName K o 3 q6).bind fun q7 =>
    if (b2i q7.1) = 0 then
      (some (false, q7.2))
    else
      ((chk K 8 (wR q7.2 501 o)).bind fun a9 =>
      (cha K 25 (wR q7.2 909 a9)).bind fun a10 =>
      (ixa (wI q7.2 504 o) a10.2).bind fun j11 =>
      (chk K 2 (aR q7.2 a10.1 j11)).bind fun a12 =>
      (f_X12_has K (wI q7.2 306 a12) (wI q3.2 504 o) q7.2).bind fun q13 =>
      if (b2i q13.1) = 0 then
        ((some (sI q13.2 306 a12 ((wI q13.2 306 a12) ||| (1 <<< ((wI q3.2 504 o) &&& 31))))).bind fun w15 =>
        (chk K 7 (wR w15 500 o)).bind fun a16 =>
        (f_X8_advance K a16 w15).bind fun q17 =>
        some (true, q17))
      else
        ((f_X5_fail K o 3 q13.2).bind fun q18 =>
        some (q18.1, q18.2))))

def f_X5_takesConflict (K : Kd) (o : Nat) (w : Wd) : Option (Bool × Wd) :=
  (chk K 7 (wR w 500 o)).bind fun a1 =>
  (f_X8_advance K a1 w).bind fun q2 =>
  (f_X5_seesToldName K o 3 q2).bind fun q3 =>
  if (b2i q3.1) = 0 then
    (some (false, q3.2))
  else
    ((chk K 7 (wR q3.2 500 o)).bind fun a5 =>
    (f_X8_advance K a5 q3.2).bind fun q6 =>
    (f_X5_seesToldName K o 3 q6).bind fun q7 =>
    if (b2i q7.1) = 0 then
      (some (false, q7.2))
    else
      (if (wI q7.2 504 o) = (wI q3.2 504 o) then
        ((f_X5_fail K o 3 q7.2).bind fun q10 =>
        some (q10.1, q10.2))
      else
        ((chk K 8 (wR q7.2 501 o)).bind fun a11 =>
        (cha K 25 (wR q7.2 909 a11)).bind fun a12 =>
        (ixa (wI q3.2 504 o) a12.2).bind fun j13 =>
        (chk K 2 (aR q7.2 a12.1 j13)).bind fun a14 =>
        (f_X12_has K (wI q7.2 305 a14) (wI q7.2 504 o) q7.2).bind fun q15 =>
        if (b2i q15.1) = 0 then
          ((chk K 8 (wR q15.2 501 o)).bind fun a17 =>
          (cha K 25 (wR q15.2 909 a17)).bind fun a18 =>
          (ixa (wI q3.2 504 o) a18.2).bind fun j19 =>
          (chk K 2 (aR q15.2 a18.1 j19)).bind fun a20 =>
          (some (sI q15.2 305 a20 ((wI q15.2 305 a20) ||| (1 <<< ((wI q7.2 504 o) &&& 31))))).bind fun w21 =>
          (chk K 8 (wR w21 501 o)).bind fun a22 =>
          (cha K 25 (wR w21 909 a22)).bind fun a23 =>
          (ixa (wI q7.2 504 o) a23.2).bind fun j24 =>
          (chk K 2 (aR w21 a23.1 j24)).bind fun a25 =>
          (some (sI w21 305 a25 ((wI w21 305 a25) ||| (1 <<< ((wI q3.2 504 o) &&& 31))))).bind fun w26 =>
          (chk K 7 (wR w26 500 o)).bind fun a27 =>
          (f_X8_advance K a27 w26).bind fun q28 =>
          some (true, q28))
        else
          ((f_X5_fail K o 3 q15.2).bind fun q29 =>
          some (q29.1, q29.2)))))

def f_X5_takes (K : Kd) (o : Nat) (a_1 : Option Nat) (w : Wd) : Option (Bool × Wd) :=
  (chk K 7 (wR w 500 o)).bind fun a1 =>
  (grd (tkB (wR w 804 a1) = true)).bind fun _ =>
  (grd (tkB a_1 = true)).bind fun _ =>
  if (wR w 804 a1) = a_1 then
    ((f_X8_advance K a1 w).bind fun q5 =>
    some (true, q5))
  else
    ((f_X5_fail K o 1 w).bind fun q6 =>
    some (q6.1, q6.2))

def f_X5_takesNewName (K : Kd) (o : Nat) (a_1 : Int32) (w : Wd) : Option (Bool × Wd) :=
  (chk K 8 (wR w 501 o)).bind fun a1 =>
  (cha K 26 (wR w 900 a1)).bind fun a2 =>
  (ixa a_1 a2.2).bind fun j3 =>
  (chk K 3 (aR w a2.1 j3)).bind fun a4 =>
  (f_X4_isFull K a4 w).bind fun q5 =>
  if (b2i q5.1) = 0 then
    ((chk K 7 (wR q5.2 500 o)).bind fun a7 =>
    (f_X8_advance K a7 q5.2).bind fun q8 =>
    (chk K 7 (wR q8 500 o)).bind fun a9 =>
    (grd (tkB (wR q8 804 a9) = true)).bind fun _ =>
    if (wR q8 804 a9) = (some 16) then
      ((f_X4_indexOf K a4 (wJ q8 805 a9) q8).bind fun q12 =>
      if q12.1 = (-1) then
        ((chk K 7 (wR q12.2 500 o)).bind fun a14 =>
        (f_X4_add K a4 (wJ q12.2 805 a14) q12.2).bind fun q15 =>
        (chk K 7 (wR q15 500 o)).bind fun a16 =>
        (f_X8_advance K a16 q15).bind fun q17 =>
        some (true, q17))
      else
        ((f_X5_fail K o 3 q12.2).bind fun q18 =>
        some (q18.1, q18.2)))
    else
      ((f_X5_fail K o 1 q8).bind fun q19 =>
      some (q19.1, q19.2)))
  else
    ((f_X5_fail K o 4 q5.2).bind fun q20 =>
    some (q20.1, q20.2))

def f_X5_takesNumber (K : Kd) (o : Nat) (a_1 : Int32) (a_2 : Int32) (w : Wd) : Option (Bool × Wd) :=
  (f_X5_seesNumber K o a_1 a_2 w).bind fun q1 =>
  if (b2i q1.1) = 0 then
    (some (false, q1.2))
  else
    ((chk K 7 (wR q1.2 500 o)).bind fun a3 =>
    (some (sI q1.2 504 o (wI q1.2 806 a3))).bind fun w4 =>
    (chk K 7 (wR w4 500 o)).bind fun a5 =>
    (f_X8_advance K a5 w4).bind fun q6 =>
    some (true, q6))

def f_X5_takesSpan (K : Kd) (o : Nat) (a_1 : Int32) (w : Wd) : Option (Bool × Wd) :=
  (f_X5_takesNumber K o 0 a_1 w).bind fun q1 =>
  if (b2i q1.1) = 0 then
    (some (false, q1.2))
  else
    ((some (sI q1.2 505 o (wI q1.2 504 o))).bind fun w3 =>
    (f_X5_takesNumber K o (wI w3 505 o) a_1 w3).bind fun q4 =>
    if (b2i q4.1) = 0 then
      (some (false, q4.2))
    else
      ((some (sI q4.2 506 o (wI q4.2 504 o))).bind fun w6 =>
      some (true, w6)))

def f_X6_faultOf (K : Kd) (o : Nat) (a_1 : Option Nat) (a_2 : Int32) (a_3 : Int32) (a_4 : Int32) (a_5 : Int32) (a_6 : Int32) (w : Wd) : Option (Int32 × Wd) :=
  (chk K 9 a_1).bind fun a1 =>
  (chk K 8 (wR w 1000 a1)).bind fun a2 =>
  (cha K 25 (wR w 909 a2)).bind fun a3 =>
  (ixa a_2 a3.2).bind fun j4 =>
  if a_3 < (wI w 1001 a1) then
    (some (1, w))
  else
    ((chk K 2 (aR w a3.1 j4)).bind fun a6 =>
    if a_3 < (wI w 300 a6) then
      (some (1, w))
    else
      ((f_X10_works K a1 a_3 w).bind fun q8 =>
      if (b2i q8.1) = 0 then
        (some (1, q8.2))
      else
        ((f_X10_limitDay K a1 a_2 q8.2).bind fun q10 =>
        if a_3 ≤ q10.1 then
          ((f_X6_lookAtOfficers K o a_1 a_2 q10.2).bind fun q12 =>
          (f_X6_lookAtDay K o a_1 a_2 a_3 0 q12).bind fun q13 =>
          (f_X12_slotSet K a_4 (wI q13 301 a6) q13).bind fun q14 =>
          (chk K 8 (wR q14.2 1000 a1)).bind fun a15 =>
          (cha K 20 (wR q14.2 901 a15)).bind fun a16 =>
          (ixa a_5 a16.2).bind fun j17 =>
          if (q14.1 &&& ((aI q14.2 a16.1 j17) ^^^ (-1))) = 0 then
            ((cha K 20 (wR q14.2 600 o)).bind fun a19 =>
            (ixa a_5 a19.2).bind fun j20 =>
            if (q14.1 &&& (aI q14.2 a19.1 j20)) = 0 then
              ((f_X12_has K (wI q14.2 605 o) a_6 q14.2).bind fun q22 =>
              if (b2i q22.1) = 0 then
                ((cha K 20 (wR q22.2 601 o)).bind fun a24 =>
                (ixa a_6 a24.2).bind fun j25 =>
                if (q14.1 &&& (aI q22.2 a24.1 j25)) = 0 then
                  ((f_X12_has K (wI q22.2 604 o) a_6 q22.2).bind fun q27 =>
                  if (b2i q27.1) = 0 then
                    (if (q14.1 &&& (wI q27.2 606 o)) = 0 then
                      (if (q14.1 &&& (wI q27.2 607 o)) = 0 then
                        (some (0, q27.2))
                      else
                        (some (9, q27.2)))
                    else
                      (some (8, q27.2)))
                  else
                    (some (7, q27.2)))
                else
                  (some (6, q22.2)))
              else
                (some (5, q22.2)))
            else
              (some (4, q14.2)))
          else
            (some (3, q14.2)))
        else
          (some (2, q10.2)))))

def f_X6_findOn_L36 (K : Kd) (o : Nat) (k : Option Nat → Int32 → Int32 → Int32 → Int32 → Int32 → Wd → Option (Bool × Wd)) : Nat → Option Nat → Int32 → Int32 → Int32 → Int32 → Int32 → Wd → Option (Bool × Wd)
  | 0, _, _, _, _, _, _, _ => none
  | n + 1, v1_36, v2_36, v3_36, v4_36, v5_36, v6_36, w =>
    if 8 < (v6_36 + v5_36) then
      (k v1_36 v2_36 v3_36 v4_36 v5_36 v6_36 w)
    else
      ((f_X12_slotSet K v6_36 v5_36 w).bind fun q11 =>
      if (q11.1 &&& ((wI q11.2 606 o) ||| (wI q11.2 607 o))) = 0 then
        ((chk K 9 v1_36).bind fun a13 =>
        (f_X6_findIn K o (wR q11.2 1000 a13) q11.1 q11.2).bind fun q14 =>
        if (b2i q14.1) = 0 then
          (f_X6_findOn_L36 K o k n v1_36 v2_36 v3_36 v4_36 v5_36 (v6_36 + 1) q14.2)
        else
          ((some (sI q14.2 608 o v3_36)).bind fun w16 =>
          (some (sI w16 609 o v6_36)).bind fun w17 =>
          some (true, w17)))
      else
        (f_X6_findOn_L36 K o k n v1_36 v2_36 v3_36 v4_36 v5_36 (v6_36 + 1) q11.2))

def f_X6_findOn (K : Kd) (o : Nat) (a_1 : Option Nat) (a_2 : Int32) (a_3 : Int32) (a_4 : Int32) (w : Wd) : Option (Bool × Wd) :=
  (chk K 9 a_1).bind fun a1 =>
  (f_X10_works K a1 a_3 w).bind fun q2 =>
  if (b2i q2.1) = 0 then
    (some (false, q2.2))
  else
    ((f_X6_lookAtDay K o a_1 a_2 a_3 a_4 q2.2).bind fun q4 =>
    (chk K 8 (wR q4 1000 a1)).bind fun a5 =>
    (cha K 25 (wR q4 909 a5)).bind fun a6 =>
    (ixa a_2 a6.2).bind fun j7 =>
    (chk K 2 (aR q4 a6.1 j7)).bind fun a8 =>
    f_X6_findOn_L36 K o (fun v1_36 v2_36 v3_36 v4_36 v5_36 v6_36 w9 =>
      some (false, w9)) fu a_1 a_2 a_3 a_4 (wI q4 301 a8) 0 q4)

def f_X8_begin (K : Kd) (o : Nat) (a_1 : Option Nat) (a_2 : Int32) (w : Wd) : Option Wd :=
  (some (sR w 800 o a_1)).bind fun w1 =>
  (cha K 21 a_1).bind fun a2 =>
  (some (sI w1 801 o (imin a_2 (nI a2.2)))).bind fun w3 =>
  (some (sI w3 803 o 0)).bind fun w4 =>
  (f_X8_advance K o w4).bind fun q5 =>
  some q5

def f_X9_init (K : Kd) (n : Nat) (o : Nat) (w : Wd) : Option (Kd × Nat × Wd) :=
  (some (kup K n (26, 4))).bind fun K1 =>
  (some (clr w n)).bind fun w2 =>
  (chk K1 8 (some o)).bind fun a3 =>
  (some (sR w2 900 a3 (some n))).bind fun w4 =>
  (some (kup K1 (n + 1) (20, 3))).bind fun K5 =>
  (some (clr w4 (n + 1))).bind fun w6 =>
  (chk K5 8 (some o)).bind fun a7 =>
  (some (sR w6 901 a7 (some (n + 1)))).bind fun w8 =>
  (some (kup K5 ((n + 1) + 1) (20, 6))).bind fun K9 =>
  (some (clr w8 ((n + 1) + 1))).bind fun w10 =>
  (chk K9 8 (some o)).bind fun a11 =>
  (some (sR w10 902 a11 (some ((n + 1) + 1)))).bind fun w12 =>
  (some (kup K9 (((n + 1) + 1) + 1) (20, 18))).bind fun K13 =>
  (some (clr w12 (((n + 1) + 1) + 1))).bind fun w14 =>
  (chk K13 8 (some o)).bind fun a15 =>
  (some (sR w14 903 a15 (some (((n + 1) + 1) + 1)))).bind fun w16 =>
  (some (kup K13 ((((n + 1) + 1) + 1) + 1) (20, 18))).bind fun K17 =>
  (some (clr w16 ((((n + 1) + 1) + 1) + 1))).bind fun w18 =>
  (chk K17 8 (some o)).bind fun a19 =>
  (some (sR w18 904 a19 (some ((((n + 1) + 1) + 1) + 1)))).bind fun w20 =>
  (some (kup K17 (((((n + 1) + 1) + 1) + 1) + 1) (20, 12))).bind fun K21 =>
  (some (clr w20 (((((n + 1) + 1) + 1) + 1) + 1))).bind fun w22 =>
  (chk K21 8 (some o)).bind fun a23 =>
  (some (sR w22 905 a23 (some (((((n + 1) + 1) + 1) + 1) + 1)))).bind fun w24 =>
  (some (kup K21 ((((((n + 1) + 1) + 1) + 1) + 1) + 1) (20, 12))).bind fun K25 =>
  (some (clr w24 ((((((n + 1) + 1) + 1) + 1) + 1) + 1))).bind fun w26 =>
  (chk K25 8 (some o)).bind fun a27 =>
  (some (sR w26 906 a27 (some ((((((n + 1) + 1) + 1) + 1) + 1) + 1)))).bind fun w28 =>
  (some (kup K25 (((((((n + 1) + 1) + 1) + 1) + 1) + 1) + 1) (20, 12))).bind fun K29 =>
  (some (clr w28 (((((((n + 1) + 1) + 1) + 1) + 1) + 1) + 1))).bind fun w30 =>
  (chk K29 8 (some o)).bind fun a31 =>
  (some (sR w30 907 a31 (some (((((((n + 1) + 1) + 1) + 1) + 1) + 1) + 1)))).bind fun w32 =>
  (some (kup K29 ((((((((n + 1) + 1) + 1) + 1) + 1) + 1) + 1) + 1) (20, 12))).bind fun K33 =>
  (some (clr w32 ((((((((n + 1) + 1) + 1) + 1) + 1) + 1) + 1) + 1))).bind fun w34 =>
  (chk K33 8 (some o)).bind fun a35 =>
  (some (sR w34 908 a35 (some ((((((((n + 1) + 1) + 1) + 1) + 1) + 1) + 1) + 1)))).bind fun w36 =>
  (some (kup K33 (((((((((n + 1) + 1) + 1) + 1) + 1) + 1) + 1) + 1) + 1) (25, 12))).bind fun K37 =>
  (some (clr w36 (((((((((n + 1) + 1) + 1) + 1) + 1) + 1) + 1) + 1) + 1))).bind fun w38 =>
  (chk K37 8 (some o)).bind fun a39 =>
  (some (sR w38 909 a39 (some (((((((((n + 1) + 1) + 1) + 1) + 1) + 1) + 1) + 1) + 1)))).bind fun w40 =>
  (some (kup K37 ((((((((((n + 1) + 1) + 1) + 1) + 1) + 1) + 1) + 1) + 1) + 1) (1, 0))).bind fun K41 =>
  (some (clr w40 ((((((((((n + 1) + 1) + 1) + 1) + 1) + 1) + 1) + 1) + 1) + 1))).bind fun w42 =>
  (f_X2_init K41 (((((((((((n + 1) + 1) + 1) + 1) + 1) + 1) + 1) + 1) + 1) + 1) + 1) ((((((((((n + 1) + 1) + 1) + 1) + 1) + 1) + 1) + 1) + 1) + 1) w42).bind fun q43 =>
  (chk q43.1 8 (some o)).bind fun a44 =>
  (some (sR q43.2.2 910 a44 (some ((((((((((n + 1) + 1) + 1) + 1) + 1) + 1) + 1) + 1) + 1) + 1)))).bind fun w45 =>
  (some (kup q43.1 q43.2.1 (20, 4))).bind fun K46 =>
  (some (clr w45 q43.2.1)).bind fun w47 =>
  (chk K46 8 (some o)).bind fun a48 =>
  (some (sR w47 911 a48 (some q43.2.1))).bind fun w49 =>
  (some (kup K46 (q43.2.1 + 1) (3, 0))).bind fun K50 =>
  (some (clr w49 (q43.2.1 + 1))).bind fun w51 =>
  (f_X4_init K50 ((q43.2.1 + 1) + 1) (q43.2.1 + 1) 3 w51).bind fun q52 =>
  (cha q52.1 26 (wR w49 900 a48)).bind fun a53 =>
  (ixa 0 a53.2).bind fun j54 =>
  (chk q52.1 3 (some (q43.2.1 + 1))).bind fun a55 =>
  (some (tR q52.2.2 a53.1 j54 (some a55))).bind fun w56 =>
  (chk q52.1 8 (some o)).bind fun a57 =>
  (some (kup q52.1 q52.2.1 (3, 0))).bind fun K58 =>
  (some (clr w56 q52.2.1)).bind fun w59 =>
  (f_X4_init K58 (q52.2.1 + 1) q52.2.1 6 w59).bind fun q60 =>
  (cha q60.1 26 (wR w56 900 a57)).bind fun a61 =>
  (ixa 1 a61.2).bind fun j62 =>
  (chk q60.1 3 (some q52.2.1)).bind fun a63 =>
  (some (tR q60.2.2 a61.1 j62 (some a63))).bind fun w64 =>
  (chk q60.1 8 (some o)).bind fun a65 =>
  (some (kup q60.1 q60.2.1 (3, 0))).bind fun K66 =>
  (some (clr w64 q60.2.1)).bind fun w67 =>
  (f_X4_init K66 (q60.2.1 + 1) q60.2.1 12 w67).bind fun q68 =>
  (cha q68.1 26 (wR w64 900 a65)).bind fun a69 =>
  (ixa 2 a69.2).bind fun j70 =>
  (chk q68.1 3 (some q60.2.1)).bind fun a71 =>
  (some (tR q68.2.2 a69.1 j70 (some a71))).bind fun w72 =>
  (chk q68.1 8 (some o)).bind fun a73 =>
  (some (kup q68.1 q68.2.1 (3, 0))).bind fun K74 =>
  (some (clr w72 q68.2.1)).bind fun w75 =>
  (f_X4_init K74 (q68.2.1 + 1) q68.2.1 12 w75).bind fun q76 =>
  (cha q76.1 26 (wR w72 900 a73)).bind fun a77 =>
  (ixa 3 a77.2).bind fun j78 =>
  (chk q76.1 3 (some q68.2.1)).bind fun a79 =>
  (some (tR q76.2.2 a77.1 j78 (some a79))).bind fun w80 =>
  (chk q76.1 8 (some o)).bind fun a82 =>
  (some (kup q76.1 q76.2.1 (2, 0))).bind fun K83 =>
  (some (clr w80 q76.2.1)).bind fun w84 =>
  (f_X3_init K83 (q76.2.1 + 1) q76.2.1 w84).bind fun q85 =>
  (cha q85.1 25 (wR w80 909 a82)).bind fun a86 =>
  (ixa 0 a86.2).bind fun j87 =>
  (chk q85.1 2 (some q76.2.1)).bind fun a88 =>
  (some (tR q85.2.2 a86.1 j87 (some a88))).bind fun w89 =>
  (chk q85.1 8 (some o)).bind fun a91 =>
  (some (kup q85.1 q85.2.1 (2, 0))).bind fun K92 =>
  (some (clr w89 q85.2.1)).bind fun w93 =>
  (f_X3_init K92 (q85.2.1 + 1) q85.2.1 w93).bind fun q94 =>
  (cha q94.1 25 (wR w89 909 a91)).bind fun a95 =>
  (ixa 1 a95.2).bind fun j96 =>
  (chk q94.1 2 (some q85.2.1)).bind fun a97 =>
  (some (tR q94.2.2 a95.1 j96 (some a97))).bind fun w98 =>
  (chk q94.1 8 (some o)).bind fun a100 =>
  (some (kup q94.1 q94.2.1 (2, 0))).bind fun K101 =>
  (some (clr w98 q94.2.1)).bind fun w102 =>
  (f_X3_init K101 (q94.2.1 + 1) q94.2.1 w102).bind fun q103 =>
  (cha q103.1 25 (wR w98 909 a100)).bind fun a104 =>
  (ixa 2 a104.2).bind fun j105 =>
  (chk q103.1 2 (some q94.2.1)).bind fun a106 =>
  (some (tR q103.2.2 a104.1 j105 (some a106))).bind fun w107 =>
  (chk q103.1 8 (some o)).bind fun a109 =>
  (some (kup q103.1 q103.2.1 (2, 0))).bind fun K110 =>
  (some (clr w107 q103.2.1)).bind fun w111 =>
  (f_X3_init K110 (q103.2.1 + 1) q103.2.1 w111).bind fun q112 =>
  (cha q112.1 25 (wR w107 909 a109)).bind fun a113 =>
  (ixa 3 a113.2).bind fun j114 =>
  (chk q112.1 2 (some q103.2.1)).bind fun a115 =>
  (some (tR q112.2.2 a113.1 j114 (some a115))).bind fun w116 =>
  (chk q112.1 8 (some o)).bind fun a118 =>
  (some (kup q112.1 q112.2.1 (2, 0))).bind fun K119 =>
  (some (clr w116 q112.2.1)).bind fun w120 =>
  (f_X3_init K119 (q112.2.1 + 1) q112.2.1 w120).bind fun q121 =>
  (cha q121.1 25 (wR w116 909 a118)).bind fun a122 =>
  (ixa 4 a122.2).bind fun j123 =>
  (chk q121.1 2 (some q112.2.1)).bind fun a124 =>
  (some (tR q121.2.2 a122.1 j123 (some a124))).bind fun w125 =>
  (chk q121.1 8 (some o)).bind fun a127 =>
  (some (kup q121.1 q121.2.1 (2, 0))).bind fun K128 =>
  (some (clr w125 q121.2.1)).bind fun w129 =>
  (f_X3_init K128 (q121.2.1 + 1) q121.2.1 w129).bind fun q130 =>
  (cha q130.1 25 (wR w125 909 a127)).bind fun a131 =>
  (ixa 5 a131.2).bind fun j132 =>
  (chk q130.1 2 (some q121.2.1)).bind fun a133 =>
  (some (tR q130.2.2 a131.1 j132 (some a133))).bind fun w134 =>
  (chk q130.1 8 (some o)).bind fun a136 =>
  (some (kup q130.1 q130.2.1 (2, 0))).bind fun K137 =>
  (some (clr w134 q130.2.1)).bind fun w138 =>
  (f_X3_init K137 (q130.2.1 + 1) q130.2.1 w138).bind fun q139 =>
  (cha q139.1 25 (wR w134 909 a136)).bind fun a140 =>
  (ixa 6 a140.2).bind fun j141 =>
  (chk q139.1 2 (some q130.2.1)).bind fun a142 =>
  (some (tR q139.2.2 a140.1 j141 (some a142))).bind fun w143 =>
  (chk q139.1 8 (some o)).bind fun a145 =>
  (some (kup q139.1 q139.2.1 (2, 0))).bind fun K146 =>
  (some (clr w143 q139.2.1)).bind fun w147 =>
  (f_X3_init K146 (q139.2.1 + 1) q139.2.1 w147).bind fun q148 =>
  (cha q148.1 25 (wR w143 909 a145)).bind fun a149 =>
  (ixa 7 a149.2).bind fun j150 =>
  (chk q148.1 2 (some q139.2.1)).bind fun a151 =>
  (some (tR q148.2.2 a149.1 j150 (some a151))).bind fun w152 =>
  (chk q148.1 8 (some o)).bind fun a154 =>
  (some (kup q148.1 q148.2.1 (2, 0))).bind fun K155 =>
  (some (clr w152 q148.2.1)).bind fun w156 =>
  (f_X3_init K155 (q148.2.1 + 1) q148.2.1 w156).bind fun q157 =>
  (cha q157.1 25 (wR w152 909 a154)).bind fun a158 =>
  (ixa 8 a158.2).bind fun j159 =>
  (chk q157.1 2 (some q148.2.1)).bind fun a160 =>
  (some (tR q157.2.2 a158.1 j159 (some a160))).bind fun w161 =>
  (chk q157.1 8 (some o)).bind fun a163 =>
  (some (kup q157.1 q157.2.1 (2, 0))).bind fun K164 =>
  (some (clr w161 q157.2.1)).bind fun w165 =>
  (f_X3_init K164 (q157.2.1 + 1) q157.2.1 w165).bind fun q166 =>
  (cha q166.1 25 (wR w161 909 a163)).bind fun a167 =>
  (ixa 9 a167.2).bind fun j168 =>
  (chk q166.1 2 (some q157.2.1)).bind fun a169 =>
  (some (tR q166.2.2 a167.1 j168 (some a169))).bind fun w170 =>
  (chk q166.1 8 (some o)).bind fun a172 =>
  (some (kup q166.1 q166.2.1 (2, 0))).bind fun K173 =>
  (some (clr w170 q166.2.1)).bind fun w174 =>
  (f_X3_init K173 (q166.2.1 + 1) q166.2.1 w174).bind fun q175 =>
  (cha q175.1 25 (wR w170 909 a172)).bind fun a176 =>
  (ixa 10 a176.2).bind fun j177 =>
  (chk q175.1 2 (some q166.2.1)).bind fun a178 =>
  (some (tR q175.2.2 a176.1 j177 (some a178))).bind fun w179 =>
  (chk q175.1 8 (some o)).bind fun a181 =>
  (some (kup q175.1 q175.2.1 (2, 0))).bind fun K182 =>
  (some (clr w179 q175.2.1)).bind fun w183 =>
  (f_X3_init K182 (q175.2.1 + 1) q175.2.1 w183).bind fun q184 =>
  (cha q184.1 25 (wR w179 909 a181)).bind fun a185 =>
  (ixa 11 a185.2).bind fun j186 =>
  (chk q184.1 2 (some q175.2.1)).bind fun a187 =>
  (some (tR q184.2.2 a185.1 j186 (some a187))).bind fun w188 =>
  (chk q184.1 8 (some o)).bind fun a190 =>
  (f_X9_clear q184.1 a190 w188).bind fun q191 =>
  some (q184.1, q184.2.1, q191)

def f_L_find (K : Kd) (a_0 : Option Nat) (a_1 : Int32) (a_2 : Option Nat) (w : Wd) : Option (Int32 × Wd) :=
  (chk K 10 a_0).bind fun a1 =>
  (f_X12_find K a1 a_1 w).bind fun q2 =>
  xh q2 (fun v3 =>
    (cha K 23 a_2).bind fun a6 =>
    (ixa 0 a6.2).bind fun j7 =>
    (some (tJ q2.2 a6.1 j7 (v3.toInt64))).bind fun w8 =>
    some (0, w8)) (fun c4 =>
    if c4 = 2 then
      (some (1, q2.2))
    else none)

def f_L_witness (K : Kd) (a_0 : Option Nat) (a_1 : Int32) (a_2 : Int32) (a_3 : Option Nat) (w : Wd) : Option (Int32 × Wd) :=
  (chk K 10 a_0).bind fun a1 =>
  (f_X12_witness K a1 a_1 a_2 w).bind fun q2 =>
  xh q2 (fun v3 =>
    (cha K 23 a_3).bind fun a6 =>
    (ixa 0 a6.2).bind fun j7 =>
    (some (tJ q2.2 a6.1 j7 (v3.toInt64))).bind fun w8 =>
    some (0, w8)) (fun c4 =>
    if c4 = 1 then
      (some (1, q2.2))
    else none)

def f_L_isOff (K : Kd) (a_0 : Option Nat) (a_1 : Int32) (a_2 : Int32) (a_3 : Option Nat) (w : Wd) : Option (Int32 × Wd) :=
  (chk K 10 a_0).bind fun a1 =>
  (f_X12_isOff K a1 a_1 a_2 w).bind fun q2 =>
  xh q2 (fun v3 =>
    if (b2i v3) = 0 then
      ((cha K 23 a_3).bind fun a8 =>
      (ixa 0 a8.2).bind fun j9 =>
      (some (tJ q2.2 a8.1 j9 0)).bind fun w10 =>
      some (0, w10))
    else
      ((cha K 23 a_3).bind fun a11 =>
      (ixa 0 a11.2).bind fun j12 =>
      (some (tJ q2.2 a11.1 j12 1)).bind fun w13 =>
      some (0, w13))) (fun c4 =>
    if c4 = 1 then
      (some (1, q2.2))
    else
    if c4 = 2 then
      (some (2, q2.2))
    else none)

def f_L_isBarred (K : Kd) (a_0 : Option Nat) (a_1 : Int32) (a_2 : Int32) (a_3 : Option Nat) (w : Wd) : Option (Int32 × Wd) :=
  (chk K 10 a_0).bind fun a1 =>
  (f_X12_isBarred K a1 a_1 a_2 w).bind fun q2 =>
  xh q2 (fun v3 =>
    if (b2i v3) = 0 then
      ((cha K 23 a_3).bind fun a7 =>
      (ixa 0 a7.2).bind fun j8 =>
      (some (tJ q2.2 a7.1 j8 0)).bind fun w9 =>
      some (0, w9))
    else
      ((cha K 23 a_3).bind fun a10 =>
      (ixa 0 a10.2).bind fun j11 =>
      (some (tJ q2.2 a10.1 j11 1)).bind fun w12 =>
      some (0, w12))) (fun c4 =>
    if c4 = 1 then
      (some (1, q2.2))
    else none)

def f_L_load (K : Kd) (a_0 : Option Nat) (a_1 : Int32) (a_2 : Option Nat) (w : Wd) : Option (Int32 × Wd) :=
  (chk K 10 a_0).bind fun a1 =>
  (f_X12_load K a1 a_1 w).bind fun q2 =>
  xh q2 (fun v3 =>
    (cha K 23 a_2).bind fun a6 =>
    (ixa 0 a6.2).bind fun j7 =>
    (some (tJ q2.2 a6.1 j7 (v3.toInt64))).bind fun w8 =>
    some (0, w8)) (fun c4 =>
    if c4 = 1 then
      (some (1, q2.2))
    else none)

def f_L_matter (K : Kd) (a_0 : Option Nat) (a_1 : Int32) (a_2 : Int32) (a_3 : Option Nat) (w : Wd) : Option (Int32 × Wd) :=
  (chk K 10 a_0).bind fun a1 =>
  (f_X12_matter K a1 a_1 a_2 w).bind fun q2 =>
  xh q2 (fun v3 =>
    (cha K 23 a_3).bind fun a6 =>
    (ixa 0 a6.2).bind fun j7 =>
    (some (tJ q2.2 a6.1 j7 (v3.toInt64))).bind fun w8 =>
    some (0, w8)) (fun c4 =>
    if c4 = 1 then
      (some (1, q2.2))
    else none)

def f_L_hearing (K : Kd) (a_0 : Option Nat) (a_1 : Int32) (a_2 : Int32) (a_3 : Option Nat) (w : Wd) : Option (Int32 × Wd) :=
  (chk K 10 a_0).bind fun a1 =>
  (f_X12_hearing K a1 a_1 a_2 w).bind fun q2 =>
  xh q2 (fun v3 =>
    (cha K 23 a_3).bind fun a6 =>
    (ixa 0 a6.2).bind fun j7 =>
    (some (tJ q2.2 a6.1 j7 (v3.toInt64))).bind fun w8 =>
    some (0, w8)) (fun c4 =>
    if c4 = 1 then
      (some (1, q2.2))
    else none)

def f_L_adjournment (K : Kd) (a_0 : Option Nat) (a_1 : Int32) (a_2 : Int32) (a_3 : Int32) (a_4 : Option Nat) (w : Wd) : Option (Int32 × Wd) :=
  (chk K 10 a_0).bind fun a1 =>
  (f_X12_adjournment K a1 a_1 a_2 a_3 w).bind fun q2 =>
  xh q2 (fun v3 =>
    (cha K 23 a_4).bind fun a6 =>
    (ixa 0 a6.2).bind fun j7 =>
    (some (tJ q2.2 a6.1 j7 (v3.toInt64))).bind fun w8 =>
    some (0, w8)) (fun c4 =>
    if c4 = 1 then
      (some (1, q2.2))
    else none)

def f_L_caseAt (K : Kd) (a_0 : Option Nat) (a_1 : Int32) (a_2 : Int32) (a_3 : Int32) (a_4 : Option Nat) (w : Wd) : Option (Int32 × Wd) :=
  (chk K 10 a_0).bind fun a1 =>
  (f_X12_caseAt K a1 a_1 a_2 a_3 w).bind fun q2 =>
  xh q2 (fun v3 =>
    (cha K 23 a_4).bind fun a7 =>
    (ixa 0 a7.2).bind fun j8 =>
    (some (tJ q2.2 a7.1 j8 (v3.toInt64))).bind fun w9 =>
    some (0, w9)) (fun c4 =>
    if c4 = 1 then
      (some (1, q2.2))
    else
    if c4 = 2 then
      (some (2, q2.2))
    else none)

def f_L_urgent (K : Kd) (a_0 : Option Nat) (a_1 : Int32) (a_2 : Option Nat) (w : Wd) : Option (Int32 × Wd) :=
  (chk K 10 a_0).bind fun a1 =>
  (f_X12_urgent K a1 a_1 w).bind fun q2 =>
  xh q2 (fun v3 =>
    (cha K 23 a_2).bind fun a6 =>
    (ixa 0 a6.2).bind fun j7 =>
    (some (tJ q2.2 a6.1 j7 (v3.toInt64))).bind fun w8 =>
    some (0, w8)) (fun c4 =>
    if c4 = 4 then
      (some (1, q2.2))
    else none)

def f_L_slack (K : Kd) (a_0 : Option Nat) (a_1 : Int32) (a_2 : Option Nat) (w : Wd) : Option (Int32 × Wd) :=
  (chk K 10 a_0).bind fun a1 =>
  (f_X12_slack K a1 a_1 w).bind fun q2 =>
  xh q2 (fun v3 =>
    (cha K 23 a_2).bind fun a6 =>
    (ixa 0 a6.2).bind fun j7 =>
    (some (tJ q2.2 a6.1 j7 (v3.toInt64))).bind fun w8 =>
    some (0, w8)) (fun c4 =>
    if c4 = 1 then
      (some (1, q2.2))
    else none)

def f_L_eligible (K : Kd) (a_0 : Option Nat) (a_1 : Int32) (a_2 : Option Nat) (w : Wd) : Option (Int32 × Wd) :=
  (chk K 10 a_0).bind fun a1 =>
  (f_X12_eligible K a1 a_1 w).bind fun q2 =>
  xh q2 (fun v3 =>
    (cha K 23 a_2).bind fun a6 =>
    (ixa 0 a6.2).bind fun j7 =>
    (some (tJ q2.2 a6.1 j7 (v3.toInt64))).bind fun w8 =>
    some (0, w8)) (fun c4 =>
    if c4 = 1 then
      (some (1, q2.2))
    else none)

def f_L_usage (K : Kd) (a_0 : Option Nat) (a_1 : Int32) (a_2 : Int32) (a_3 : Int32) (a_4 : Option Nat) (w : Wd) : Option (Int32 × Wd) :=
  (chk K 10 a_0).bind fun a1 =>
  (f_X12_usage K a1 a_1 a_2 a_3 w).bind fun q2 =>
  xh q2 (fun v3 =>
    (grd (n64 (FP.f2d v3) = true)).bind fun _ =>
    (cha K 24 a_4).bind fun a8 =>
    (ixa 0 a8.2).bind fun j9 =>
    (some (tD q2.2 a8.1 j9 (FP.f2d v3))).bind fun w10 =>
    some (0, w10)) (fun c4 =>
    if c4 = 1 then
      (some (1, q2.2))
    else
    if c4 = 2 then
      (some (2, q2.2))
    else none)

def f_L_pass (K : Kd) (a_0 : Option Nat) (a_1 : Int32) (a_2 : Option Nat) (w : Wd) : Option (Int32 × Wd) :=
  (chk K 10 a_0).bind fun a1 =>
  (f_X12_pass K a1 a_1 w).bind fun q2 =>
  xh q2 (fun v3 =>
    (cha K 23 a_2).bind fun a6 =>
    (ixa 0 a6.2).bind fun j7 =>
    (some (tJ q2.2 a6.1 j7 (v3.toInt64))).bind fun w8 =>
    some (0, w8)) (fun c4 =>
    if c4 = 2 then
      (some (1, q2.2))
    else none)

def f_L_adjourn (K : Kd) (a_0 : Option Nat) (a_1 : Int32) (a_2 : Int32) (a_3 : Option Nat) (w : Wd) : Option (Int32 × Wd) :=
  (chk K 10 a_0).bind fun a1 =>
  (f_X12_adjourn K a1 a_1 a_2 w).bind fun q2 =>
  xh q2 (fun v3 =>
    (cha K 23 a_3).bind fun a8 =>
    (ixa 0 a8.2).bind fun j9 =>
    (some (tJ q2.2 a8.1 j9 (v3.toInt64))).bind fun w10 =>
    some (0, w10)) (fun c4 =>
    if c4 = 1 then
      (some (1, q2.2))
    else
    if c4 = 2 then
      (some (2, q2.2))
    else
    if c4 = 3 then
      (some (3, q2.2))
    else none)

def f_L_withdraw (K : Kd) (a_0 : Option Nat) (a_1 : Int32) (a_2 : Int32) (a_3 : Option Nat) (w : Wd) : Option (Int32 × Wd) :=
  (chk K 10 a_0).bind fun a1 =>
  (f_X12_withdraw K a1 a_1 a_2 w).bind fun q2 =>
  xh q2 (fun v3 =>
    (cha K 23 a_3).bind fun a7 =>
    (ixa 0 a7.2).bind fun j8 =>
    (some (tJ q2.2 a7.1 j8 (v3.toInt64))).bind fun w9 =>
    some (0, w9)) (fun c4 =>
    if c4 = 1 then
      (some (1, q2.2))
    else
    if c4 = 2 then
      (some (2, q2.2))
    else none)

def f_L_addHoliday (K : Kd) (a_0 : Option Nat) (a_1 : Int32) (a_2 : Option Nat) (w : Wd) : Option (Int32 × Wd) :=
  (chk K 10 a_0).bind fun a1 =>
  (f_X12_addHoliday K a1 a_1 w).bind fun q2 =>
  xh q2 (fun v3 =>
    (cha K 23 a_2).bind fun a7 =>
    (ixa 0 a7.2).bind fun j8 =>
    (some (tJ q2.2 a7.1 j8 (v3.toInt64))).bind fun w9 =>
    some (0, w9)) (fun c4 =>
    if c4 = 2 then
      (some (1, q2.2))
    else
    if c4 = 3 then
      (some (2, q2.2))
    else none)

def f_L_addBar (K : Kd) (a_0 : Option Nat) (a_1 : Int32) (a_2 : Int32) (a_3 : Option Nat) (w : Wd) : Option (Int32 × Wd) :=
  (chk K 10 a_0).bind fun a1 =>
  (f_X12_addBar K a1 a_1 a_2 w).bind fun q2 =>
  xh q2 (fun v3 =>
    if (b2i v3) = 0 then
      ((cha K 23 a_3).bind fun a8 =>
      (ixa 0 a8.2).bind fun j9 =>
      (some (tJ q2.2 a8.1 j9 0)).bind fun w10 =>
      some (0, w10))
    else
      ((cha K 23 a_3).bind fun a11 =>
      (ixa 0 a11.2).bind fun j12 =>
      (some (tJ q2.2 a11.1 j12 1)).bind fun w13 =>
      some (0, w13))) (fun c4 =>
    if c4 = 1 then
      (some (1, q2.2))
    else
    if c4 = 3 then
      (some (2, q2.2))
    else none)

def f_J0_charAt_5068e (K : Kd) (a_1 : Int32) (w : Wd) : Option (Int32 × Wd) :=
  (f_J1_charAt_3b067 K a_1 w).bind fun q2 =>
  (grd (i2cI q2.1 = q2.1)).bind fun _ =>
  some (q2.1, q2.2)

def f_X12_problem (K : Kd) (o : Nat) (a_1 : Int32) (a_2 : Int32) (a_3 : Int32) (a_4 : Int32) (a_5 : Int32) (w : Wd) : Option ((Int32 ⊕ Nat) × Wd) :=
  (f_X12_requireHearing K o a_1 a_2 a_3 a_4 a_5 w).bind fun q1 =>
  xk q1 fun _ =>
  (f_X12_requireUnfinished K o a_1 q1.2).bind fun q3 =>
  xk q3 fun _ =>
  (chk K 5 (wR q3.2 1211 o)).bind fun a5 =>
  (f_X6_faultOf K a5 (wR q3.2 1205 o) a_1 a_2 a_3 a_4 a_5 q3.2).bind fun q6 =>
  some (.inl q6.1, q6.2)

def f_X12_plan (K : Kd) (o : Nat) (a_1 : Int32) (a_2 : Int32) (a_3 : Int32) (a_4 : Int32) (a_5 : Int32) (w : Wd) : Option ((Int32 ⊕ Nat) × Wd) :=
  (f_X12_requireHearing K o a_1 a_2 a_3 a_4 a_5 w).bind fun q1 =>
  xk q1 fun _ =>
  (f_X12_requireUnfinished K o a_1 q1.2).bind fun q3 =>
  xk q3 fun _ =>
  (chk K 5 (wR q3.2 1211 o)).bind fun a5 =>
  (f_X6_faultOf K a5 (wR q3.2 1205 o) a_1 a_2 a_3 a_4 a_5 q3.2).bind fun q6 =>
  if q6.1 = 0 then
    ((f_X12_remember K o q6.2).bind fun q8 =>
    (chk K 9 (wR q8 1205 o)).bind fun a9 =>
    (cha K 27 (wR q8 1005 a9)).bind fun a10 =>
    (ixa a_1 a10.2).bind fun j11 =>
    (chk K 6 (aR q8 a10.1 j11)).bind fun a12 =>
    (f_X7_setHearing K a12 a_2 a_3 a_4 a_5 q8).bind fun q13 =>
    (chk K 9 (wR q13 1205 o)).bind fun a14 =>
    (f_X10_limitDay K a14 a_1 q13).bind fun q15 =>
    (f_X10_countWorking K a14 (a_2 + 1) q15.1 q15.2).bind fun q16 =>
    some (.inl q16.1, q16.2))
  else
    (some (.inr 3, q6.2))

def f_X12_printDay_L20 (K : Kd) (o : Nat) (k : Int32 → Int32 → Int32 → Wd → Option ((Int32 ⊕ Nat) × Wd)) : Nat → Int32 → Int32 → Int32 → Wd → Option ((Int32 ⊕ Nat) × Wd)
  | 0, _, _, _, _ => none
  | n + 1, v1_20, v2_20, v3_20, w =>
    (chk K 9 (wR w 1205 o)).bind fun a7 =>
    (chk K 8 (wR w 1000 a7)).bind fun a8 =>
    (f_X9_size K a8 0 w).bind fun q9 =>
    if q9.1 ≤ v3_20 then
      (k v1_20 v2_20 v3_20 q9.2)
    else
      ((chk K 9 (wR q9.2 1205 o)).bind fun a11 =>
      (f_X10_caseTaking K a11 v3_20 v1_20 v2_20 q9.2).bind fun q12 =>
      if q12.1 = (-1) then
        (f_X12_printDay_L20 K o k n v1_20 v2_20 (v3_20 + 1) q12.2)
      else
        ((chk K 9 (wR q12.2 1205 o)).bind fun a14 =>
        (cha K 27 (wR q12.2 1005 a14)).bind fun a15 =>
        (ixa q12.1 a15.2).bind fun j16 =>
        (chk K 6 (aR q12.2 a15.1 j16)).bind fun a17 =>
        if (wI q12.2 703 a17) = v2_20 then
          ((f_X12_printHearing K o q12.1 q12.2).bind fun q19 =>
          f_X12_printDay_L20 K o k n v1_20 v2_20 (v3_20 + 1) q19)
        else
          (f_X12_printDay_L20 K o k n v1_20 v2_20 (v3_20 + 1) q12.2)))

def f_X12_printDay_L12 (K : Kd) (o : Nat) (k : Int32 → Int32 → Wd → Option ((Int32 ⊕ Nat) × Wd)) : Nat → Int32 → Int32 → Wd → Option ((Int32 ⊕ Nat) × Wd)
  | 0, _, _, _ => none
  | n + 1, v1_12, v2_12, w =>
    if 8 ≤ v2_12 then
      (k v1_12 v2_12 w)
    else
      (f_X12_printDay_L20 K o (fun v1_20 v2_20 v3_20 w6 =>
        f_X12_printDay_L12 K o k n v1_20 (v2_20 + 1) w6) fu v1_12 v2_12 0 w)

def f_X12_printDay (K : Kd) (o : Nat) (a_1 : Int32) (w : Wd) : Option ((Int32 ⊕ Nat) × Wd) :=
  (f_X12_requireDay K o a_1 w).bind fun q1 =>
  xk q1 fun _ =>
  (some (sI q1.2 1215 o 0)).bind fun w3 =>
  f_X12_printDay_L12 K o (fun v1_12 v2_12 w4 =>
    some (.inl (wI w4 1215 o), w4)) fu a_1 0 w3

def f_X13_wordHere_L16 (K : Kd) (o : Nat) (k : Int32 → Int32 → Int32 → Wd → Option (Int32 × Wd)) : Nat → Int32 → Int32 → Int32 → Wd → Option (Int32 × Wd)
  | 0, _, _, _, _ => none
  | n + 1, v1_16, v2_16, v3_16, w =>
    (f_J0_charAt_5068e K (v2_16 + v3_16) w).bind fun q5 =>
    if q5.1 = 32 then
      (k v1_16 v2_16 v3_16 q5.2)
    else
      (if (wI q5.2 1326 o) ≤ ((wI q5.2 1327 o) + v3_16) then
        (k v1_16 v2_16 v3_16 q5.2)
      else
        ((cha K 21 (wR q5.2 1323 o)).bind fun a8 =>
        (ixa ((wI q5.2 1327 o) + v3_16) a8.2).bind fun j9 =>
        (f_J0_charAt_5068e K (v2_16 + v3_16) q5.2).bind fun q10 =>
        if (aI q5.2 a8.1 j9) = q10.1 then
          (f_X13_wordHere_L16 K o k n v1_16 v2_16 (v3_16 + 1) q10.2)
        else
          (k v1_16 v2_16 v3_16 q10.2)))

def f_X13_wordHere_L102 (K : Kd) (o : Nat) (k : Int32 → Int32 → Int32 → Wd → Option (Int32 × Wd)) : Nat → Int32 → Int32 → Int32 → Wd → Option (Int32 × Wd)
  | 0, _, _, _, _ => none
  | n + 1, v1_102, v2_102, v3_102, w =>
    (f_J0_charAt_5068e K v2_102 w).bind fun q15 =>
    if q15.1 = 32 then
      (k v1_102 v2_102 v3_102 q15.2)
    else
      (f_X13_wordHere_L102 K o k n v1_102 (v2_102 + 1) v3_102 q15.2)

def f_X13_wordHere_L4 (K : Kd) (o : Nat) (k : Int32 → Int32 → Wd → Option (Int32 × Wd)) : Nat → Int32 → Int32 → Wd → Option (Int32 × Wd)
  | 0, _, _, _ => none
  | n + 1, v1_4, v2_4, w =>
    (f_J0_length_8abf5 K w).bind fun q2 =>
    if q2.1 ≤ v2_4 then
      (k v1_4 v2_4 q2.2)
    else
      (f_X13_wordHere_L16 K o (fun v1_16 v2_16 v3_16 w4 =>
        (f_J0_charAt_5068e K (v2_16 + v3_16) w4).bind fun q12 =>
        if q12.1 = 32 then
          (if ((wI q12.2 1327 o) + v3_16) = (wI q12.2 1326 o) then
            (some (v1_16, q12.2))
          else
            (f_X13_wordHere_L102 K o (fun v1_102 v2_102 v3_102 w18 =>
              f_X13_wordHere_L4 K o k n (v1_102 + 1) (v2_102 + 1) w18) fu v1_16 v2_16 v3_16 q12.2))
        else
          (f_X13_wordHere_L102 K o (fun v1_102 v2_102 v3_102 w14 =>
            f_X13_wordHere_L4 K o k n (v1_102 + 1) (v2_102 + 1) w14) fu v1_16 v2_16 v3_16 q12.2)) fu v1_4 v2_4 0 q2.2)

def f_X13_wordHere (K : Kd) (o : Nat) (w : Wd) : Option (Int32 × Wd) :=
  f_X13_wordHere_L4 K o (fun v1_4 v2_4 w1 =>
    some ((-1), w1)) fu 0 0 w

def f_X1_countFewest_L7 (K : Kd) (o : Nat) (k : Option Nat → Int32 → Wd → Option (Int32 × Wd)) : Nat → Option Nat → Int32 → Wd → Option (Int32 × Wd)
  | 0, _, _, _ => none
  | n + 1, v1_7, v2_7, w =>
    if (wI w 104 o) < v2_7 then
      (k v1_7 v2_7 w)
    else
      ((f_X12_allOf K (wI w 103 o) w).bind fun q4 =>
      (f_X1_gives K 14 (some o) 0 q4.1 0 v2_7 q4.2).bind fun q5 =>
      if (b2i q5.1) = 0 then
        (f_X1_countFewest_L7 K o k n v1_7 (v2_7 + 1) q5.2)
      else
        (some (v2_7, q5.2)))

def f_X1_countFewest (K : Kd) (o : Nat) (a_1 : Option Nat) (w : Wd) : Option (Int32 × Wd) :=
  (f_X1_prepare K o a_1 w).bind fun q1 =>
  f_X1_countFewest_L7 K o (fun v1_7 v2_7 w2 =>
    some ((-1), w2)) fu a_1 0 q1

def f_X5_init (K : Kd) (n : Nat) (o : Nat) (w : Wd) : Option (Kd × Nat × Wd) :=
  (some (kup K n (7, 0))).bind fun K1 =>
  (some (clr w n)).bind fun w2 =>
  (f_X8_init K1 (n + 1) n w2).bind fun q3 =>
  (chk q3.1 4 (some o)).bind fun a4 =>
  (some (sR q3.2.2 500 a4 (some n))).bind fun w5 =>
  (some (kup q3.1 q3.2.1 (8, 0))).bind fun K6 =>
  (some (clr w5 q3.2.1)).bind fun w7 =>
  (f_X9_init K6 (q3.2.1 + 1) q3.2.1 w7).bind fun q8 =>
  (chk q8.1 4 (some o)).bind fun a9 =>
  (some (sR q8.2.2 501 a9 (some q3.2.1))).bind fun w10 =>
  (some (sI w10 503 a9 (-1))).bind fun w11 =>
  some (q8.1, q8.2.1, w11)

def f_X5_takesRoom (K : Kd) (o : Nat) (w : Wd) : Option (Bool × Wd) :=
  (f_X5_takesNewName K o 0 w).bind fun q1 =>
  if (b2i q1.1) = 0 then
    (some (false, q1.2))
  else
    ((f_X5_takes K o (some 2) q1.2).bind fun q3 =>
    if (b2i q3.1) = 0 then
      (some (false, q3.2))
    else
      ((f_X5_takesSpan K o 7 q3.2).bind fun q5 =>
      if (b2i q5.1) = 0 then
        (some (false, q5.2))
      else
        ((chk K 8 (wR q5.2 501 o)).bind fun a7 =>
        (f_X9_size K a7 0 q5.2).bind fun q8 =>
        (f_X12_slotSet K (wI q8.2 505 o) (((wI q8.2 506 o) - (wI q8.2 505 o)) + 1) q8.2).bind fun q9 =>
        (cha K 20 (wR q5.2 901 a7)).bind fun a10 =>
        (ixa (q8.1 - 1) a10.2).bind fun j11 =>
        (some (tI q9.2 a10.1 j11 q9.1)).bind fun w12 =>
        some (true, w12))))

def f_X5_takesOfficer_L12 (K : Kd) (o : Nat) (k : Int32 → Wd → Option (Bool × Wd)) : Nat → Int32 → Wd → Option (Bool × Wd)
  | 0, _, _ => none
  | n + 1, v1_12, w =>
    (chk K 7 (wR w 500 o)).bind fun a4 =>
    (grd (tkB (wR w 804 a4) = true)).bind fun _ =>
    if (wR w 804 a4) = (some 4) then
      (if v1_12 < 3 then
        ((f_X8_advance K a4 w).bind fun q8 =>
        (f_X5_takesSpan K o 599 q8).bind fun q9 =>
        if (b2i q9.1) = 0 then
          (some (false, q9.2))
        else
          ((chk K 8 (wR q9.2 501 o)).bind fun a11 =>
          (f_X9_size K a11 1 q9.2).bind fun q12 =>
          (f_X9_addOff K a11 (q12.1 - 1) (wI q12.2 505 o) (wI q12.2 506 o) q12.2).bind fun q13 =>
          f_X5_takesOfficer_L12 K o k n (v1_12 + 1) q13))
      else
        ((f_X5_fail K o 4 w).bind fun q14 =>
        some (q14.1, q14.2)))
    else
      (k v1_12 w)

def f_X5_takesOfficer (K : Kd) (o : Nat) (w : Wd) : Option (Bool × Wd) :=
  (f_X5_takesNewName K o 1 w).bind fun q1 =>
  if (b2i q1.1) = 0 then
    (some (false, q1.2))
  else
    (f_X5_takesOfficer_L12 K o (fun v1_12 w3 =>
      some (true, w3)) fu 0 q1.2)

def f_X5_takesWitness (K : Kd) (o : Nat) (w : Wd) : Option (Bool × Wd) :=
  (f_X5_takesNewName K o 2 w).bind fun q1 =>
  if (b2i q1.1) = 0 then
    (some (false, q1.2))
  else
    ((f_X5_takes K o (some 6) q1.2).bind fun q3 =>
    if (b2i q3.1) = 0 then
      (some (false, q3.2))
    else
      ((f_X5_takesSpan K o 599 q3.2).bind fun q5 =>
      if (b2i q5.1) = 0 then
        (some (false, q5.2))
      else
        ((chk K 8 (wR q5.2 501 o)).bind fun a7 =>
        (f_X9_size K a7 2 q5.2).bind fun q8 =>
        (chk K 8 (wR q8.2 501 o)).bind fun a9 =>
        (cha K 20 (wR q8.2 905 a9)).bind fun a10 =>
        (ixa (q8.1 - 1) a10.2).bind fun j11 =>
        (some (tI q8.2 a10.1 j11 (wI q8.2 505 o))).bind fun w12 =>
        (chk K 8 (wR w12 501 o)).bind fun a13 =>
        (cha K 20 (wR w12 906 a13)).bind fun a14 =>
        (ixa (q8.1 - 1) a14.2).bind fun j15 =>
        (some (tI w12 a14.1 j15 (wI w12 506 o))).bind fun w16 =>
        (some (sI w16 505 o 0)).bind fun w17 =>
        (some (sI w17 506 o 7)).bind fun w18 =>
        (chk K 7 (wR w18 500 o)).bind fun a19 =>
        (grd (tkB (wR w18 804 a19) = true)).bind fun _ =>
        if (wR w18 804 a19) = (some 2) then
          ((f_X8_advance K a19 w18).bind fun q30 =>
          (f_X5_takesSpan K o 7 q30).bind fun q31 =>
          if (b2i q31.1) = 0 then
            (some (false, q31.2))
          else
            ((chk K 8 (wR q31.2 501 o)).bind fun a33 =>
            (cha K 20 (wR q31.2 907 a33)).bind fun a34 =>
            (ixa (q8.1 - 1) a34.2).bind fun j35 =>
            (some (tI q31.2 a34.1 j35 (wI q31.2 505 o))).bind fun w36 =>
            (chk K 8 (wR w36 501 o)).bind fun a37 =>
            (cha K 20 (wR w36 908 a37)).bind fun a38 =>
            (ixa (q8.1 - 1) a38.2).bind fun j39 =>
            (some (tI w36 a38.1 j39 (wI w36 506 o))).bind fun w40 =>
            some (true, w40)))
        else
          ((chk K 8 (wR w18 501 o)).bind fun a22 =>
          (cha K 20 (wR w18 907 a22)).bind fun a23 =>
          (ixa (q8.1 - 1) a23.2).bind fun j24 =>
          (some (tI w18 a23.1 j24 (wI w18 505 o))).bind fun w25 =>
          (chk K 8 (wR w25 501 o)).bind fun a26 =>
          (cha K 20 (wR w25 908 a26)).bind fun a27 =>
          (ixa (q8.1 - 1) a27.2).bind fun j28 =>
          (some (tI w25 a27.1 j28 (wI w25 506 o))).bind fun w29 =>
          some (true, w29)))))

def f_X5_takesCase (K : Kd) (o : Nat) (w : Wd) : Option (Bool × Wd) :=
  (f_X5_takesNewName K o 3 w).bind fun q1 =>
  if (b2i q1.1) = 0 then
    (some (false, q1.2))
  else
    ((chk K 8 (wR q1.2 501 o)).bind fun a3 =>
    (f_X9_size K a3 3 q1.2).bind fun q4 =>
    (cha K 25 (wR q1.2 909 a3)).bind fun a5 =>
    (ixa (q4.1 - 1) a5.2).bind fun j6 =>
    (f_X5_takes K o (some 8) q4.2).bind fun q7 =>
    if (b2i q7.1) = 0 then
      (some (false, q7.2))
    else
      ((f_X5_takesNumber K o 0 99 q7.2).bind fun q9 =>
      if (b2i q9.1) = 0 then
        (some (false, q9.2))
      else
        ((chk K 2 (aR q4.2 a5.1 j6)).bind fun a11 =>
        (some (sI q9.2 300 a11 (wI q9.2 504 o))).bind fun w12 =>
        (f_X5_takes K o (some 2) w12).bind fun q13 =>
        if (b2i q13.1) = 0 then
          (some (false, q13.2))
        else
          ((f_X5_takesNumber K o 1 4 q13.2).bind fun q15 =>
          if (b2i q15.1) = 0 then
            (some (false, q15.2))
          else
            ((some (sI q15.2 301 a11 (wI q15.2 504 o))).bind fun w17 =>
            (f_X5_takes K o (some 9) w17).bind fun q18 =>
            if (b2i q18.1) = 0 then
              (some (false, q18.2))
            else
              ((f_X5_takesNumber K o 1 60 q18.2).bind fun q20 =>
              if (b2i q20.1) = 0 then
                (some (false, q20.2))
              else
                ((some (sI q20.2 302 a11 (wI q20.2 504 o))).bind fun w22 =>
                (chk K 7 (wR w22 500 o)).bind fun a23 =>
                (grd (tkB (wR w22 804 a23) = true)).bind fun _ =>
                if (wR w22 804 a23) = (some 10) then
                  ((some (sZ w22 303 a11 true)).bind fun w27 =>
                  (chk K 7 (wR w27 500 o)).bind fun a28 =>
                  (f_X8_advance K a28 w27).bind fun q29 =>
                  (f_X5_takesNeeds K o (aR q4.2 a5.1 j6) q29).bind fun q30 =>
                  some (q30.1, q30.2))
                else
                  ((f_X5_takesNeeds K o (aR q4.2 a5.1 j6) w22).bind fun q26 =>
                  some (q26.1, q26.2)))))))))

def f_X5_takesLengthen (K : Kd) (o : Nat) (w : Wd) : Option (Bool × Wd) :=
  (chk K 7 (wR w 500 o)).bind fun a1 =>
  (f_X8_advance K a1 w).bind fun q2 =>
  (f_X5_seesNumber K o 0 3 q2).bind fun q3 =>
  if (b2i q3.1) = 0 then
    (some (false, q3.2))
  else
    ((chk K 7 (wR q3.2 500 o)).bind fun a5 =>
    (chk K 8 (wR q3.2 501 o)).bind fun a6 =>
    (f_X12_has K (wI q3.2 912 a6) (wI q3.2 806 a5) q3.2).bind fun q7 =>
    if (b2i q7.1) = 0 then
      ((chk K 8 (wR q7.2 501 o)).bind fun a9 =>
      (some (sI q7.2 912 a9 ((wI q7.2 912 a9) ||| (1 <<< ((wI q3.2 806 a5) &&& 31))))).bind fun w10 =>
      (chk K 7 (wR w10 500 o)).bind fun a11 =>
      (f_X8_advance K a11 w10).bind fun q12 =>
      (f_X5_takesNumber K o 0 30 q12).bind fun q13 =>
      if (b2i q13.1) = 0 then
        (some (false, q13.2))
      else
        ((chk K 8 (wR q13.2 501 o)).bind fun a15 =>
        (cha K 20 (wR q13.2 911 a15)).bind fun a16 =>
        (ixa (wI q3.2 806 a5) a16.2).bind fun j17 =>
        (some (tI q13.2 a16.1 j17 (wI q13.2 504 o))).bind fun w18 =>
        some (true, w18)))
    else
      ((f_X5_fail K o 3 q7.2).bind fun q19 =>
      some (q19.1, q19.2)))

def f_X5_takesCap (K : Kd) (o : Nat) (w : Wd) : Option (Bool × Wd) :=
  (chk K 8 (wR w 501 o)).bind fun a1 =>
  if (b2i (wZ w 914 a1)) = 0 then
    ((some (sZ w 914 a1 true)).bind fun w3 =>
    (chk K 7 (wR w3 500 o)).bind fun a4 =>
    (f_X8_advance K a4 w3).bind fun q5 =>
    (f_X5_takesNumber K o 0 60 q5).bind fun q6 =>
    if (b2i q6.1) = 0 then
      (some (false, q6.2))
    else
      ((chk K 8 (wR q6.2 501 o)).bind fun a8 =>
      (some (sI q6.2 913 a8 (wI q6.2 504 o))).bind fun w9 =>
      some (true, w9)))
  else
    ((f_X5_fail K o 3 w).bind fun q10 =>
    some (q10.1, q10.2))

def f_X6_findFirst_L20 (K : Kd) (o : Nat) (k : Option Nat → Int32 → Int32 → Int32 → Int32 → Wd → Option (Bool × Wd)) : Nat → Option Nat → Int32 → Int32 → Int32 → Int32 → Wd → Option (Bool × Wd)
  | 0, _, _, _, _, _, _ => none
  | n + 1, v1_20, v2_20, v3_20, v4_20, v5_20, w =>
    if v4_20 < v5_20 then
      (k v1_20 v2_20 v3_20 v4_20 v5_20 w)
    else
      ((f_X6_findOn K o v1_20 v2_20 v5_20 v3_20 w).bind fun q6 =>
      if (b2i q6.1) = 0 then
        (f_X6_findFirst_L20 K o k n v1_20 v2_20 v3_20 v4_20 (v5_20 + 1) q6.2)
      else
        (some (true, q6.2)))

def f_X6_findFirst (K : Kd) (o : Nat) (a_1 : Option Nat) (a_2 : Int32) (a_3 : Int32) (w : Wd) : Option (Bool × Wd) :=
  (f_X6_lookAtOfficers K o a_1 a_2 w).bind fun q1 =>
  (f_X6_lastDay K a_1 a_2 q1).bind fun q2 =>
  (f_X6_firstDay K a_1 a_2 q2.2).bind fun q3 =>
  f_X6_findFirst_L20 K o (fun v1_20 v2_20 v3_20 v4_20 v5_20 w4 =>
    some (false, w4)) fu a_1 a_2 a_3 q2.1 q3.1 q3.2

def f_X6_countOpenDays_L22 (K : Kd) (o : Nat) (k : Option Nat → Int32 → Int32 → Int32 → Int32 → Wd → Option (Int32 × Wd)) : Nat → Option Nat → Int32 → Int32 → Int32 → Int32 → Wd → Option (Int32 × Wd)
  | 0, _, _, _, _, _, _ => none
  | n + 1, v1_22, v2_22, v3_22, v4_22, v5_22, w =>
    if v3_22 < v5_22 then
      (k v1_22 v2_22 v3_22 v4_22 v5_22 w)
    else
      ((f_X6_findOn K o v1_22 v2_22 v5_22 0 w).bind fun q6 =>
      if (b2i q6.1) = 0 then
        (f_X6_countOpenDays_L22 K o k n v1_22 v2_22 v3_22 v4_22 (v5_22 + 1) q6.2)
      else
        (f_X6_countOpenDays_L22 K o k n v1_22 v2_22 v3_22 (v4_22 + 1) (v5_22 + 1) q6.2))

def f_X6_countOpenDays (K : Kd) (o : Nat) (a_1 : Option Nat) (a_2 : Int32) (w : Wd) : Option (Int32 × Wd) :=
  (f_X6_lookAtOfficers K o a_1 a_2 w).bind fun q1 =>
  (f_X6_lastDay K a_1 a_2 q1).bind fun q2 =>
  (f_X6_firstDay K a_1 a_2 q2.2).bind fun q3 =>
  f_X6_countOpenDays_L22 K o (fun v1_22 v2_22 v3_22 v4_22 v5_22 w4 =>
    some (v4_22, w4)) fu a_1 a_2 q2.1 0 q3.1 q3.2

def f_X6_planWaiting_L15 (K : Kd) (o : Nat) (k : Option Nat → Int32 → Int32 → Int32 → Int32 → Wd → Option (Int32 × Wd)) : Nat → Option Nat → Int32 → Int32 → Int32 → Int32 → Wd → Option (Int32 × Wd)
  | 0, _, _, _, _, _, _ => none
  | n + 1, v1_15, v2_15, v3_15, v4_15, v5_15, w =>
    if v3_15 ≤ v5_15 then
      (k v1_15 v2_15 v3_15 v4_15 v5_15 w)
    else
      ((cha K 20 (wR w 603 o)).bind fun a5 =>
      (ixa v5_15 a5.2).bind fun j6 =>
      (f_X6_findFirst K o v1_15 (aI w a5.1 j6) v2_15 w).bind fun q7 =>
      if (b2i q7.1) = 0 then
        (f_X6_planWaiting_L15 K o k n v1_15 v2_15 v3_15 v4_15 (v5_15 + 1) q7.2)
      else
        ((cha K 20 (wR q7.2 603 o)).bind fun a9 =>
        (ixa v5_15 a9.2).bind fun j10 =>
        (f_X6_setFound K o v1_15 (aI q7.2 a9.1 j10) q7.2).bind fun q11 =>
        f_X6_planWaiting_L15 K o k n v1_15 v2_15 v3_15 (v4_15 + 1) (v5_15 + 1) q11))

def f_X6_planWaiting (K : Kd) (o : Nat) (a_1 : Option Nat) (a_2 : Int32) (w : Wd) : Option (Int32 × Wd) :=
  (chk K 9 a_1).bind fun a1 =>
  (f_X10_sortWaiting K a1 (wR w 603 o) w).bind fun q2 =>
  f_X6_planWaiting_L15 K o (fun v1_15 v2_15 v3_15 v4_15 v5_15 w3 =>
    some (v4_15, w3)) fu a_1 a_2 q2.1 0 0 q2.2

def f_L_problem (K : Kd) (a_0 : Option Nat) (a_1 : Int32) (a_2 : Int32) (a_3 : Int32) (a_4 : Int32) (a_5 : Int32) (a_6 : Option Nat) (w : Wd) : Option (Int32 × Wd) :=
  (chk K 10 a_0).bind fun a1 =>
  (f_X12_problem K a1 a_1 a_2 a_3 a_4 a_5 w).bind fun q2 =>
  xh q2 (fun v3 =>
    (cha K 23 a_6).bind fun a8 =>
    (ixa 0 a8.2).bind fun j9 =>
    (some (tJ q2.2 a8.1 j9 (v3.toInt64))).bind fun w10 =>
    some (0, w10)) (fun c4 =>
    if c4 = 1 then
      (some (1, q2.2))
    else
    if c4 = 2 then
      (some (2, q2.2))
    else
    if c4 = 3 then
      (some (3, q2.2))
    else none)

def f_L_plan (K : Kd) (a_0 : Option Nat) (a_1 : Int32) (a_2 : Int32) (a_3 : Int32) (a_4 : Int32) (a_5 : Int32) (a_6 : Option Nat) (w : Wd) : Option (Int32 × Wd) :=
  (chk K 10 a_0).bind fun a1 =>
  (f_X12_plan K a1 a_1 a_2 a_3 a_4 a_5 w).bind fun q2 =>
  xh q2 (fun v3 =>
    (cha K 23 a_6).bind fun a8 =>
    (ixa 0 a8.2).bind fun j9 =>
    (some (tJ q2.2 a8.1 j9 (v3.toInt64))).bind fun w10 =>
    some (0, w10)) (fun c4 =>
    if c4 = 1 then
      (some (1, q2.2))
    else
    if c4 = 2 then
      (some (2, q2.2))
    else
    if c4 = 3 then
      (some (3, q2.2))
    else none)

def f_L_printDay (K : Kd) (a_0 : Option Nat) (a_1 : Int32) (a_2 : Option Nat) (w : Wd) : Option (Int32 × Wd) :=
  (chk K 10 a_0).bind fun a1 =>
  (f_X12_printDay K a1 a_1 w).bind fun q2 =>
  xh q2 (fun v3 =>
    (cha K 23 a_2).bind fun a6 =>
    (ixa 0 a6.2).bind fun j7 =>
    (some (tJ q2.2 a6.1 j7 (v3.toInt64))).bind fun w8 =>
    some (0, w8)) (fun c4 =>
    if c4 = 2 then
      (some (1, q2.2))
    else none)

def f_X12_init (K : Kd) (n : Nat) (o : Nat) (w : Wd) : Option (Kd × Nat × Wd) :=
  (some (kup K n (8, 0))).bind fun K1 =>
  (some (clr w n)).bind fun w2 =>
  (f_X9_init K1 (n + 1) n w2).bind fun q3 =>
  (some (kup q3.1 q3.2.1 (21, 900))).bind fun K4 =>
  (some (clr q3.2.2 q3.2.1)).bind fun w5 =>
  (chk K4 10 (some o)).bind fun a6 =>
  (some (sR w5 1200 a6 (some q3.2.1))).bind fun w7 =>
  (some (kup K4 (q3.2.1 + 1) (4, 0))).bind fun K8 =>
  (some (clr w7 (q3.2.1 + 1))).bind fun w9 =>
  (f_X5_init K8 ((q3.2.1 + 1) + 1) (q3.2.1 + 1) w9).bind fun q10 =>
  (chk q10.1 10 (some o)).bind fun a11 =>
  (some (sR q10.2.2 1202 a11 (some (q3.2.1 + 1)))).bind fun w12 =>
  (some (sI w12 1203 a11 0)).bind fun w13 =>
  (some (sI w13 1204 a11 (-1))).bind fun w14 =>
  (some (kup q10.1 q10.2.1 (9, 0))).bind fun K15 =>
  (some (clr w14 q10.2.1)).bind fun w16 =>
  (f_X10_init K15 (q10.2.1 + 1) q10.2.1 (some n) w16).bind fun q17 =>
  (chk q17.1 10 (some o)).bind fun a18 =>
  (some (sR q17.2.2 1205 a18 (some q10.2.1))).bind fun w19 =>
  (some (kup q17.1 q17.2.1 (9, 0))).bind fun K20 =>
  (some (clr w19 q17.2.1)).bind fun w21 =>
  (f_X10_init K20 (q17.2.1 + 1) q17.2.1 (some n) w21).bind fun q22 =>
  (chk q22.1 10 (some o)).bind fun a23 =>
  (some (sR q22.2.2 1206 a23 (some q17.2.1))).bind fun w24 =>
  (some (kup q22.1 q22.2.1 (9, 0))).bind fun K25 =>
  (some (clr w24 q22.2.1)).bind fun w26 =>
  (f_X10_init K25 (q22.2.1 + 1) q22.2.1 (some n) w26).bind fun q27 =>
  (chk q27.1 10 (some o)).bind fun a28 =>
  (some (sR q27.2.2 1208 a28 (some q22.2.1))).bind fun w29 =>
  (some (kup q27.1 q27.2.1 (28, 8))).bind fun K30 =>
  (some (clr w29 q27.2.1)).bind fun w31 =>
  (chk K30 10 (some o)).bind fun a32 =>
  (some (sR w31 1209 a32 (some q27.2.1))).bind fun w33 =>
  (some (kup K30 (q27.2.1 + 1) (9, 0))).bind fun K35 =>
  (some (clr w33 (q27.2.1 + 1))).bind fun w36 =>
  (f_X10_init K35 ((q27.2.1 + 1) + 1) (q27.2.1 + 1) (some n) w36).bind fun q37 =>
  (cha q37.1 28 (wR w33 1209 a32)).bind fun a38 =>
  (ixa 0 a38.2).bind fun j39 =>
  (chk q37.1 9 (some (q27.2.1 + 1))).bind fun a40 =>
  (some (tR q37.2.2 a38.1 j39 (some a40))).bind fun w41 =>
  (chk q37.1 10 (some o)).bind fun a43 =>
  (some (kup q37.1 q37.2.1 (9, 0))).bind fun K44 =>
  (some (clr w41 q37.2.1)).bind fun w45 =>
  (f_X10_init K44 (q37.2.1 + 1) q37.2.1 (some n) w45).bind fun q46 =>
  (cha q46.1 28 (wR w41 1209 a43)).bind fun a47 =>
  (ixa 1 a47.2).bind fun j48 =>
  (chk q46.1 9 (some q37.2.1)).bind fun a49 =>
  (some (tR q46.2.2 a47.1 j48 (some a49))).bind fun w50 =>
  (chk q46.1 10 (some o)).bind fun a52 =>
  (some (kup q46.1 q46.2.1 (9, 0))).bind fun K53 =>
  (some (clr w50 q46.2.1)).bind fun w54 =>
  (f_X10_init K53 (q46.2.1 + 1) q46.2.1 (some n) w54).bind fun q55 =>
  (cha q55.1 28 (wR w50 1209 a52)).bind fun a56 =>
  (ixa 2 a56.2).bind fun j57 =>
  (chk q55.1 9 (some q46.2.1)).bind fun a58 =>
  (some (tR q55.2.2 a56.1 j57 (some a58))).bind fun w59 =>
  (chk q55.1 10 (some o)).bind fun a61 =>
  (some (kup q55.1 q55.2.1 (9, 0))).bind fun K62 =>
  (some (clr w59 q55.2.1)).bind fun w63 =>
  (f_X10_init K62 (q55.2.1 + 1) q55.2.1 (some n) w63).bind fun q64 =>
  (cha q64.1 28 (wR w59 1209 a61)).bind fun a65 =>
  (ixa 3 a65.2).bind fun j66 =>
  (chk q64.1 9 (some q55.2.1)).bind fun a67 =>
  (some (tR q64.2.2 a65.1 j66 (some a67))).bind fun w68 =>
  (chk q64.1 10 (some o)).bind fun a70 =>
  (some (kup q64.1 q64.2.1 (9, 0))).bind fun K71 =>
  (some (clr w68 q64.2.1)).bind fun w72 =>
  (f_X10_init K71 (q64.2.1 + 1) q64.2.1 (some n) w72).bind fun q73 =>
  (cha q73.1 28 (wR w68 1209 a70)).bind fun a74 =>
  (ixa 4 a74.2).bind fun j75 =>
  (chk q73.1 9 (some q64.2.1)).bind fun a76 =>
  (some (tR q73.2.2 a74.1 j75 (some a76))).bind fun w77 =>
  (chk q73.1 10 (some o)).bind fun a79 =>
  (some (kup q73.1 q73.2.1 (9, 0))).bind fun K80 =>
  (some (clr w77 q73.2.1)).bind fun w81 =>
  (f_X10_init K80 (q73.2.1 + 1) q73.2.1 (some n) w81).bind fun q82 =>
  (cha q82.1 28 (wR w77 1209 a79)).bind fun a83 =>
  (ixa 5 a83.2).bind fun j84 =>
  (chk q82.1 9 (some q73.2.1)).bind fun a85 =>
  (some (tR q82.2.2 a83.1 j84 (some a85))).bind fun w86 =>
  (chk q82.1 10 (some o)).bind fun a88 =>
  (some (kup q82.1 q82.2.1 (9, 0))).bind fun K89 =>
  (some (clr w86 q82.2.1)).bind fun w90 =>
  (f_X10_init K89 (q82.2.1 + 1) q82.2.1 (some n) w90).bind fun q91 =>
  (cha q91.1 28 (wR w86 1209 a88)).bind fun a92 =>
  (ixa 6 a92.2).bind fun j93 =>
  (chk q91.1 9 (some q82.2.1)).bind fun a94 =>
  (some (tR q91.2.2 a92.1 j93 (some a94))).bind fun w95 =>
  (chk q91.1 10 (some o)).bind fun a97 =>
  (some (kup q91.1 q91.2.1 (9, 0))).bind fun K98 =>
  (some (clr w95 q91.2.1)).bind fun w99 =>
  (f_X10_init K98 (q91.2.1 + 1) q91.2.1 (some n) w99).bind fun q100 =>
  (cha q100.1 28 (wR w95 1209 a97)).bind fun a101 =>
  (ixa 7 a101.2).bind fun j102 =>
  (chk q100.1 9 (some q91.2.1)).bind fun a103 =>
  (some (tR q100.2.2 a101.1 j102 (some a103))).bind fun w104 =>
  (some (kup q100.1 q100.2.1 (5, 0))).bind fun K106 =>
  (some (clr w104 q100.2.1)).bind fun w107 =>
  (f_X6_init K106 (q100.2.1 + 1) q100.2.1 w107).bind fun q108 =>
  (chk q108.1 10 (some o)).bind fun a109 =>
  (some (sR q108.2.2 1211 a109 (some q100.2.1))).bind fun w110 =>
  (some (kup q108.1 q108.2.1 (0, 0))).bind fun K111 =>
  (some (clr w110 q108.2.1)).bind fun w112 =>
  (f_X1_init K111 (q108.2.1 + 1) q108.2.1 w112).bind fun q113 =>
  (chk q113.1 10 (some o)).bind fun a114 =>
  (some (sR q113.2.2 1212 a114 (some q108.2.1))).bind fun w115 =>
  (some (kup q113.1 q113.2.1 (20, 12))).bind fun K116 =>
  (some (clr w115 q113.2.1)).bind fun w117 =>
  (chk K116 10 (some o)).bind fun a118 =>
  (some (sR w117 1213 a118 (some q113.2.1))).bind fun w119 =>
  (some (kup K116 (q113.2.1 + 1) (21, 348))).bind fun K120 =>
  (some (clr w119 (q113.2.1 + 1))).bind fun w121 =>
  (chk K120 10 (some o)).bind fun a122 =>
  (some (sR w121 1214 a122 (some (q113.2.1 + 1)))).bind fun w123 =>
  some (K120, ((q113.2.1 + 1) + 1), w123)

def f_X12_opening (K : Kd) (o : Nat) (a_1 : Int32) (a_2 : Int32) (w : Wd) : Option ((Int32 ⊕ Nat) × Wd) :=
  (f_X12_requireExisting K o 3 a_1 w).bind fun q1 =>
  xk q1 fun _ =>
  if a_2 < 0 then
    (some (.inr 1, q1.2))
  else
    (if a_2 ≤ 3 then
      ((f_X12_requireUnfinished K o a_1 q1.2).bind fun q5 =>
      xk q5 fun _ =>
      (chk K 5 (wR q5.2 1211 o)).bind fun a7 =>
      (f_X6_findFirst K a7 (wR q5.2 1205 o) a_1 0 q5.2).bind fun q8 =>
      if (b2i q8.1) = 0 then
        (some (.inl (-1), q8.2))
      else
        (if a_2 < 0 ∨ 2 < a_2 then
          ((chk K 5 (wR q8.2 1211 o)).bind fun a11 =>
          some (.inl (wI q8.2 611 a11), q8.2))
        else if a_2 = 0 then
          ((chk K 5 (wR q8.2 1211 o)).bind fun a13 =>
          some (.inl (wI q8.2 608 a13), q8.2))
        else if a_2 = 1 then
          ((chk K 5 (wR q8.2 1211 o)).bind fun a15 =>
          some (.inl (wI q8.2 609 a15), q8.2))
        else if a_2 = 2 then
          ((chk K 5 (wR q8.2 1211 o)).bind fun a17 =>
          some (.inl (wI q8.2 610 a17), q8.2))
        else none))
    else
      (some (.inr 1, q1.2)))

def f_X12_openDays (K : Kd) (o : Nat) (a_1 : Int32) (w : Wd) : Option ((Int32 ⊕ Nat) × Wd) :=
  (f_X12_requireExisting K o 3 a_1 w).bind fun q1 =>
  xk q1 fun _ =>
  (f_X12_requireUnfinished K o a_1 q1.2).bind fun q3 =>
  xk q3 fun _ =>
  (chk K 5 (wR q3.2 1211 o)).bind fun a5 =>
  (f_X6_countOpenDays K a5 (wR q3.2 1205 o) a_1 q3.2).bind fun q6 =>
  some (.inl q6.1, q6.2)

def f_X12_fewestOfficers (K : Kd) (o : Nat) (w : Wd) : Option (Int32 × Wd) :=
  (chk K 0 (wR w 1212 o)).bind fun a1 =>
  (f_X1_countFewest K a1 (wR w 1205 o) w).bind fun q2 =>
  some (q2.1, q2.2)

def f_X12_planNext (K : Kd) (o : Nat) (a_1 : Int32) (w : Wd) : Option ((Int32 ⊕ Nat) × Wd) :=
  (f_X12_requireExisting K o 3 a_1 w).bind fun q1 =>
  xk q1 fun _ =>
  (chk K 9 (wR q1.2 1205 o)).bind fun a3 =>
  (cha K 27 (wR q1.2 1005 a3)).bind fun a4 =>
  (ixa a_1 a4.2).bind fun j5 =>
  (chk K 6 (aR q1.2 a4.1 j5)).bind fun a6 =>
  if (wI q1.2 700 a6) = 0 then
    ((chk K 5 (wR q1.2 1211 o)).bind fun a8 =>
    (f_X6_findFirst K a8 (wR q1.2 1205 o) a_1 0 q1.2).bind fun q9 =>
    if (b2i q9.1) = 0 then
      (some (.inr 4, q9.2))
    else
      ((f_X12_remember K o q9.2).bind fun q11 =>
      (chk K 5 (wR q11 1211 o)).bind fun a12 =>
      (f_X6_setFound K a12 (wR q11 1205 o) a_1 q11).bind fun q13 =>
      (chk K 5 (wR q13 1211 o)).bind fun a14 =>
      some (.inl (wI q13 608 a14), q13)))
  else
    (some (.inr 3, q1.2))

def f_X12_planAll (K : Kd) (o : Nat) (w : Wd) : Option (Int32 × Wd) :=
  (f_X12_remember K o w).bind fun q1 =>
  (chk K 5 (wR q1 1211 o)).bind fun a2 =>
  (f_X6_planWaiting K a2 (wR q1 1205 o) 0 q1).bind fun q3 =>
  some (q3.1, q3.2)

def f_X12_forecastPlanned (K : Kd) (o : Nat) (a_1 : Int32) (w : Wd) : Option (Int32 × Wd) :=
  (chk K 9 (wR w 1208 o)).bind fun a1 =>
  (f_X10_copyFrom K a1 (wR w 1205 o) w).bind fun q2 =>
  (chk K 5 (wR q2 1211 o)).bind fun a3 =>
  (f_X6_planWaiting K a3 (wR q2 1208 o) a_1 q2).bind fun q4 =>
  some (q4.1, q4.2)

def f_X12_keyOfficer_L10 (K : Kd) (o : Nat) (k : Int32 → Int32 → Int32 → Wd → Option (Int32 × Wd)) : Nat → Int32 → Int32 → Int32 → Wd → Option (Int32 × Wd)
  | 0, _, _, _, _ => none
  | n + 1, v1_10, v2_10, v3_10, w =>
    (chk K 9 (wR w 1205 o)).bind fun a3 =>
    (chk K 8 (wR w 1000 a3)).bind fun a4 =>
    (f_X9_size K a4 1 w).bind fun q5 =>
    if q5.1 ≤ v3_10 then
      (k v1_10 v2_10 v3_10 q5.2)
    else
      ((f_X12_forecastPlanned K o (1 <<< (v3_10 &&& 31)) q5.2).bind fun q7 =>
      if v1_10 ≤ q7.1 then
        (f_X12_keyOfficer_L10 K o k n v1_10 v2_10 (v3_10 + 1) q7.2)
      else
        (f_X12_keyOfficer_L10 K o k n q7.1 v3_10 (v3_10 + 1) q7.2))

def f_X12_keyOfficer (K : Kd) (o : Nat) (w : Wd) : Option (Int32 × Wd) :=
  (f_X12_forecastPlanned K o 0 w).bind fun q1 =>
  f_X12_keyOfficer_L10 K o (fun v1_10 v2_10 v3_10 w2 =>
    some (v2_10, w2)) fu q1.1 (-1) 0 q1.2

def f_X13_next_L0 (K : Kd) (o : Nat) (k : Wd → Option Wd) : Nat → Wd → Option Wd
  | 0, _ => none
  | n + 1, w =>
    (f_X13_here K o (wI w 1326 o) w).bind fun q2 =>
    if q2.1 = 32 then
      ((some (sI q2.2 1326 o ((wI q2.2 1326 o) + 1))).bind fun w4 =>
      f_X13_next_L0 K o k n w4)
    else
      ((f_X13_here K o (wI q2.2 1326 o) q2.2).bind fun q5 =>
      if q5.1 = 10 then
        ((some (sI q5.2 1326 o ((wI q5.2 1326 o) + 1))).bind fun w7 =>
        f_X13_next_L0 K o k n w7)
      else
        (k q5.2))

def f_X13_next_L152 (K : Kd) (o : Nat) (k : Int32 → Wd → Option Wd) : Nat → Int32 → Wd → Option Wd
  | 0, _, _ => none
  | n + 1, v1_152, w =>
    (f_X13_here K o (wI w 1326 o) w).bind fun q21 =>
    (f_X13_isIn K (q21.1.toInt64) 48 57 q21.2).bind fun q22 =>
    if (b2i q22.1) = 0 then
      (k v1_152 q22.2)
    else
      (if 3 ≤ ((wI q22.2 1326 o) - (wI q22.2 1327 o)) then
        ((some (sI q22.2 1326 o ((wI q22.2 1326 o) + 1))).bind fun w25 =>
        f_X13_next_L152 K o k n v1_152 w25)
      else
        ((f_X13_here K o (wI q22.2 1326 o) q22.2).bind fun q26 =>
        (some (sI q26.2 1330 o (((10 * (wI q22.2 1330 o)) + q26.1) - 48))).bind fun w27 =>
        (some (sI w27 1326 o ((wI w27 1326 o) + 1))).bind fun w28 =>
        f_X13_next_L152 K o k n v1_152 w28))

def f_X13_next_L83 (K : Kd) (o : Nat) (k : Int32 → Wd → Option Wd) : Nat → Int32 → Wd → Option Wd
  | 0, _, _ => none
  | n + 1, v1_83, w =>
    (f_X13_here K o (wI w 1326 o) w).bind fun q33 =>
    (f_X13_isIn K (q33.1.toInt64) 97 122 q33.2).bind fun q34 =>
    if (b2i q34.1) = 0 then
      (k v1_83 q34.2)
    else
      ((some (sI q34.2 1326 o ((wI q34.2 1326 o) + 1))).bind fun w36 =>
      f_X13_next_L83 K o k n v1_83 w36)

def f_X13_next (K : Kd) (o : Nat) (w : Wd) : Option Wd :=
  f_X13_next_L0 K o (fun w1 =>
    (some (sI w1 1327 o (wI w1 1326 o))).bind fun w8 =>
    (f_X13_here K o (wI w8 1326 o) w8).bind fun q9 =>
    if q9.1 = (-1) then
      ((some (sI q9.2 1328 o 0)).bind fun w40 =>
      some w40)
    else
      ((f_X13_isIn K (q9.1.toInt64) 97 122 q9.2).bind fun q11 =>
      if (b2i q11.1) = 0 then
        ((f_X13_isIn K (q9.1.toInt64) 48 57 q11.2).bind fun q13 =>
        if (b2i q13.1) = 0 then
          ((some (sI q13.2 1326 o ((wI q13.2 1326 o) + 1))).bind fun w15 =>
          if q9.1 = 59 then
            ((some (sI w15 1328 o 3)).bind fun w18 =>
            some w18)
          else
            ((some (sI w15 1328 o 4)).bind fun w17 =>
            some w17))
        else
          ((some (sI q13.2 1330 o 0)).bind fun w19 =>
          f_X13_next_L152 K o (fun v1_152 w20 =>
            if ((wI w20 1326 o) - (wI w20 1327 o)) ≤ 3 then
              ((some (sI w20 1328 o 2)).bind fun w30 =>
              some w30)
            else
              ((some (sI w20 1328 o 4)).bind fun w31 =>
              some w31)) fu q9.1 w19))
      else
        (f_X13_next_L83 K o (fun v1_83 w32 =>
          (some (sI w32 1328 o 1)).bind fun w37 =>
          (f_X13_wordHere K o w37).bind fun q38 =>
          (some (sI q38.2 1329 o q38.1)).bind fun w39 =>
          some w39) fu q9.1 q11.2))) fu  w

def f_X13_goOn (K : Kd) (o : Nat) (w : Wd) : Option Wd :=
  (f_X13_fine K o w).bind fun q1 =>
  if (b2i q1.1) = 0 then
    (some q1.2)
  else
    ((f_X13_next K o q1.2).bind fun q3 =>
    some q3)

def f_X13_takes (K : Kd) (o : Nat) (a_1 : Int32) (w : Wd) : Option (Bool × Wd) :=
  (f_X13_isWord K o a_1 w).bind fun q1 =>
  if (b2i q1.1) = 0 then
    (some (q1.1, q1.2))
  else
    ((f_X13_next K o q1.2).bind fun q3 =>
    some (q1.1, q3))

def f_X13_passesWord (K : Kd) (o : Nat) (a_1 : Int32) (w : Wd) : Option Wd :=
  (f_X13_takes K o a_1 w).bind fun q1 =>
  (f_X13_needs K o q1.1 1 q1.2).bind fun q2 =>
  some q2

def f_X13_number (K : Kd) (o : Nat) (a_1 : Int32) (a_2 : Int32) (w : Wd) : Option (Int32 × Wd) :=
  (f_X13_look K o a_1 a_2 w).bind fun q1 =>
  (f_X13_goOn K o q1.2).bind fun q2 =>
  some (q1.1, q2)

def f_X13_numberBehind (K : Kd) (o : Nat) (a_1 : Int32) (a_2 : Int32) (a_3 : Int32) (w : Wd) : Option (Int32 × Wd) :=
  (f_X13_passesWord K o a_1 w).bind fun q1 =>
  (f_X13_number K o a_2 a_3 q1).bind fun q2 =>
  some (q2.1, q2.2)

def f_X13_newName (K : Kd) (o : Nat) (a_1 : Option Nat) (a_2 : Int32) (w : Wd) : Option Wd :=
  (f_X13_needsName K o w).bind fun q1 =>
  (f_X13_fine K o q1).bind fun q2 =>
  if (b2i q2.1) = 0 then
    (some q2.2)
  else
    ((f_X13_nameHere K o q2.2).bind fun q4 =>
    (f_X13_placeOf K q4.1 a_1 a_2 q4.2).bind fun q5 =>
    if q5.1 = (-1) then
      ((f_X13_needs K o true 3 q5.2).bind fun q16 =>
      (f_X13_fine K o q16).bind fun q17 =>
      if (b2i q17.1) = 0 then
        ((f_X13_goOn K o q17.2).bind fun q19 =>
        some q19)
      else
        ((f_X13_nameHere K o q17.2).bind fun q20 =>
        (cha K 23 a_1).bind fun a21 =>
        (ixa a_2 a21.2).bind fun j22 =>
        (some (tJ q20.2 a21.1 j22 q20.1)).bind fun w23 =>
        (f_X13_goOn K o w23).bind fun q24 =>
        some q24))
    else
      ((f_X13_needs K o false 3 q5.2).bind fun q7 =>
      (f_X13_fine K o q7).bind fun q8 =>
      if (b2i q8.1) = 0 then
        ((f_X13_goOn K o q8.2).bind fun q10 =>
        some q10)
      else
        ((f_X13_nameHere K o q8.2).bind fun q11 =>
        (cha K 23 a_1).bind fun a12 =>
        (ixa a_2 a12.2).bind fun j13 =>
        (some (tJ q11.2 a12.1 j13 q11.1)).bind fun w14 =>
        (f_X13_goOn K o w14).bind fun q15 =>
        some q15)))

def f_X13_begins (K : Kd) (o : Nat) (a_1 : Int32) (a_2 : Int32) (w : Wd) : Option (Bool × Wd) :=
  if a_2 ≤ a_1 then
    ((f_X13_needs K o false 4 w).bind fun q2 =>
    (f_X13_goOn K o q2).bind fun q3 =>
    (f_X13_fine K o q3).bind fun q4 =>
    some (q4.1, q4.2))
  else
    ((f_X13_needs K o true 4 w).bind fun q5 =>
    (f_X13_goOn K o q5).bind fun q6 =>
    (f_X13_fine K o q6).bind fun q7 =>
    some (q7.1, q7.2))

def f_X13_readsHoliday_L29 (K : Kd) (o : Nat) (k : Int32 → Int32 → Int32 → Wd → Option Wd) : Nat → Int32 → Int32 → Int32 → Wd → Option Wd
  | 0, _, _, _, _ => none
  | n + 1, v1_29, v2_29, v3_29, w =>
    if v1_29 ≤ v3_29 then
      (k v1_29 v2_29 v3_29 w)
    else
      ((f_X13_fine K o w).bind fun q8 =>
      if (b2i q8.1) = 0 then
        (k v1_29 v2_29 v3_29 q8.2)
      else
        ((cha K 20 (wR q8.2 1304 o)).bind fun a10 =>
        (ixa (2 + v3_29) a10.2).bind fun j11 =>
        if (aI q8.2 a10.1 j11) = v2_29 then
          ((f_X13_needs K o false 3 q8.2).bind fun q13 =>
          f_X13_readsHoliday_L29 K o k n v1_29 v2_29 (v3_29 + 1) q13)
        else
          ((f_X13_needs K o true 3 q8.2).bind fun q14 =>
          f_X13_readsHoliday_L29 K o k n v1_29 v2_29 (v3_29 + 1) q14)))

def f_X13_readsHoliday (K : Kd) (o : Nat) (w : Wd) : Option Wd :=
  (cha K 20 (wR w 1304 o)).bind fun a1 =>
  (ixa 1 a1.2).bind fun j2 =>
  (f_X13_begins K o (aI w a1.1 j2) 20 w).bind fun q3 =>
  if (b2i q3.1) = 0 then
    (some q3.2)
  else
    ((f_X13_look K o 0 599 q3.2).bind fun q5 =>
    f_X13_readsHoliday_L29 K o (fun v1_29 v2_29 v3_29 w6 =>
      (f_X13_goOn K o w6).bind fun q15 =>
      (f_X13_fine K o q15).bind fun q16 =>
      if (b2i q16.1) = 0 then
        (some q16.2)
      else
        ((cha K 20 (wR q16.2 1304 o)).bind fun a18 =>
        (ixa (2 + v1_29) a18.2).bind fun j19 =>
        (some (tI q16.2 a18.1 j19 v2_29)).bind fun w20 =>
        (cha K 20 (wR w20 1304 o)).bind fun a21 =>
        (ixa 1 a21.2).bind fun j22 =>
        (some (tI w20 a21.1 j22 (v1_29 + 1))).bind fun w23 =>
        some w23)) fu (aI w a1.1 j2) q5.1 0 q5.2)

def f_X13_readsRoom (K : Kd) (o : Nat) (w : Wd) : Option Wd :=
  (cha K 20 (wR w 1302 o)).bind fun a1 =>
  (ixa 0 a1.2).bind fun j2 =>
  (f_X13_begins K o (aI w a1.1 j2) 3 w).bind fun q3 =>
  if (b2i q3.1) = 0 then
    (some q3.2)
  else
    ((f_X13_newName K o (wR q3.2 1333 o) (aI w a1.1 j2) q3.2).bind fun q5 =>
    (f_X13_numberBehind K o 2 0 7 q5).bind fun q6 =>
    (f_X13_laysDraft K o (4 + (aI w a1.1 j2)) q6.1 q6.2).bind fun q7 =>
    (f_X13_number K o q6.1 7 q7).bind fun q8 =>
    (f_X13_laysDraft K o (7 + (aI w a1.1 j2)) q8.1 q8.2).bind fun q9 =>
    (f_X13_laysDraft K o 0 ((aI w a1.1 j2) + 1) q9).bind fun q10 =>
    some q10)

def f_X13_readsOfficer_L36 (K : Kd) (o : Nat) (k : Int32 → Wd → Option Wd) : Nat → Int32 → Wd → Option Wd
  | 0, _, _ => none
  | n + 1, v1_36, w =>
    (f_X13_isWord K o 4 w).bind fun q8 =>
    if (b2i q8.1) = 0 then
      (k v1_36 q8.2)
    else
      ((cha K 20 (wR q8.2 1302 o)).bind fun a10 =>
      (ixa (10 + v1_36) a10.2).bind fun j11 =>
      (f_X13_begins K o (aI q8.2 a10.1 j11) 3 q8.2).bind fun q12 =>
      if (b2i q12.1) = 0 then
        (some q12.2)
      else
        ((f_X13_number K o 0 599 q12.2).bind fun q14 =>
        (f_X13_laysDraft K o ((16 + (6 * v1_36)) + (2 * (aI q8.2 a10.1 j11))) q14.1 q14.2).bind fun q15 =>
        (f_X13_number K o q14.1 599 q15).bind fun q16 =>
        (f_X13_laysDraft K o (((16 + (6 * v1_36)) + (2 * (aI q8.2 a10.1 j11))) + 1) q16.1 q16.2).bind fun q17 =>
        (f_X13_laysDraft K o (10 + v1_36) ((aI q8.2 a10.1 j11) + 1) q17).bind fun q18 =>
        f_X13_readsOfficer_L36 K o k n v1_36 q18))

def f_X13_readsOfficer (K : Kd) (o : Nat) (w : Wd) : Option Wd :=
  (cha K 20 (wR w 1302 o)).bind fun a1 =>
  (ixa 1 a1.2).bind fun j2 =>
  (f_X13_begins K o (aI w a1.1 j2) 6 w).bind fun q3 =>
  if (b2i q3.1) = 0 then
    (some q3.2)
  else
    ((f_X13_newName K o (wR q3.2 1334 o) (aI w a1.1 j2) q3.2).bind fun q5 =>
    (f_X13_laysDraft K o (10 + (aI w a1.1 j2)) 0 q5).bind fun q6 =>
    f_X13_readsOfficer_L36 K o (fun v1_36 w7 =>
      (f_X13_laysDraft K o 1 (v1_36 + 1) w7).bind fun q19 =>
      some q19) fu (aI w a1.1 j2) q6)

def f_X13_readsWitness (K : Kd) (o : Nat) (w : Wd) : Option Wd :=
  (cha K 20 (wR w 1302 o)).bind fun a1 =>
  (ixa 2 a1.2).bind fun j2 =>
  (f_X13_begins K o (aI w a1.1 j2) 12 w).bind fun q3 =>
  if (b2i q3.1) = 0 then
    (some q3.2)
  else
    ((f_X13_newName K o (wR q3.2 1335 o) (aI w a1.1 j2) q3.2).bind fun q5 =>
    (f_X13_numberBehind K o 6 0 599 q5).bind fun q6 =>
    (f_X13_laysDraft K o (52 + (aI w a1.1 j2)) q6.1 q6.2).bind fun q7 =>
    (f_X13_number K o q6.1 599 q7).bind fun q8 =>
    (f_X13_fine K o q8.2).bind fun q9 =>
    if (b2i q9.1) = 0 then
      ((f_X13_laysDraft K o (64 + (aI w a1.1 j2)) 0 q9.2).bind fun q11 =>
      (f_X13_laysDraft K o (76 + (aI w a1.1 j2)) 7 q11).bind fun q12 =>
      (f_X13_takes K o 2 q12).bind fun q13 =>
      if (b2i q13.1) = 0 then
        ((f_X13_laysDraft K o 2 ((aI w a1.1 j2) + 1) q13.2).bind fun q15 =>
        some q15)
      else
        ((f_X13_number K o 0 7 q13.2).bind fun q16 =>
        (f_X13_laysDraft K o (64 + (aI w a1.1 j2)) q16.1 q16.2).bind fun q17 =>
        (f_X13_number K o q16.1 7 q17).bind fun q18 =>
        (f_X13_laysDraft K o (76 + (aI w a1.1 j2)) q18.1 q18.2).bind fun q19 =>
        (f_X13_laysDraft K o 2 ((aI w a1.1 j2) + 1) q19).bind fun q20 =>
        some q20))
    else
      ((cha K 20 (wR q9.2 1304 o)).bind fun a21 =>
      (ixa (22 + (aI w a1.1 j2)) a21.2).bind fun j22 =>
      (some (tI q9.2 a21.1 j22 q8.1)).bind fun w23 =>
      (f_X13_laysDraft K o (64 + (aI w a1.1 j2)) 0 w23).bind fun q24 =>
      (f_X13_laysDraft K o (76 + (aI w a1.1 j2)) 7 q24).bind fun q25 =>
      (f_X13_takes K o 2 q25).bind fun q26 =>
      if (b2i q26.1) = 0 then
        ((f_X13_laysDraft K o 2 ((aI w a1.1 j2) + 1) q26.2).bind fun q28 =>
        some q28)
      else
        ((f_X13_number K o 0 7 q26.2).bind fun q29 =>
        (f_X13_laysDraft K o (64 + (aI w a1.1 j2)) q29.1 q29.2).bind fun q30 =>
        (f_X13_number K o q29.1 7 q30).bind fun q31 =>
        (f_X13_laysDraft K o (76 + (aI w a1.1 j2)) q31.1 q31.2).bind fun q32 =>
        (f_X13_laysDraft K o 2 ((aI w a1.1 j2) + 1) q32).bind fun q33 =>
        some q33)))

def f_X13_readsNeeds (K : Kd) (o : Nat) (a_1 : Int32) (w : Wd) : Option Wd :=
  (cha K 20 (wR w 1302 o)).bind fun a1 =>
  (ixa (136 + a_1) a1.2).bind fun j2 =>
  (f_X13_bits K (aI w a1.1 j2) w).bind fun q3 =>
  (f_X13_begins K o q3.1 4 q3.2).bind fun q4 =>
  if (b2i q4.1) = 0 then
    (some q4.2)
  else
    ((cha K 20 (wR q4.2 1302 o)).bind fun a6 =>
    (ixa 2 a6.2).bind fun j7 =>
    (f_X13_known K o (wR q4.2 1335 o) (aI q4.2 a6.1 j7) q4.2).bind fun q8 =>
    (f_X13_fine K o q8.2).bind fun q9 =>
    if (b2i q9.1) = 0 then
      ((f_X13_goOn K o q9.2).bind fun q11 =>
      (f_X13_fine K o q11).bind fun q12 =>
      if (b2i q12.1) = 0 then
        (some q12.2)
      else
        ((cha K 20 (wR q12.2 1302 o)).bind fun a14 =>
        (ixa (136 + a_1) a14.2).bind fun j15 =>
        (ixa (136 + a_1) a14.2).bind fun j16 =>
        (some (tI q12.2 a14.1 j16 ((aI q12.2 a14.1 j15) ||| (1 <<< (q8.1 &&& 31))))).bind fun w17 =>
        some w17))
    else
      ((cha K 20 (wR q9.2 1302 o)).bind fun a18 =>
      (ixa (136 + a_1) a18.2).bind fun j19 =>
      (f_X13_has K (aI q9.2 a18.1 j19) q8.1 q9.2).bind fun q20 =>
      if (b2i q20.1) = 0 then
        ((f_X13_needs K o true 3 q20.2).bind fun q30 =>
        (f_X13_goOn K o q30).bind fun q31 =>
        (f_X13_fine K o q31).bind fun q32 =>
        if (b2i q32.1) = 0 then
          (some q32.2)
        else
          ((cha K 20 (wR q32.2 1302 o)).bind fun a34 =>
          (ixa (136 + a_1) a34.2).bind fun j35 =>
          (ixa (136 + a_1) a34.2).bind fun j36 =>
          (some (tI q32.2 a34.1 j36 ((aI q32.2 a34.1 j35) ||| (1 <<< (q8.1 &&& 31))))).bind fun w37 =>
          some w37))
      else
        ((f_X13_needs K o false 3 q20.2).bind fun q22 =>
        (f_X13_goOn K o q22).bind fun q23 =>
        (f_X13_fine K o q23).bind fun q24 =>
        if (b2i q24.1) = 0 then
          (some q24.2)
        else
          ((cha K 20 (wR q24.2 1302 o)).bind fun a26 =>
          (ixa (136 + a_1) a26.2).bind fun j27 =>
          (ixa (136 + a_1) a26.2).bind fun j28 =>
          (some (tI q24.2 a26.1 j28 ((aI q24.2 a26.1 j27) ||| (1 <<< (q8.1 &&& 31))))).bind fun w29 =>
          some w29))))

def f_X13_readsCase_L108 (K : Kd) (o : Nat) (k : Int32 → Wd → Option Wd) : Nat → Int32 → Wd → Option Wd
  | 0, _, _ => none
  | n + 1, v1_108, w =>
    (f_X13_isWord K o 11 w).bind fun q17 =>
    if (b2i q17.1) = 0 then
      (k v1_108 q17.2)
    else
      ((f_X13_readsNeeds K o v1_108 q17.2).bind fun q19 =>
      f_X13_readsCase_L108 K o k n v1_108 q19)

def f_X13_readsCase (K : Kd) (o : Nat) (w : Wd) : Option Wd :=
  (cha K 20 (wR w 1302 o)).bind fun a1 =>
  (ixa 3 a1.2).bind fun j2 =>
  (f_X13_begins K o (aI w a1.1 j2) 12 w).bind fun q3 =>
  if (b2i q3.1) = 0 then
    (some q3.2)
  else
    ((f_X13_newName K o (wR q3.2 1336 o) (aI w a1.1 j2) q3.2).bind fun q5 =>
    (f_X13_numberBehind K o 8 0 99 q5).bind fun q6 =>
    (f_X13_laysDraft K o (88 + (aI w a1.1 j2)) q6.1 q6.2).bind fun q7 =>
    (f_X13_numberBehind K o 2 1 4 q7).bind fun q8 =>
    (f_X13_laysDraft K o (100 + (aI w a1.1 j2)) q8.1 q8.2).bind fun q9 =>
    (f_X13_numberBehind K o 9 1 60 q9).bind fun q10 =>
    (f_X13_laysDraft K o (112 + (aI w a1.1 j2)) q10.1 q10.2).bind fun q11 =>
    (f_X13_takes K o 10 q11).bind fun q12 =>
    if (b2i q12.1) = 0 then
      ((f_X13_laysDraft K o (124 + (aI w a1.1 j2)) 0 q12.2).bind fun q14 =>
      (f_X13_laysDraft K o (136 + (aI w a1.1 j2)) 0 q14).bind fun q15 =>
      f_X13_readsCase_L108 K o (fun v1_108 w16 =>
        (f_X13_laysDraft K o 3 (v1_108 + 1) w16).bind fun q20 =>
        some q20) fu (aI w a1.1 j2) q15)
    else
      ((f_X13_laysDraft K o (124 + (aI w a1.1 j2)) 1 q12.2).bind fun q21 =>
      (f_X13_laysDraft K o (136 + (aI w a1.1 j2)) 0 q21).bind fun q22 =>
      f_X13_readsCase_L108 K o (fun v1_108 w23 =>
        (f_X13_laysDraft K o 3 (v1_108 + 1) w23).bind fun q24 =>
        some q24) fu (aI w a1.1 j2) q22))

def f_X13_readsBar (K : Kd) (o : Nat) (w : Wd) : Option Wd :=
  (f_X13_goOn K o w).bind fun q1 =>
  (cha K 20 (wR q1 1302 o)).bind fun a2 =>
  (ixa 1 a2.2).bind fun j3 =>
  (f_X13_known K o (wR q1 1334 o) (aI q1 a2.1 j3) q1).bind fun q4 =>
  (f_X13_goOn K o q4.2).bind fun q5 =>
  (cha K 20 (wR q5 1302 o)).bind fun a6 =>
  (ixa 3 a6.2).bind fun j7 =>
  (f_X13_known K o (wR q5 1336 o) (aI q5 a6.1 j7) q5).bind fun q8 =>
  (f_X13_fine K o q8.2).bind fun q9 =>
  if (b2i q9.1) = 0 then
    ((f_X13_goOn K o q9.2).bind fun q11 =>
    (f_X13_fine K o q11).bind fun q12 =>
    if (b2i q12.1) = 0 then
      (some q12.2)
    else
      ((cha K 20 (wR q12.2 1304 o)).bind fun a14 =>
      (ixa (34 + q8.1) a14.2).bind fun j15 =>
      (ixa (34 + q8.1) a14.2).bind fun j16 =>
      (some (tI q12.2 a14.1 j16 ((aI q12.2 a14.1 j15) ||| (1 <<< (q4.1 &&& 31))))).bind fun w17 =>
      some w17))
  else
    ((cha K 20 (wR q9.2 1304 o)).bind fun a18 =>
    (ixa (34 + q8.1) a18.2).bind fun j19 =>
    (f_X13_has K (aI q9.2 a18.1 j19) q4.1 q9.2).bind fun q20 =>
    if (b2i q20.1) = 0 then
      ((f_X13_needs K o true 3 q20.2).bind fun q30 =>
      (f_X13_goOn K o q30).bind fun q31 =>
      (f_X13_fine K o q31).bind fun q32 =>
      if (b2i q32.1) = 0 then
        (some q32.2)
      else
        ((cha K 20 (wR q32.2 1304 o)).bind fun a34 =>
        (ixa (34 + q8.1) a34.2).bind fun j35 =>
        (ixa (34 + q8.1) a34.2).bind fun j36 =>
        (some (tI q32.2 a34.1 j36 ((aI q32.2 a34.1 j35) ||| (1 <<< (q4.1 &&& 31))))).bind fun w37 =>
        some w37))
    else
      ((f_X13_needs K o false 3 q20.2).bind fun q22 =>
      (f_X13_goOn K o q22).bind fun q23 =>
      (f_X13_fine K o q23).bind fun q24 =>
      if (b2i q24.1) = 0 then
        (some q24.2)
      else
        ((cha K 20 (wR q24.2 1304 o)).bind fun a26 =>
        (ixa (34 + q8.1) a26.2).bind fun j27 =>
        (ixa (34 + q8.1) a26.2).bind fun j28 =>
        (some (tI q24.2 a26.1 j28 ((aI q24.2 a26.1 j27) ||| (1 <<< (q4.1 &&& 31))))).bind fun w29 =>
        some w29)))

def f_X13_readsConflict (K : Kd) (o : Nat) (w : Wd) : Option Wd :=
  (f_X13_goOn K o w).bind fun q1 =>
  (cha K 20 (wR q1 1302 o)).bind fun a2 =>
  (ixa 3 a2.2).bind fun j3 =>
  (f_X13_known K o (wR q1 1336 o) (aI q1 a2.1 j3) q1).bind fun q4 =>
  (f_X13_goOn K o q4.2).bind fun q5 =>
  (cha K 20 (wR q5 1302 o)).bind fun a6 =>
  (ixa 3 a6.2).bind fun j7 =>
  (f_X13_known K o (wR q5 1336 o) (aI q5 a6.1 j7) q5).bind fun q8 =>
  (f_X13_fine K o q8.2).bind fun q9 =>
  if (b2i q9.1) = 0 then
    ((f_X13_goOn K o q9.2).bind fun q11 =>
    (f_X13_fine K o q11).bind fun q12 =>
    if (b2i q12.1) = 0 then
      (some q12.2)
    else
      ((cha K 20 (wR q12.2 1302 o)).bind fun a14 =>
      (ixa (148 + q4.1) a14.2).bind fun j15 =>
      (ixa (148 + q4.1) a14.2).bind fun j16 =>
      (some (tI q12.2 a14.1 j16 ((aI q12.2 a14.1 j15) ||| (1 <<< (q8.1 &&& 31))))).bind fun w17 =>
      (cha K 20 (wR w17 1302 o)).bind fun a18 =>
      (ixa (148 + q8.1) a18.2).bind fun j19 =>
      (ixa (148 + q8.1) a18.2).bind fun j20 =>
      (some (tI w17 a18.1 j20 ((aI w17 a18.1 j19) ||| (1 <<< (q4.1 &&& 31))))).bind fun w21 =>
      some w21))
  else
    (if q4.1 = q8.1 then
      ((f_X13_needs K o false 3 q9.2).bind fun q23 =>
      (f_X13_goOn K o q23).bind fun q24 =>
      (f_X13_fine K o q24).bind fun q25 =>
      if (b2i q25.1) = 0 then
        (some q25.2)
      else
        ((cha K 20 (wR q25.2 1302 o)).bind fun a27 =>
        (ixa (148 + q4.1) a27.2).bind fun j28 =>
        (ixa (148 + q4.1) a27.2).bind fun j29 =>
        (some (tI q25.2 a27.1 j29 ((aI q25.2 a27.1 j28) ||| (1 <<< (q8.1 &&& 31))))).bind fun w30 =>
        (cha K 20 (wR w30 1302 o)).bind fun a31 =>
        (ixa (148 + q8.1) a31.2).bind fun j32 =>
        (ixa (148 + q8.1) a31.2).bind fun j33 =>
        (some (tI w30 a31.1 j33 ((aI w30 a31.1 j32) ||| (1 <<< (q4.1 &&& 31))))).bind fun w34 =>
        some w34))
    else
      ((cha K 20 (wR q9.2 1302 o)).bind fun a35 =>
      (ixa (148 + q4.1) a35.2).bind fun j36 =>
      (f_X13_has K (aI q9.2 a35.1 j36) q8.1 q9.2).bind fun q37 =>
      if (b2i q37.1) = 0 then
        ((f_X13_needs K o true 3 q37.2).bind fun q51 =>
        (f_X13_goOn K o q51).bind fun q52 =>
        (f_X13_fine K o q52).bind fun q53 =>
        if (b2i q53.1) = 0 then
          (some q53.2)
        else
          ((cha K 20 (wR q53.2 1302 o)).bind fun a55 =>
          (ixa (148 + q4.1) a55.2).bind fun j56 =>
          (ixa (148 + q4.1) a55.2).bind fun j57 =>
          (some (tI q53.2 a55.1 j57 ((aI q53.2 a55.1 j56) ||| (1 <<< (q8.1 &&& 31))))).bind fun w58 =>
          (cha K 20 (wR w58 1302 o)).bind fun a59 =>
          (ixa (148 + q8.1) a59.2).bind fun j60 =>
          (ixa (148 + q8.1) a59.2).bind fun j61 =>
          (some (tI w58 a59.1 j61 ((aI w58 a59.1 j60) ||| (1 <<< (q4.1 &&& 31))))).bind fun w62 =>
          some w62))
      else
        ((f_X13_needs K o false 3 q37.2).bind fun q39 =>
        (f_X13_goOn K o q39).bind fun q40 =>
        (f_X13_fine K o q40).bind fun q41 =>
        if (b2i q41.1) = 0 then
          (some q41.2)
        else
          ((cha K 20 (wR q41.2 1302 o)).bind fun a43 =>
          (ixa (148 + q4.1) a43.2).bind fun j44 =>
          (ixa (148 + q4.1) a43.2).bind fun j45 =>
          (some (tI q41.2 a43.1 j45 ((aI q41.2 a43.1 j44) ||| (1 <<< (q8.1 &&& 31))))).bind fun w46 =>
          (cha K 20 (wR w46 1302 o)).bind fun a47 =>
          (ixa (148 + q8.1) a47.2).bind fun j48 =>
          (ixa (148 + q8.1) a47.2).bind fun j49 =>
          (some (tI w46 a47.1 j49 ((aI w46 a47.1 j48) ||| (1 <<< (q4.1 &&& 31))))).bind fun w50 =>
          some w50))))

def f_X13_readsLengthen (K : Kd) (o : Nat) (w : Wd) : Option Wd :=
  (f_X13_goOn K o w).bind fun q1 =>
  (f_X13_look K o 0 3 q1).bind fun q2 =>
  (f_X13_fine K o q2.2).bind fun q3 =>
  if (b2i q3.1) = 0 then
    ((f_X13_goOn K o q3.2).bind fun q5 =>
    (f_X13_number K o 0 30 q5).bind fun q6 =>
    (f_X13_fine K o q6.2).bind fun q7 =>
    if (b2i q7.1) = 0 then
      (some q7.2)
    else
      ((cha K 20 (wR q7.2 1302 o)).bind fun a9 =>
      (ixa (166 + q2.1) a9.2).bind fun j10 =>
      (some (tI q7.2 a9.1 j10 1)).bind fun w11 =>
      (cha K 20 (wR w11 1302 o)).bind fun a12 =>
      (ixa (160 + q2.1) a12.2).bind fun j13 =>
      (some (tI w11 a12.1 j13 q6.1)).bind fun w14 =>
      some w14))
  else
    ((cha K 20 (wR q3.2 1302 o)).bind fun a15 =>
    (ixa (166 + q2.1) a15.2).bind fun j16 =>
    if (aI q3.2 a15.1 j16) = 0 then
      ((f_X13_needs K o true 3 q3.2).bind fun q29 =>
      (f_X13_goOn K o q29).bind fun q30 =>
      (f_X13_number K o 0 30 q30).bind fun q31 =>
      (f_X13_fine K o q31.2).bind fun q32 =>
      if (b2i q32.1) = 0 then
        (some q32.2)
      else
        ((cha K 20 (wR q32.2 1302 o)).bind fun a34 =>
        (ixa (166 + q2.1) a34.2).bind fun j35 =>
        (some (tI q32.2 a34.1 j35 1)).bind fun w36 =>
        (cha K 20 (wR w36 1302 o)).bind fun a37 =>
        (ixa (160 + q2.1) a37.2).bind fun j38 =>
        (some (tI w36 a37.1 j38 q31.1)).bind fun w39 =>
        some w39))
    else
      ((f_X13_needs K o false 3 q3.2).bind fun q18 =>
      (f_X13_goOn K o q18).bind fun q19 =>
      (f_X13_number K o 0 30 q19).bind fun q20 =>
      (f_X13_fine K o q20.2).bind fun q21 =>
      if (b2i q21.1) = 0 then
        (some q21.2)
      else
        ((cha K 20 (wR q21.2 1302 o)).bind fun a23 =>
        (ixa (166 + q2.1) a23.2).bind fun j24 =>
        (some (tI q21.2 a23.1 j24 1)).bind fun w25 =>
        (cha K 20 (wR w25 1302 o)).bind fun a26 =>
        (ixa (160 + q2.1) a26.2).bind fun j27 =>
        (some (tI w25 a26.1 j27 q20.1)).bind fun w28 =>
        some w28)))

def f_X13_readsCap (K : Kd) (o : Nat) (w : Wd) : Option Wd :=
  (cha K 20 (wR w 1302 o)).bind fun a1 =>
  (ixa 165 a1.2).bind fun j2 =>
  if (aI w a1.1 j2) = 0 then
    ((f_X13_needs K o true 3 w).bind fun q9 =>
    (f_X13_goOn K o q9).bind fun q10 =>
    (f_X13_laysDraft K o 165 1 q10).bind fun q11 =>
    (f_X13_number K o 0 60 q11).bind fun q12 =>
    (f_X13_laysDraft K o 164 q12.1 q12.2).bind fun q13 =>
    some q13)
  else
    ((f_X13_needs K o false 3 w).bind fun q4 =>
    (f_X13_goOn K o q4).bind fun q5 =>
    (f_X13_laysDraft K o 165 1 q5).bind fun q6 =>
    (f_X13_number K o 0 60 q6).bind fun q7 =>
    (f_X13_laysDraft K o 164 q7.1 q7.2).bind fun q8 =>
    some q8)

def f_X13_statement (K : Kd) (o : Nat) (w : Wd) : Option Wd :=
  (f_X13_isWord K o 0 w).bind fun q1 =>
  if (b2i q1.1) = 0 then
    ((f_X13_isWord K o 1 q1.2).bind fun q3 =>
    if (b2i q3.1) = 0 then
      ((f_X13_isWord K o 3 q3.2).bind fun q5 =>
      if (b2i q5.1) = 0 then
        ((f_X13_isWord K o 5 q5.2).bind fun q7 =>
        if (b2i q7.1) = 0 then
          ((f_X13_isWord K o 7 q7.2).bind fun q9 =>
          if (b2i q9.1) = 0 then
            ((f_X13_isWord K o 12 q9.2).bind fun q11 =>
            if (b2i q11.1) = 0 then
              ((f_X13_isWord K o 13 q11.2).bind fun q13 =>
              if (b2i q13.1) = 0 then
                ((f_X13_isWord K o 14 q13.2).bind fun q15 =>
                if (b2i q15.1) = 0 then
                  ((f_X13_isWord K o 15 q15.2).bind fun q17 =>
                  if (b2i q17.1) = 0 then
                    ((f_X13_needs K o false 1 q17.2).bind fun q19 =>
                    if (wI q19 1328 o) = 3 then
                      ((f_X13_needs K o true 1 q19).bind fun q23 =>
                      (f_X13_goOn K o q23).bind fun q24 =>
                      some q24)
                    else
                      ((f_X13_needs K o false 1 q19).bind fun q21 =>
                      (f_X13_goOn K o q21).bind fun q22 =>
                      some q22))
                  else
                    ((f_X13_readsCap K o q17.2).bind fun q25 =>
                    if (wI q25 1328 o) = 3 then
                      ((f_X13_needs K o true 1 q25).bind fun q29 =>
                      (f_X13_goOn K o q29).bind fun q30 =>
                      some q30)
                    else
                      ((f_X13_needs K o false 1 q25).bind fun q27 =>
                      (f_X13_goOn K o q27).bind fun q28 =>
                      some q28)))
                else
                  ((f_X13_readsLengthen K o q15.2).bind fun q31 =>
                  if (wI q31 1328 o) = 3 then
                    ((f_X13_needs K o true 1 q31).bind fun q35 =>
                    (f_X13_goOn K o q35).bind fun q36 =>
                    some q36)
                  else
                    ((f_X13_needs K o false 1 q31).bind fun q33 =>
                    (f_X13_goOn K o q33).bind fun q34 =>
                    some q34)))
              else
                ((f_X13_readsConflict K o q13.2).bind fun q37 =>
                if (wI q37 1328 o) = 3 then
                  ((f_X13_needs K o true 1 q37).bind fun q41 =>
                  (f_X13_goOn K o q41).bind fun q42 =>
                  some q42)
                else
                  ((f_X13_needs K o false 1 q37).bind fun q39 =>
                  (f_X13_goOn K o q39).bind fun q40 =>
                  some q40)))
            else
              ((f_X13_readsBar K o q11.2).bind fun q43 =>
              if (wI q43 1328 o) = 3 then
                ((f_X13_needs K o true 1 q43).bind fun q47 =>
                (f_X13_goOn K o q47).bind fun q48 =>
                some q48)
              else
                ((f_X13_needs K o false 1 q43).bind fun q45 =>
                (f_X13_goOn K o q45).bind fun q46 =>
                some q46)))
          else
            ((f_X13_readsCase K o q9.2).bind fun q49 =>
            if (wI q49 1328 o) = 3 then
              ((f_X13_needs K o true 1 q49).bind fun q53 =>
              (f_X13_goOn K o q53).bind fun q54 =>
              some q54)
            else
              ((f_X13_needs K o false 1 q49).bind fun q51 =>
              (f_X13_goOn K o q51).bind fun q52 =>
              some q52)))
        else
          ((f_X13_readsWitness K o q7.2).bind fun q55 =>
          if (wI q55 1328 o) = 3 then
            ((f_X13_needs K o true 1 q55).bind fun q59 =>
            (f_X13_goOn K o q59).bind fun q60 =>
            some q60)
          else
            ((f_X13_needs K o false 1 q55).bind fun q57 =>
            (f_X13_goOn K o q57).bind fun q58 =>
            some q58)))
      else
        ((f_X13_readsOfficer K o q5.2).bind fun q61 =>
        if (wI q61 1328 o) = 3 then
          ((f_X13_needs K o true 1 q61).bind fun q65 =>
          (f_X13_goOn K o q65).bind fun q66 =>
          some q66)
        else
          ((f_X13_needs K o false 1 q61).bind fun q63 =>
          (f_X13_goOn K o q63).bind fun q64 =>
          some q64)))
    else
      ((f_X13_readsRoom K o q3.2).bind fun q67 =>
      if (wI q67 1328 o) = 3 then
        ((f_X13_needs K o true 1 q67).bind fun q71 =>
        (f_X13_goOn K o q71).bind fun q72 =>
        some q72)
      else
        ((f_X13_needs K o false 1 q67).bind fun q69 =>
        (f_X13_goOn K o q69).bind fun q70 =>
        some q70)))
  else
    ((f_X13_readsHoliday K o q1.2).bind fun q73 =>
    if (wI q73 1328 o) = 3 then
      ((f_X13_needs K o true 1 q73).bind fun q77 =>
      (f_X13_goOn K o q77).bind fun q78 =>
      some q78)
    else
      ((f_X13_needs K o false 1 q73).bind fun q75 =>
      (f_X13_goOn K o q75).bind fun q76 =>
      some q76))

def f_X13_startsReading (K : Kd) (o : Nat) (w : Wd) : Option Wd :=
  (some (sI w 1325 o (wI w 1324 o))).bind fun w1 =>
  (some (sI w1 1324 o 0)).bind fun w2 =>
  (some (sI w2 1326 o 0)).bind fun w3 =>
  (f_X13_next K o w3).bind fun q4 =>
  some q4

def f_X13_parse_L23 (K : Kd) (o : Nat) (k : Wd → Option (Int32 × Wd)) : Nat → Wd → Option (Int32 × Wd)
  | 0, _ => none
  | n + 1, w =>
    (f_X13_fine K o w).bind fun q7 =>
    if (b2i q7.1) = 0 then
      (k q7.2)
    else
      (if (wI q7.2 1328 o) = 0 then
        (k q7.2)
      else
        ((f_X13_statement K o q7.2).bind fun q10 =>
        f_X13_parse_L23 K o k n q10))

def f_X13_parse (K : Kd) (o : Nat) (w : Wd) : Option (Int32 × Wd) :=
  (some (sI w 1300 o 0)).bind fun w1 =>
  (some (sI w1 1331 o 0)).bind fun w2 =>
  (some (sI w2 1332 o (-1))).bind fun w3 =>
  (f_X13_clears K o w3).bind fun q4 =>
  (f_X13_startsReading K o q4).bind fun q5 =>
  f_X13_parse_L23 K o (fun w6 =>
    (f_X13_fine K o w6).bind fun q11 =>
    if (b2i q11.1) = 0 then
      (some ((-1), q11.2))
    else
      ((f_X13_takesDraft K o q11.2).bind fun q13 =>
      (cha K 20 (wR q13 1301 o)).bind fun a14 =>
      (ixa 3 a14.2).bind fun j15 =>
      some ((aI q13 a14.1 j15), q13))) fu  q5

def f_X13_find (K : Kd) (o : Nat) (a_1 : Int32) (w : Wd) : Option (Int32 × Wd) :=
  (f_X13_isIn K (a_1.toInt64) 0 3 w).bind fun q1 =>
  (f_X13_is K o q1.1 q1.2).bind fun q2 =>
  if (b2i q2.1) = 0 then
    (some (0, q2.2))
  else
    ((f_X13_startsReading K o q2.2).bind fun q4 =>
    if (wI q4 1328 o) = 1 then
      (if (wI q4 1327 o) = 0 then
        (if (wI q4 1326 o) = (wI q2.2 1324 o) then
          (if (wI q2.2 1324 o) ≤ 8 then
            (if a_1 < 0 ∨ 2 < a_1 then
              ((f_X13_nameHere K o q4).bind fun q10 =>
              (cha K 20 (wR q10.2 1301 o)).bind fun a11 =>
              (ixa 3 a11.2).bind fun j12 =>
              (f_X13_placeOf K q10.1 (wR q10.2 1314 o) (aI q10.2 a11.1 j12) q10.2).bind fun q13 =>
              some (q13.1, q13.2))
            else if a_1 = 0 then
              ((f_X13_nameHere K o q4).bind fun q15 =>
              (cha K 20 (wR q15.2 1301 o)).bind fun a16 =>
              (ixa 0 a16.2).bind fun j17 =>
              (f_X13_placeOf K q15.1 (wR q15.2 1311 o) (aI q15.2 a16.1 j17) q15.2).bind fun q18 =>
              some (q18.1, q18.2))
            else if a_1 = 1 then
              ((f_X13_nameHere K o q4).bind fun q20 =>
              (cha K 20 (wR q20.2 1301 o)).bind fun a21 =>
              (ixa 1 a21.2).bind fun j22 =>
              (f_X13_placeOf K q20.1 (wR q20.2 1312 o) (aI q20.2 a21.1 j22) q20.2).bind fun q23 =>
              some (q23.1, q23.2))
            else if a_1 = 2 then
              ((f_X13_nameHere K o q4).bind fun q25 =>
              (cha K 20 (wR q25.2 1301 o)).bind fun a26 =>
              (ixa 2 a26.2).bind fun j27 =>
              (f_X13_placeOf K q25.1 (wR q25.2 1313 o) (aI q25.2 a26.1 j27) q25.2).bind fun q28 =>
              some (q28.1, q28.2))
            else none)
          else
            (some ((-1), q4)))
        else
          (some ((-1), q4)))
      else
        (some ((-1), q4)))
    else
      (some ((-1), q4)))

def f_X5_takesStatement (K : Kd) (o : Nat) (w : Wd) : Option (Bool × Wd) :=
  (chk K 7 (wR w 500 o)).bind fun a1 =>
  (tki (wR w 804 a1)).bind fun a2 =>
  (f_Jx29ce0_ordinal_8abf5 K a2 w).bind fun q3 =>
  (ixa q3.1 21).bind fun j4 =>
  if (swm.getD j4 0) < 1 ∨ 9 < (swm.getD j4 0) then
    ((f_X5_fail K o 1 q3.2).bind fun q6 =>
    some (q6.1, q6.2))
  else if (swm.getD j4 0) = 1 then
    ((f_X5_takesHoliday K o q3.2).bind fun q8 =>
    some (q8.1, q8.2))
  else if (swm.getD j4 0) = 2 then
    ((f_X5_takesRoom K o q3.2).bind fun q10 =>
    some (q10.1, q10.2))
  else if (swm.getD j4 0) = 3 then
    ((f_X5_takesOfficer K o q3.2).bind fun q12 =>
    some (q12.1, q12.2))
  else if (swm.getD j4 0) = 4 then
    ((f_X5_takesWitness K o q3.2).bind fun q14 =>
    some (q14.1, q14.2))
  else if (swm.getD j4 0) = 5 then
    ((f_X5_takesCase K o q3.2).bind fun q16 =>
    some (q16.1, q16.2))
  else if (swm.getD j4 0) = 6 then
    ((f_X5_takesBar K o q3.2).bind fun q18 =>
    some (q18.1, q18.2))
  else if (swm.getD j4 0) = 7 then
    ((f_X5_takesConflict K o q3.2).bind fun q20 =>
    some (q20.1, q20.2))
  else if (swm.getD j4 0) = 8 then
    ((f_X5_takesLengthen K o q3.2).bind fun q22 =>
    some (q22.1, q22.2))
  else if (swm.getD j4 0) = 9 then
    ((f_X5_takesCap K o q3.2).bind fun q24 =>
    some (q24.1, q24.2))
  else none

def f_L_opening (K : Kd) (a_0 : Option Nat) (a_1 : Int32) (a_2 : Int32) (a_3 : Option Nat) (w : Wd) : Option (Int32 × Wd) :=
  (chk K 10 a_0).bind fun a1 =>
  (f_X12_opening K a1 a_1 a_2 w).bind fun q2 =>
  xh q2 (fun v3 =>
    (cha K 23 a_3).bind fun a7 =>
    (ixa 0 a7.2).bind fun j8 =>
    (some (tJ q2.2 a7.1 j8 (v3.toInt64))).bind fun w9 =>
    some (0, w9)) (fun c4 =>
    if c4 = 1 then
      (some (1, q2.2))
    else
    if c4 = 3 then
      (some (2, q2.2))
    else none)

def f_L_openDays (K : Kd) (a_0 : Option Nat) (a_1 : Int32) (a_2 : Option Nat) (w : Wd) : Option (Int32 × Wd) :=
  (chk K 10 a_0).bind fun a1 =>
  (f_X12_openDays K a1 a_1 w).bind fun q2 =>
  xh q2 (fun v3 =>
    (cha K 23 a_2).bind fun a7 =>
    (ixa 0 a7.2).bind fun j8 =>
    (some (tJ q2.2 a7.1 j8 (v3.toInt64))).bind fun w9 =>
    some (0, w9)) (fun c4 =>
    if c4 = 1 then
      (some (1, q2.2))
    else
    if c4 = 3 then
      (some (2, q2.2))
    else none)

def f_L_planNext (K : Kd) (a_0 : Option Nat) (a_1 : Int32) (a_2 : Option Nat) (w : Wd) : Option (Int32 × Wd) :=
  (chk K 10 a_0).bind fun a1 =>
  (f_X12_planNext K a1 a_1 w).bind fun q2 =>
  xh q2 (fun v3 =>
    (cha K 23 a_2).bind fun a8 =>
    (ixa 0 a8.2).bind fun j9 =>
    (some (tJ q2.2 a8.1 j9 (v3.toInt64))).bind fun w10 =>
    some (0, w10)) (fun c4 =>
    if c4 = 1 then
      (some (1, q2.2))
    else
    if c4 = 3 then
      (some (2, q2.2))
    else
    if c4 = 4 then
      (some (3, q2.2))
    else none)

def f_X12_plannable (K : Kd) (o : Nat) (w : Wd) : Option (Int32 × Wd) :=
  (f_X12_forecastPlanned K o 0 w).bind fun q1 =>
  some (q1.1, q1.2)

def f_X5_read_L28 (K : Kd) (o : Nat) (k : Option Nat → Int32 → Int32 → Wd → Option (Bool × Wd)) : Nat → Option Nat → Int32 → Int32 → Wd → Option (Bool × Wd)
  | 0, _, _, _, _ => none
  | n + 1, v1_28, v2_28, v3_28, w =>
    if 900 < v3_28 then
      (k v1_28 v2_28 v3_28 w)
    else
      ((chk K 7 (wR w 500 o)).bind fun a9 =>
      (grd (tkB (wR w 804 a9) = true)).bind fun _ =>
      if (wR w 804 a9) = (some 19) then
        (some (true, w))
      else
        ((f_X5_takesStatement K o w).bind fun q12 =>
        if (b2i q12.1) = 0 then
          (some (false, q12.2))
        else
          ((f_X5_takes K o (some 18) q12.2).bind fun q14 =>
          if (b2i q14.1) = 0 then
            (some (false, q14.2))
          else
            (f_X5_read_L28 K o k n v1_28 v2_28 (v3_28 + 1) q14.2))))

def f_X5_read (K : Kd) (o : Nat) (a_1 : Option Nat) (a_2 : Int32) (w : Wd) : Option (Bool × Wd) :=
  (some (sI w 502 o 0)).bind fun w1 =>
  (some (sI w1 503 o (-1))).bind fun w2 =>
  (chk K 8 (wR w2 501 o)).bind fun a3 =>
  (f_X9_clear K a3 w2).bind fun q4 =>
  (chk K 7 (wR q4 500 o)).bind fun a5 =>
  (f_X8_begin K a5 a_1 a_2 q4).bind fun q6 =>
  f_X5_read_L28 K o (fun v1_28 v2_28 v3_28 w7 =>
    some (false, w7)) fu a_1 a_2 0 q6

def f_X12_parse (K : Kd) (o : Nat) (w : Wd) : Option (Int32 × Wd) :=
  (chk K 4 (wR w 1202 o)).bind fun a1 =>
  (f_X5_read K a1 (wR w 1200 o) (wI w 1201 o) w).bind fun q2 =>
  (some (sI q2.2 1201 o 0)).bind fun w3 =>
  (chk K 4 (wR w3 1202 o)).bind fun a4 =>
  (some (sI w3 1203 o (wI w3 502 a4))).bind fun w5 =>
  (chk K 4 (wR w5 1202 o)).bind fun a6 =>
  (some (sI w5 1204 o (wI w5 503 a6))).bind fun w7 =>
  if (b2i q2.1) = 0 then
    (some ((-1), w7))
  else
    ((chk K 9 (wR w7 1205 o)).bind fun a9 =>
    (chk K 4 (wR w7 1202 o)).bind fun a10 =>
    (f_X5_exchange K a10 (wR w7 1000 a9) w7).bind fun q11 =>
    (f_X10_begin K a9 q11.1 q11.2).bind fun q12 =>
    (some (sZ q12 1207 o false)).bind fun w13 =>
    (some (sI w13 1210 o 0)).bind fun w14 =>
    (chk K 9 (wR w14 1205 o)).bind fun a15 =>
    (chk K 8 (wR w14 1000 a15)).bind fun a16 =>
    (f_X9_size K a16 3 w14).bind fun q17 =>
    some (q17.1, q17.2))
