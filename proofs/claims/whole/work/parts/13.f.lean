/-! The law as a function. -/
def f_law_c0 (K : Kd) (L : Nat) (xs : Nat → Int32) (v1 v2 v3 v4 : Option Nat) (v5 : Int32) (w : Wd) : Option Wd :=
  (ixa (v5 + 1) L).bind fun j1 =>
  (ixa (v5 + 2) L).bind fun j2 =>
  (ixa (v5 + 3) L).bind fun j3 =>
  (ixa (v5 + 4) L).bind fun j4 =>
  (ixa (v5 + 5) L).bind fun j5 =>
  (chk K 10 v1).bind fun a6 =>
  (f_X12_feed K a6 (xs j1) (xs j2) (xs j3) (xs j4) (xs j5) w).bind fun q7 =>
  (ixa (v5 + 1) L).bind fun j8 =>
  (ixa (v5 + 2) L).bind fun j9 =>
  (ixa (v5 + 3) L).bind fun j10 =>
  (ixa (v5 + 4) L).bind fun j11 =>
  (ixa (v5 + 5) L).bind fun j12 =>
  (chk K 11 v2).bind fun a13 =>
  (f_X13_feed K a13 (xs j8) (xs j9) (xs j10) (xs j11) (xs j12) q7.2).bind fun q14 =>
  if q7.1 = q14.1 then
    (some q14.2)
  else
    (none)

def f_law_c1 (K : Kd) (L : Nat) (xs : Nat → Int32) (v1 v2 v3 v4 : Option Nat) (v5 : Int32) (w : Wd) : Option Wd :=
  (ixa (v5 + 1) L).bind fun j1 =>
  (chk K 10 v1).bind fun a2 =>
  (f_X12_truncate K a2 (xs j1) w).bind fun q3 =>
  (ixa (v5 + 1) L).bind fun j4 =>
  (chk K 11 v2).bind fun a5 =>
  (f_X13_truncate K a5 (xs j4) q3.2).bind fun q6 =>
  if (b2i q3.1) = (b2i q6.1) then
    (some q6.2)
  else
    (none)

def f_law_c2 (K : Kd) (L : Nat) (xs : Nat → Int32) (v1 v2 v3 v4 : Option Nat) (v5 : Int32) (w : Wd) : Option Wd :=
  (chk K 10 v1).bind fun a1 =>
  (f_X12_parse K a1 w).bind fun q2 =>
  (chk K 11 v2).bind fun a3 =>
  (f_X13_parse K a3 q2.2).bind fun q4 =>
  if q2.1 = q4.1 then
    (some q4.2)
  else
    (none)

def f_law_c3 (K : Kd) (L : Nat) (xs : Nat → Int32) (v1 v2 v3 v4 : Option Nat) (v5 : Int32) (w : Wd) : Option Wd :=
  (chk K 10 v1).bind fun a1 =>
  (f_X12_errorCode K a1 w).bind fun q2 =>
  (chk K 11 v2).bind fun a3 =>
  (f_X13_errorCode K a3 q2.2).bind fun q4 =>
  if q2.1 = q4.1 then
    (some q4.2)
  else
    (none)

def f_law_c4 (K : Kd) (L : Nat) (xs : Nat → Int32) (v1 v2 v3 v4 : Option Nat) (v5 : Int32) (w : Wd) : Option Wd :=
  (chk K 10 v1).bind fun a1 =>
  (f_X12_errorOffset K a1 w).bind fun q2 =>
  (chk K 11 v2).bind fun a3 =>
  (f_X13_errorOffset K a3 q2.2).bind fun q4 =>
  if q2.1 = q4.1 then
    (some q4.2)
  else
    (none)

def f_law_c5 (K : Kd) (L : Nat) (xs : Nat → Int32) (v1 v2 v3 v4 : Option Nat) (v5 : Int32) (w : Wd) : Option Wd :=
  (ixa (v5 + 1) L).bind fun j1 =>
  (chk K 10 v1).bind fun a2 =>
  (f_X12_count K a2 (xs j1) w).bind fun q3 =>
  (ixa (v5 + 1) L).bind fun j4 =>
  (chk K 11 v2).bind fun a5 =>
  (f_X13_count K a5 (xs j4) q3.2).bind fun q6 =>
  if q3.1 = q6.1 then
    (some q6.2)
  else
    (none)

def f_law_c6 (K : Kd) (L : Nat) (xs : Nat → Int32) (v1 v2 v3 v4 : Option Nat) (v5 : Int32) (w : Wd) : Option Wd :=
  (ixa (v5 + 1) L).bind fun j1 =>
  (f_L_find K v1 (xs j1) v3 w).bind fun q2 =>
  (ixa (v5 + 1) L).bind fun j3 =>
  (chk K 11 v2).bind fun a4 =>
  (f_X13_find K a4 (xs j3) q2.2).bind fun q5 =>
  (f_X13_thrown K a4 q5.2).bind fun q6 =>
  if q6.1 = q2.1 then
    (if q2.1 = 0 then
      ((cha K 23 v3).bind fun a9 =>
      (ixa 0 a9.2).bind fun j10 =>
      if (lg_cmp (aJ q6.2 a9.1 j10) (q5.1.toInt64)) = 0 then
        (some q6.2)
      else
        (none))
    else
      (some q6.2))
  else
    (none)

def f_law_c7 (K : Kd) (L : Nat) (xs : Nat → Int32) (v1 v2 v3 v4 : Option Nat) (v5 : Int32) (w : Wd) : Option Wd :=
  (ixa (v5 + 1) L).bind fun j1 =>
  (f_L_isWorkingDay K v1 (xs j1) v3 w).bind fun q2 =>
  (ixa (v5 + 1) L).bind fun j3 =>
  (chk K 11 v2).bind fun a4 =>
  (f_X13_isWorkingDay K a4 (xs j3) q2.2).bind fun q5 =>
  (f_X13_thrown K a4 q5.2).bind fun q6 =>
  if q6.1 = q2.1 then
    (if q2.1 = 0 then
      ((cha K 23 v3).bind fun a9 =>
      (ixa 0 a9.2).bind fun j10 =>
      if (b2i q5.1) = 0 then
        (if (lg_cmp (aJ q6.2 a9.1 j10) 0) = 0 then
          (some q6.2)
        else
          (none))
      else
        (if (lg_cmp (aJ q6.2 a9.1 j10) 1) = 0 then
          (some q6.2)
        else
          (none)))
    else
      (some q6.2))
  else
    (none)

def f_law_c8 (K : Kd) (L : Nat) (xs : Nat → Int32) (v1 v2 v3 v4 : Option Nat) (v5 : Int32) (w : Wd) : Option Wd :=
  (ixa (v5 + 1) L).bind fun j1 =>
  (ixa (v5 + 2) L).bind fun j2 =>
  (f_L_workingDays K v1 (xs j1) (xs j2) v3 w).bind fun q3 =>
  (ixa (v5 + 1) L).bind fun j4 =>
  (ixa (v5 + 2) L).bind fun j5 =>
  (chk K 11 v2).bind fun a6 =>
  (f_X13_workingDays K a6 (xs j4) (xs j5) q3.2).bind fun q7 =>
  (f_X13_thrown K a6 q7.2).bind fun q8 =>
  if q8.1 = q3.1 then
    (if q3.1 = 0 then
      ((cha K 23 v3).bind fun a11 =>
      (ixa 0 a11.2).bind fun j12 =>
      if (lg_cmp (aJ q8.2 a11.1 j12) (q7.1.toInt64)) = 0 then
        (some q8.2)
      else
        (none))
    else
      (some q8.2))
  else
    (none)

def f_law_c9 (K : Kd) (L : Nat) (xs : Nat → Int32) (v1 v2 v3 v4 : Option Nat) (v5 : Int32) (w : Wd) : Option Wd :=
  (ixa (v5 + 1) L).bind fun j1 =>
  (f_L_lengthening K v1 (xs j1) v3 w).bind fun q2 =>
  (ixa (v5 + 1) L).bind fun j3 =>
  (chk K 11 v2).bind fun a4 =>
  (f_X13_lengthening K a4 (xs j3) q2.2).bind fun q5 =>
  (f_X13_thrown K a4 q5.2).bind fun q6 =>
  if q6.1 = q2.1 then
    (if q2.1 = 0 then
      ((cha K 23 v3).bind fun a9 =>
      (ixa 0 a9.2).bind fun j10 =>
      if (lg_cmp (aJ q6.2 a9.1 j10) (q5.1.toInt64)) = 0 then
        (some q6.2)
      else
        (none))
    else
      (some q6.2))
  else
    (none)

def f_law_c10 (K : Kd) (L : Nat) (xs : Nat → Int32) (v1 v2 v3 v4 : Option Nat) (v5 : Int32) (w : Wd) : Option Wd :=
  (ixa (v5 + 1) L).bind fun j1 =>
  (ixa (v5 + 2) L).bind fun j2 =>
  (f_L_witness K v1 (xs j1) (xs j2) v3 w).bind fun q3 =>
  (ixa (v5 + 1) L).bind fun j4 =>
  (ixa (v5 + 2) L).bind fun j5 =>
  (chk K 11 v2).bind fun a6 =>
  (f_X13_witness K a6 (xs j4) (xs j5) q3.2).bind fun q7 =>
  (f_X13_thrown K a6 q7.2).bind fun q8 =>
  if q8.1 = q3.1 then
    (if q3.1 = 0 then
      ((cha K 23 v3).bind fun a11 =>
      (ixa 0 a11.2).bind fun j12 =>
      if (lg_cmp (aJ q8.2 a11.1 j12) (q7.1.toInt64)) = 0 then
        (some q8.2)
      else
        (none))
    else
      (some q8.2))
  else
    (none)

def f_law_c11 (K : Kd) (L : Nat) (xs : Nat → Int32) (v1 v2 v3 v4 : Option Nat) (v5 : Int32) (w : Wd) : Option Wd :=
  (ixa (v5 + 1) L).bind fun j1 =>
  (ixa (v5 + 2) L).bind fun j2 =>
  (f_L_isOff K v1 (xs j1) (xs j2) v3 w).bind fun q3 =>
  (ixa (v5 + 1) L).bind fun j4 =>
  (ixa (v5 + 2) L).bind fun j5 =>
  (chk K 11 v2).bind fun a6 =>
  (f_X13_isOff K a6 (xs j4) (xs j5) q3.2).bind fun q7 =>
  (f_X13_thrown K a6 q7.2).bind fun q8 =>
  if q8.1 = q3.1 then
    (if q3.1 = 0 then
      ((cha K 23 v3).bind fun a11 =>
      (ixa 0 a11.2).bind fun j12 =>
      if (b2i q7.1) = 0 then
        (if (lg_cmp (aJ q8.2 a11.1 j12) 0) = 0 then
          (some q8.2)
        else
          (none))
      else
        (if (lg_cmp (aJ q8.2 a11.1 j12) 1) = 0 then
          (some q8.2)
        else
          (none)))
    else
      (some q8.2))
  else
    (none)

def f_law_c12 (K : Kd) (L : Nat) (xs : Nat → Int32) (v1 v2 v3 v4 : Option Nat) (v5 : Int32) (w : Wd) : Option Wd :=
  (ixa (v5 + 1) L).bind fun j1 =>
  (ixa (v5 + 2) L).bind fun j2 =>
  (f_L_isBarred K v1 (xs j1) (xs j2) v3 w).bind fun q3 =>
  (ixa (v5 + 1) L).bind fun j4 =>
  (ixa (v5 + 2) L).bind fun j5 =>
  (chk K 11 v2).bind fun a6 =>
  (f_X13_isBarred K a6 (xs j4) (xs j5) q3.2).bind fun q7 =>
  (f_X13_thrown K a6 q7.2).bind fun q8 =>
  if q8.1 = q3.1 then
    (if q3.1 = 0 then
      ((cha K 23 v3).bind fun a11 =>
      (ixa 0 a11.2).bind fun j12 =>
      if (b2i q7.1) = 0 then
        (if (lg_cmp (aJ q8.2 a11.1 j12) 0) = 0 then
          (some q8.2)
        else
          (none))
      else
        (if (lg_cmp (aJ q8.2 a11.1 j12) 1) = 0 then
          (some q8.2)
        else
          (none)))
    else
      (some q8.2))
  else
    (none)

def f_law_c13 (K : Kd) (L : Nat) (xs : Nat → Int32) (v1 v2 v3 v4 : Option Nat) (v5 : Int32) (w : Wd) : Option Wd :=
  (ixa (v5 + 1) L).bind fun j1 =>
  (f_L_load K v1 (xs j1) v3 w).bind fun q2 =>
  (ixa (v5 + 1) L).bind fun j3 =>
  (chk K 11 v2).bind fun a4 =>
  (f_X13_load K a4 (xs j3) q2.2).bind fun q5 =>
  (f_X13_thrown K a4 q5.2).bind fun q6 =>
  if q6.1 = q2.1 then
    (if q2.1 = 0 then
      ((cha K 23 v3).bind fun a9 =>
      (ixa 0 a9.2).bind fun j10 =>
      if (lg_cmp (aJ q6.2 a9.1 j10) (q5.1.toInt64)) = 0 then
        (some q6.2)
      else
        (none))
    else
      (some q6.2))
  else
    (none)

def f_law_c14 (K : Kd) (L : Nat) (xs : Nat → Int32) (v1 v2 v3 v4 : Option Nat) (v5 : Int32) (w : Wd) : Option Wd :=
  (ixa (v5 + 1) L).bind fun j1 =>
  (ixa (v5 + 2) L).bind fun j2 =>
  (f_L_matter K v1 (xs j1) (xs j2) v3 w).bind fun q3 =>
  (ixa (v5 + 1) L).bind fun j4 =>
  (ixa (v5 + 2) L).bind fun j5 =>
  (chk K 11 v2).bind fun a6 =>
  (f_X13_matter K a6 (xs j4) (xs j5) q3.2).bind fun q7 =>
  (f_X13_thrown K a6 q7.2).bind fun q8 =>
  if q8.1 = q3.1 then
    (if q3.1 = 0 then
      ((cha K 23 v3).bind fun a11 =>
      (ixa 0 a11.2).bind fun j12 =>
      if (lg_cmp (aJ q8.2 a11.1 j12) (q7.1.toInt64)) = 0 then
        (some q8.2)
      else
        (none))
    else
      (some q8.2))
  else
    (none)

def f_law_c15 (K : Kd) (L : Nat) (xs : Nat → Int32) (v1 v2 v3 v4 : Option Nat) (v5 : Int32) (w : Wd) : Option Wd :=
  (ixa (v5 + 1) L).bind fun j1 =>
  (ixa (v5 + 2) L).bind fun j2 =>
  (f_L_hearing K v1 (xs j1) (xs j2) v3 w).bind fun q3 =>
  (ixa (v5 + 1) L).bind fun j4 =>
  (ixa (v5 + 2) L).bind fun j5 =>
  (chk K 11 v2).bind fun a6 =>
  (f_X13_hearing K a6 (xs j4) (xs j5) q3.2).bind fun q7 =>
  (f_X13_thrown K a6 q7.2).bind fun q8 =>
  if q8.1 = q3.1 then
    (if q3.1 = 0 then
      ((cha K 23 v3).bind fun a11 =>
      (ixa 0 a11.2).bind fun j12 =>
      if (lg_cmp (aJ q8.2 a11.1 j12) (q7.1.toInt64)) = 0 then
        (some q8.2)
      else
        (none))
    else
      (some q8.2))
  else
    (none)

def f_law_c16 (K : Kd) (L : Nat) (xs : Nat → Int32) (v1 v2 v3 v4 : Option Nat) (v5 : Int32) (w : Wd) : Option Wd :=
  (ixa (v5 + 1) L).bind fun j1 =>
  (ixa (v5 + 2) L).bind fun j2 =>
  (ixa (v5 + 3) L).bind fun j3 =>
  (f_L_adjournment K v1 (xs j1) (xs j2) (xs j3) v3 w).bind fun q4 =>
  (ixa (v5 + 1) L).bind fun j5 =>
  (ixa (v5 + 2) L).bind fun j6 =>
  (ixa (v5 + 3) L).bind fun j7 =>
  (chk K 11 v2).bind fun a8 =>
  (f_X13_adjournment K a8 (xs j5) (xs j6) (xs j7) q4.2).bind fun q9 =>
  (f_X13_thrown K a8 q9.2).bind fun q10 =>
  if q10.1 = q4.1 then
    (if q4.1 = 0 then
      ((cha K 23 v3).bind fun a13 =>
      (ixa 0 a13.2).bind fun j14 =>
      if (lg_cmp (aJ q10.2 a13.1 j14) (q9.1.toInt64)) = 0 then
        (some q10.2)
      else
        (none))
    else
      (some q10.2))
  else
    (none)

def f_law_c17 (K : Kd) (L : Nat) (xs : Nat → Int32) (v1 v2 v3 v4 : Option Nat) (v5 : Int32) (w : Wd) : Option Wd :=
  (ixa (v5 + 1) L).bind fun j1 =>
  (ixa (v5 + 2) L).bind fun j2 =>
  (ixa (v5 + 3) L).bind fun j3 =>
  (f_L_caseAt K v1 (xs j1) (xs j2) (xs j3) v3 w).bind fun q4 =>
  (ixa (v5 + 1) L).bind fun j5 =>
  (ixa (v5 + 2) L).bind fun j6 =>
  (ixa (v5 + 3) L).bind fun j7 =>
  (chk K 11 v2).bind fun a8 =>
  (f_X13_caseAt K a8 (xs j5) (xs j6) (xs j7) q4.2).bind fun q9 =>
  (f_X13_thrown K a8 q9.2).bind fun q10 =>
  if q10.1 = q4.1 then
    (if q4.1 = 0 then
      ((cha K 23 v3).bind fun a13 =>
      (ixa 0 a13.2).bind fun j14 =>
      if (lg_cmp (aJ q10.2 a13.1 j14) (q9.1.toInt64)) = 0 then
        (some q10.2)
      else
        (none))
    else
      (some q10.2))
  else
    (none)

def f_law_c18 (K : Kd) (L : Nat) (xs : Nat → Int32) (v1 v2 v3 v4 : Option Nat) (v5 : Int32) (w : Wd) : Option Wd :=
  (ixa (v5 + 1) L).bind fun j1 =>
  (ixa (v5 + 2) L).bind fun j2 =>
  (ixa (v5 + 3) L).bind fun j3 =>
  (ixa (v5 + 4) L).bind fun j4 =>
  (ixa (v5 + 5) L).bind fun j5 =>
  (f_L_problem K v1 (xs j1) (xs j2) (xs j3) (xs j4) (xs j5) v3 w).bind fun q6 =>
  (ixa (v5 + 1) L).bind fun j7 =>
  (ixa (v5 + 2) L).bind fun j8 =>
  (ixa (v5 + 3) L).bind fun j9 =>
  (ixa (v5 + 4) L).bind fun j10 =>
  (ixa (v5 + 5) L).bind fun j11 =>
  (chk K 11 v2).bind fun a12 =>
  (f_X13_problem K a12 (xs j7) (xs j8) (xs j9) (xs j10) (xs j11) q6.2).bind fun q13 =>
  (f_X13_thrown K a12 q13.2).bind fun q14 =>
  if q14.1 = q6.1 then
    (if q6.1 = 0 then
      ((cha K 23 v3).bind fun a17 =>
      (ixa 0 a17.2).bind fun j18 =>
      if (lg_cmp (aJ q14.2 a17.1 j18) (q13.1.toInt64)) = 0 then
        (some q14.2)
      else
        (none))
    else
      (some q14.2))
  else
    (none)

def f_law_c19 (K : Kd) (L : Nat) (xs : Nat → Int32) (v1 v2 v3 v4 : Option Nat) (v5 : Int32) (w : Wd) : Option Wd :=
  (ixa (v5 + 1) L).bind fun j1 =>
  (ixa (v5 + 2) L).bind fun j2 =>
  (f_L_opening K v1 (xs j1) (xs j2) v3 w).bind fun q3 =>
  (ixa (v5 + 1) L).bind fun j4 =>
  (ixa (v5 + 2) L).bind fun j5 =>
  (chk K 11 v2).bind fun a6 =>
  (f_X13_opening K a6 (xs j4) (xs j5) q3.2).bind fun q7 =>
  (f_X13_thrown K a6 q7.2).bind fun q8 =>
  if q8.1 = q3.1 then
    (if q3.1 = 0 then
      ((cha K 23 v3).bind fun a11 =>
      (ixa 0 a11.2).bind fun j12 =>
      if (lg_cmp (aJ q8.2 a11.1 j12) (q7.1.toInt64)) = 0 then
        (some q8.2)
      else
        (none))
    else
      (some q8.2))
  else
    (none)

def f_law_c20 (K : Kd) (L : Nat) (xs : Nat → Int32) (v1 v2 v3 v4 : Option Nat) (v5 : Int32) (w : Wd) : Option Wd :=
  (ixa (v5 + 1) L).bind fun j1 =>
  (f_L_openDays K v1 (xs j1) v3 w).bind fun q2 =>
  (ixa (v5 + 1) L).bind fun j3 =>
  (chk K 11 v2).bind fun a4 =>
  (f_X13_openDays K a4 (xs j3) q2.2).bind fun q5 =>
  (f_X13_thrown K a4 q5.2).bind fun q6 =>
  if q6.1 = q2.1 then
    (if q2.1 = 0 then
      ((cha K 23 v3).bind fun a9 =>
      (ixa 0 a9.2).bind fun j10 =>
      if (lg_cmp (aJ q6.2 a9.1 j10) (q5.1.toInt64)) = 0 then
        (some q6.2)
      else
        (none))
    else
      (some q6.2))
  else
    (none)

def f_law_c21 (K : Kd) (L : Nat) (xs : Nat → Int32) (v1 v2 v3 v4 : Option Nat) (v5 : Int32) (w : Wd) : Option Wd :=
  (ixa (v5 + 1) L).bind fun j1 =>
  (f_L_urgent K v1 (xs j1) v3 w).bind fun q2 =>
  (ixa (v5 + 1) L).bind fun j3 =>
  (chk K 11 v2).bind fun a4 =>
  (f_X13_urgent K a4 (xs j3) q2.2).bind fun q5 =>
  (f_X13_thrown K a4 q5.2).bind fun q6 =>
  if q6.1 = q2.1 then
    (if q2.1 = 0 then
      ((cha K 23 v3).bind fun a9 =>
      (ixa 0 a9.2).bind fun j10 =>
      if (lg_cmp (aJ q6.2 a9.1 j10) (q5.1.toInt64)) = 0 then
        (some q6.2)
      else
        (none))
    else
      (some q6.2))
  else
    (none)

def f_law_c22 (K : Kd) (L : Nat) (xs : Nat → Int32) (v1 v2 v3 v4 : Option Nat) (v5 : Int32) (w : Wd) : Option Wd :=
  (ixa (v5 + 1) L).bind fun j1 =>
  (f_L_slack K v1 (xs j1) v3 w).bind fun q2 =>
  (ixa (v5 + 1) L).bind fun j3 =>
  (chk K 11 v2).bind fun a4 =>
  (f_X13_slack K a4 (xs j3) q2.2).bind fun q5 =>
  (f_X13_thrown K a4 q5.2).bind fun q6 =>
  if q6.1 = q2.1 then
    (if q2.1 = 0 then
      ((cha K 23 v3).bind fun a9 =>
      (ixa 0 a9.2).bind fun j10 =>
      if (lg_cmp (aJ q6.2 a9.1 j10) (q5.1.toInt64)) = 0 then
        (some q6.2)
      else
        (none))
    else
      (some q6.2))
  else
    (none)

def f_law_c23 (K : Kd) (L : Nat) (xs : Nat → Int32) (v1 v2 v3 v4 : Option Nat) (v5 : Int32) (w : Wd) : Option Wd :=
  (ixa (v5 + 1) L).bind fun j1 =>
  (f_L_eligible K v1 (xs j1) v3 w).bind fun q2 =>
  (ixa (v5 + 1) L).bind fun j3 =>
  (chk K 11 v2).bind fun a4 =>
  (f_X13_eligible K a4 (xs j3) q2.2).bind fun q5 =>
  (f_X13_thrown K a4 q5.2).bind fun q6 =>
  if q6.1 = q2.1 then
    (if q2.1 = 0 then
      ((cha K 23 v3).bind fun a9 =>
      (ixa 0 a9.2).bind fun j10 =>
      if (lg_cmp (aJ q6.2 a9.1 j10) (q5.1.toInt64)) = 0 then
        (some q6.2)
      else
        (none))
    else
      (some q6.2))
  else
    (none)

def f_law_c24 (K : Kd) (L : Nat) (xs : Nat → Int32) (v1 v2 v3 v4 : Option Nat) (v5 : Int32) (w : Wd) : Option Wd :=
  (chk K 10 v1).bind fun a1 =>
  (f_X12_fewestOfficers K a1 w).bind fun q2 =>
  (chk K 11 v2).bind fun a3 =>
  (f_X13_fewestOfficers K a3 q2.2).bind fun q4 =>
  if q2.1 = q4.1 then
    (some q4.2)
  else
    (none)

def f_law_c25 (K : Kd) (L : Nat) (xs : Nat → Int32) (v1 v2 v3 v4 : Option Nat) (v5 : Int32) (w : Wd) : Option Wd :=
  (chk K 10 v1).bind fun a1 =>
  (f_X12_meanSlack K a1 w).bind fun q2 =>
  (chk K 11 v2).bind fun a3 =>
  (f_X13_meanSlack K a3 q2.2).bind fun q4 =>
  if (Op.cmpValue (FP.dcmp q2.1 q4.1) CmpOp.l) = 0 then
    (some q4.2)
  else
    (if (Op.cmpValue (FP.dcmp q2.1 q2.1) CmpOp.l) = 0 then
      (none)
    else
      (if (Op.cmpValue (FP.dcmp q4.1 q4.1) CmpOp.l) = 0 then
        (none)
      else
        (some q4.2)))

def f_law_c26 (K : Kd) (L : Nat) (xs : Nat → Int32) (v1 v2 v3 v4 : Option Nat) (v5 : Int32) (w : Wd) : Option Wd :=
  (ixa (v5 + 1) L).bind fun j1 =>
  (ixa (v5 + 2) L).bind fun j2 =>
  (ixa (v5 + 3) L).bind fun j3 =>
  (f_L_usage K v1 (xs j1) (xs j2) (xs j3) v4 w).bind fun q4 =>
  (ixa (v5 + 1) L).bind fun j5 =>
  (ixa (v5 + 2) L).bind fun j6 =>
  (ixa (v5 + 3) L).bind fun j7 =>
  (chk K 11 v2).bind fun a8 =>
  (f_X13_usage K a8 (xs j5) (xs j6) (xs j7) q4.2).bind fun q9 =>
  (f_X13_thrown K a8 q9.2).bind fun q10 =>
  if q10.1 = q4.1 then
    (if q4.1 = 0 then
      ((cha K 24 v4).bind fun a13 =>
      (ixa 0 a13.2).bind fun j14 =>
      (grd (n64 (FP.f2d q9.1) = true)).bind fun _ =>
      if (Op.cmpValue (FP.dcmp (aD q10.2 a13.1 j14) (FP.f2d q9.1)) CmpOp.l) = 0 then
        (some q10.2)
      else
        ((ixa 0 a13.2).bind fun j17 =>
        (ixa 0 a13.2).bind fun j18 =>
        if (Op.cmpValue (FP.dcmp (aD q10.2 a13.1 j17) (aD q10.2 a13.1 j18)) CmpOp.l) = 0 then
          (none)
        else
          (if (Op.cmpValue (FP.fcmp q9.1 q9.1) CmpOp.l) = 0 then
            (none)
          else
            (some q10.2))))
    else
      (some q10.2))
  else
    (none)

def f_law_c27 (K : Kd) (L : Nat) (xs : Nat → Int32) (v1 v2 v3 v4 : Option Nat) (v5 : Int32) (w : Wd) : Option Wd :=
  (ixa (v5 + 1) L).bind fun j1 =>
  (f_L_pass K v1 (xs j1) v3 w).bind fun q2 =>
  (ixa (v5 + 1) L).bind fun j3 =>
  (chk K 11 v2).bind fun a4 =>
  (f_X13_pass K a4 (xs j3) q2.2).bind fun q5 =>
  (f_X13_thrown K a4 q5.2).bind fun q6 =>
  if q6.1 = q2.1 then
    (if q2.1 = 0 then
      ((cha K 23 v3).bind fun a9 =>
      (ixa 0 a9.2).bind fun j10 =>
      if (lg_cmp (aJ q6.2 a9.1 j10) (q5.1.toInt64)) = 0 then
        (some q6.2)
      else
        (none))
    else
      (some q6.2))
  else
    (none)

def f_law_c28 (K : Kd) (L : Nat) (xs : Nat → Int32) (v1 v2 v3 v4 : Option Nat) (v5 : Int32) (w : Wd) : Option Wd :=
  (ixa (v5 + 1) L).bind fun j1 =>
  (ixa (v5 + 2) L).bind fun j2 =>
  (ixa (v5 + 3) L).bind fun j3 =>
  (ixa (v5 + 4) L).bind fun j4 =>
  (ixa (v5 + 5) L).bind fun j5 =>
  (f_L_plan K v1 (xs j1) (xs j2) (xs j3) (xs j4) (xs j5) v3 w).bind fun q6 =>
  (ixa (v5 + 1) L).bind fun j7 =>
  (ixa (v5 + 2) L).bind fun j8 =>
  (ixa (v5 + 3) L).bind fun j9 =>
  (ixa (v5 + 4) L).bind fun j10 =>
  (ixa (v5 + 5) L).bind fun j11 =>
  (chk K 11 v2).bind fun a12 =>
  (f_X13_plan K a12 (xs j7) (xs j8) (xs j9) (xs j10) (xs j11) q6.2).bind fun q13 =>
  (f_X13_thrown K a12 q13.2).bind fun q14 =>
  if q14.1 = q6.1 then
    (if q6.1 = 0 then
      ((cha K 23 v3).bind fun a17 =>
      (ixa 0 a17.2).bind fun j18 =>
      if (lg_cmp (aJ q14.2 a17.1 j18) (q13.1.toInt64)) = 0 then
        (some q14.2)
      else
        (none))
    else
      (some q14.2))
  else
    (none)

def f_law_c29 (K : Kd) (L : Nat) (xs : Nat → Int32) (v1 v2 v3 v4 : Option Nat) (v5 : Int32) (w : Wd) : Option Wd :=
  (ixa (v5 + 1) L).bind fun j1 =>
  (f_L_planNext K v1 (xs j1) v3 w).bind fun q2 =>
  (ixa (v5 + 1) L).bind fun j3 =>
  (chk K 11 v2).bind fun a4 =>
  (f_X13_planNext K a4 (xs j3) q2.2).bind fun q5 =>
  (f_X13_thrown K a4 q5.2).bind fun q6 =>
  if q6.1 = q2.1 then
    (if q2.1 = 0 then
      ((cha K 23 v3).bind fun a9 =>
      (ixa 0 a9.2).bind fun j10 =>
      if (lg_cmp (aJ q6.2 a9.1 j10) (q5.1.toInt64)) = 0 then
        (some q6.2)
      else
        (none))
    else
      (some q6.2))
  else
    (none)

def f_law_c30 (K : Kd) (L : Nat) (xs : Nat → Int32) (v1 v2 v3 v4 : Option Nat) (v5 : Int32) (w : Wd) : Option Wd :=
  (chk K 10 v1).bind fun a1 =>
  (f_X12_planAll K a1 w).bind fun q2 =>
  (chk K 11 v2).bind fun a3 =>
  (f_X13_planAll K a3 q2.2).bind fun q4 =>
  if q2.1 = q4.1 then
    (some q4.2)
  else
    (none)

def f_law_c31 (K : Kd) (L : Nat) (xs : Nat → Int32) (v1 v2 v3 v4 : Option Nat) (v5 : Int32) (w : Wd) : Option Wd :=
  (ixa (v5 + 1) L).bind fun j1 =>
  (ixa (v5 + 2) L).bind fun j2 =>
  (f_L_adjourn K v1 (xs j1) (xs j2) v3 w).bind fun q3 =>
  (ixa (v5 + 1) L).bind fun j4 =>
  (ixa (v5 + 2) L).bind fun j5 =>
  (chk K 11 v2).bind fun a6 =>
  (f_X13_adjourn K a6 (xs j4) (xs j5) q3.2).bind fun q7 =>
  (f_X13_thrown K a6 q7.2).bind fun q8 =>
  if q8.1 = q3.1 then
    (if q3.1 = 0 then
      ((cha K 23 v3).bind fun a11 =>
      (ixa 0 a11.2).bind fun j12 =>
      if (lg_cmp (aJ q8.2 a11.1 j12) (q7.1.toInt64)) = 0 then
        (some q8.2)
      else
        (none))
    else
      (some q8.2))
  else
    (none)

def f_law_c32 (K : Kd) (L : Nat) (xs : Nat → Int32) (v1 v2 v3 v4 : Option Nat) (v5 : Int32) (w : Wd) : Option Wd :=
  (ixa (v5 + 1) L).bind fun j1 =>
  (ixa (v5 + 2) L).bind fun j2 =>
  (f_L_withdraw K v1 (xs j1) (xs j2) v3 w).bind fun q3 =>
  (ixa (v5 + 1) L).bind fun j4 =>
  (ixa (v5 + 2) L).bind fun j5 =>
  (chk K 11 v2).bind fun a6 =>
  (f_X13_withdraw K a6 (xs j4) (xs j5) q3.2).bind fun q7 =>
  (f_X13_thrown K a6 q7.2).bind fun q8 =>
  if q8.1 = q3.1 then
    (if q3.1 = 0 then
      ((cha K 23 v3).bind fun a11 =>
      (ixa 0 a11.2).bind fun j12 =>
      if (lg_cmp (aJ q8.2 a11.1 j12) (q7.1.toInt64)) = 0 then
        (some q8.2)
      else
        (none))
    else
      (some q8.2))
  else
    (none)

def f_law_c33 (K : Kd) (L : Nat) (xs : Nat → Int32) (v1 v2 v3 v4 : Option Nat) (v5 : Int32) (w : Wd) : Option Wd :=
  (ixa (v5 + 1) L).bind fun j1 =>
  (f_L_addHoliday K v1 (xs j1) v3 w).bind fun q2 =>
  (ixa (v5 + 1) L).bind fun j3 =>
  (chk K 11 v2).bind fun a4 =>
  (f_X13_addHoliday K a4 (xs j3) q2.2).bind fun q5 =>
  (f_X13_thrown K a4 q5.2).bind fun q6 =>
  if q6.1 = q2.1 then
    (if q2.1 = 0 then
      ((cha K 23 v3).bind fun a9 =>
      (ixa 0 a9.2).bind fun j10 =>
      if (lg_cmp (aJ q6.2 a9.1 j10) (q5.1.toInt64)) = 0 then
        (some q6.2)
      else
        (none))
    else
      (some q6.2))
  else
    (none)

def f_law_c34 (K : Kd) (L : Nat) (xs : Nat → Int32) (v1 v2 v3 v4 : Option Nat) (v5 : Int32) (w : Wd) : Option Wd :=
  (ixa (v5 + 1) L).bind fun j1 =>
  (ixa (v5 + 2) L).bind fun j2 =>
  (f_L_addBar K v1 (xs j1) (xs j2) v3 w).bind fun q3 =>
  (ixa (v5 + 1) L).bind fun j4 =>
  (ixa (v5 + 2) L).bind fun j5 =>
  (chk K 11 v2).bind fun a6 =>
  (f_X13_addBar K a6 (xs j4) (xs j5) q3.2).bind fun q7 =>
  (f_X13_thrown K a6 q7.2).bind fun q8 =>
  if q8.1 = q3.1 then
    (if q3.1 = 0 then
      ((cha K 23 v3).bind fun a11 =>
      (ixa 0 a11.2).bind fun j12 =>
      if (b2i q7.1) = 0 then
        (if (lg_cmp (aJ q8.2 a11.1 j12) 0) = 0 then
          (some q8.2)
        else
          (none))
      else
        (if (lg_cmp (aJ q8.2 a11.1 j12) 1) = 0 then
          (some q8.2)
        else
          (none)))
    else
      (some q8.2))
  else
    (none)

def f_law_c35 (K : Kd) (L : Nat) (xs : Nat → Int32) (v1 v2 v3 v4 : Option Nat) (v5 : Int32) (w : Wd) : Option Wd :=
  (f_L_undo K v1 v3 w).bind fun q1 =>
  (chk K 11 v2).bind fun a2 =>
  (f_X13_undo K a2 q1.2).bind fun q3 =>
  (f_X13_thrown K a2 q3.2).bind fun q4 =>
  if q4.1 = q1.1 then
    (if q1.1 = 0 then
      ((cha K 23 v3).bind fun a7 =>
      (ixa 0 a7.2).bind fun j8 =>
      if (lg_cmp (aJ q4.2 a7.1 j8) (q3.1.toInt64)) = 0 then
        (some q4.2)
      else
        (none))
    else
      (some q4.2))
  else
    (none)

def f_law_c36 (K : Kd) (L : Nat) (xs : Nat → Int32) (v1 v2 v3 v4 : Option Nat) (v5 : Int32) (w : Wd) : Option Wd :=
  (ixa (v5 + 1) L).bind fun j1 =>
  (f_L_lapsesIn K v1 (xs j1) v3 w).bind fun q2 =>
  (ixa (v5 + 1) L).bind fun j3 =>
  (chk K 11 v2).bind fun a4 =>
  (f_X13_lapsesIn K a4 (xs j3) q2.2).bind fun q5 =>
  (f_X13_thrown K a4 q5.2).bind fun q6 =>
  if q6.1 = q2.1 then
    (if q2.1 = 0 then
      ((cha K 23 v3).bind fun a9 =>
      (ixa 0 a9.2).bind fun j10 =>
      if (lg_cmp (aJ q6.2 a9.1 j10) (q5.1.toInt64)) = 0 then
        (some q6.2)
      else
        (none))
    else
      (some q6.2))
  else
    (none)

def f_law_c37 (K : Kd) (L : Nat) (xs : Nat → Int32) (v1 v2 v3 v4 : Option Nat) (v5 : Int32) (w : Wd) : Option Wd :=
  (chk K 10 v1).bind fun a1 =>
  (f_X12_plannable K a1 w).bind fun q2 =>
  (chk K 11 v2).bind fun a3 =>
  (f_X13_plannable K a3 q2.2).bind fun q4 =>
  if q2.1 = q4.1 then
    (some q4.2)
  else
    (none)

def f_law_c38 (K : Kd) (L : Nat) (xs : Nat → Int32) (v1 v2 v3 v4 : Option Nat) (v5 : Int32) (w : Wd) : Option Wd :=
  (chk K 10 v1).bind fun a1 =>
  (f_X12_keyOfficer K a1 w).bind fun q2 =>
  (chk K 11 v2).bind fun a3 =>
  (f_X13_keyOfficer K a3 q2.2).bind fun q4 =>
  if q2.1 = q4.1 then
    (some q4.2)
  else
    (none)

def f_law_c39 (K : Kd) (L : Nat) (xs : Nat → Int32) (v1 v2 v3 v4 : Option Nat) (v5 : Int32) (w : Wd) : Option Wd :=
  (ixa (v5 + 1) L).bind fun j1 =>
  (f_L_printDay K v1 (xs j1) v3 w).bind fun q2 =>
  (ixa (v5 + 1) L).bind fun j3 =>
  (chk K 11 v2).bind fun a4 =>
  (f_X13_printDay K a4 (xs j3) q2.2).bind fun q5 =>
  (f_X13_thrown K a4 q5.2).bind fun q6 =>
  if q6.1 = q2.1 then
    (if q2.1 = 0 then
      ((cha K 23 v3).bind fun a9 =>
      (ixa 0 a9.2).bind fun j10 =>
      if (lg_cmp (aJ q6.2 a9.1 j10) (q5.1.toInt64)) = 0 then
        (some q6.2)
      else
        (none))
    else
      (some q6.2))
  else
    (none)

def f_law_c40 (K : Kd) (L : Nat) (xs : Nat → Int32) (v1 v2 v3 v4 : Option Nat) (v5 : Int32) (w : Wd) : Option Wd :=
  (ixa (v5 + 1) L).bind fun j1 =>
  (chk K 10 v1).bind fun a2 =>
  (f_X12_outputByte K a2 (xs j1) w).bind fun q3 =>
  (ixa (v5 + 1) L).bind fun j4 =>
  (chk K 11 v2).bind fun a5 =>
  (f_X13_outputByte K a5 (xs j4) q3.2).bind fun q6 =>
  if q3.1 = q6.1 then
    (some q6.2)
  else
    (none)

def f_law_c41 (K : Kd) (L : Nat) (xs : Nat → Int32) (v1 v2 v3 v4 : Option Nat) (v5 : Int32) (w : Wd) : Option Wd :=
  (chk K 10 v1).bind fun a1 =>
  (f_X12_saveState K a1 w).bind fun q2 =>
  (chk K 11 v2).bind fun a3 =>
  (f_X13_saveState K a3 q2.2).bind fun q4 =>
  if q2.1 = q4.1 then
    (some q4.2)
  else
    (none)

def f_law_c42 (K : Kd) (L : Nat) (xs : Nat → Int32) (v1 v2 v3 v4 : Option Nat) (v5 : Int32) (w : Wd) : Option Wd :=
  (f_L_restoreState K v1 v3 w).bind fun q1 =>
  (chk K 11 v2).bind fun a2 =>
  (f_X13_restoreState K a2 q1.2).bind fun q3 =>
  (f_X13_thrown K a2 q3.2).bind fun q4 =>
  if q4.1 = q1.1 then
    (if q1.1 = 0 then
      ((cha K 23 v3).bind fun a7 =>
      (ixa 0 a7.2).bind fun j8 =>
      if (lg_cmp (aJ q4.2 a7.1 j8) (q3.1.toInt64)) = 0 then
        (some q4.2)
      else
        (none))
    else
      (some q4.2))
  else
    (none)

def f_law_step (K : Kd) (L : Nat) (xs : Nat → Int32) (v1 v2 v3 v4 : Option Nat) (v5 : Int32) (w : Wd) : Option Wd :=
  (ixa v5 L).bind fun j2 =>
  if ((xs j2) &&& 63) < 0 ∨ 42 < ((xs j2) &&& 63) then some w
  else if ((xs j2) &&& 63) = 0 then f_law_c0 K L xs v1 v2 v3 v4 v5 w
  else if ((xs j2) &&& 63) = 1 then f_law_c1 K L xs v1 v2 v3 v4 v5 w
  else if ((xs j2) &&& 63) = 2 then f_law_c2 K L xs v1 v2 v3 v4 v5 w
  else if ((xs j2) &&& 63) = 3 then f_law_c3 K L xs v1 v2 v3 v4 v5 w
  else if ((xs j2) &&& 63) = 4 then f_law_c4 K L xs v1 v2 v3 v4 v5 w
  else if ((xs j2) &&& 63) = 5 then f_law_c5 K L xs v1 v2 v3 v4 v5 w
  else if ((xs j2) &&& 63) = 6 then f_law_c6 K L xs v1 v2 v3 v4 v5 w
  else if ((xs j2) &&& 63) = 7 then f_law_c7 K L xs v1 v2 v3 v4 v5 w
  else if ((xs j2) &&& 63) = 8 then f_law_c8 K L xs v1 v2 v3 v4 v5 w
  else if ((xs j2) &&& 63) = 9 then f_law_c9 K L xs v1 v2 v3 v4 v5 w
  else if ((xs j2) &&& 63) = 10 then f_law_c10 K L xs v1 v2 v3 v4 v5 w
  else if ((xs j2) &&& 63) = 11 then f_law_c11 K L xs v1 v2 v3 v4 v5 w
  else if ((xs j2) &&& 63) = 12 then f_law_c12 K L xs v1 v2 v3 v4 v5 w
  else if ((xs j2) &&& 63) = 13 then f_law_c13 K L xs v1 v2 v3 v4 v5 w
  else if ((xs j2) &&& 63) = 14 then f_law_c14 K L xs v1 v2 v3 v4 v5 w
  else if ((xs j2) &&& 63) = 15 then f_law_c15 K L xs v1 v2 v3 v4 v5 w
  else if ((xs j2) &&& 63) = 16 then f_law_c16 K L xs v1 v2 v3 v4 v5 w
  else if ((xs j2) &&& 63) = 17 then f_law_c17 K L xs v1 v2 v3 v4 v5 w
  else if ((xs j2) &&& 63) = 18 then f_law_c18 K L xs v1 v2 v3 v4 v5 w
  else if ((xs j2) &&& 63) = 19 then f_law_c19 K L xs v1 v2 v3 v4 v5 w
  else if ((xs j2) &&& 63) = 20 then f_law_c20 K L xs v1 v2 v3 v4 v5 w
  else if ((xs j2) &&& 63) = 21 then f_law_c21 K L xs v1 v2 v3 v4 v5 w
  else if ((xs j2) &&& 63) = 22 then f_law_c22 K L xs v1 v2 v3 v4 v5 w
  else if ((xs j2) &&& 63) = 23 then f_law_c23 K L xs v1 v2 v3 v4 v5 w
  else if ((xs j2) &&& 63) = 24 then f_law_c24 K L xs v1 v2 v3 v4 v5 w
  else if ((xs j2) &&& 63) = 25 then f_law_c25 K L xs v1 v2 v3 v4 v5 w
  else if ((xs j2) &&& 63) = 26 then f_law_c26 K L xs v1 v2 v3 v4 v5 w
  else if ((xs j2) &&& 63) = 27 then f_law_c27 K L xs v1 v2 v3 v4 v5 w
  else if ((xs j2) &&& 63) = 28 then f_law_c28 K L xs v1 v2 v3 v4 v5 w
  else if ((xs j2) &&& 63) = 29 then f_law_c29 K L xs v1 v2 v3 v4 v5 w
  else if ((xs j2) &&& 63) = 30 then f_law_c30 K L xs v1 v2 v3 v4 v5 w
  else if ((xs j2) &&& 63) = 31 then f_law_c31 K L xs v1 v2 v3 v4 v5 w
  else if ((xs j2) &&& 63) = 32 then f_law_c32 K L xs v1 v2 v3 v4 v5 w
  else if ((xs j2) &&& 63) = 33 then f_law_c33 K L xs v1 v2 v3 v4 v5 w
  else if ((xs j2) &&& 63) = 34 then f_law_c34 K L xs v1 v2 v3 v4 v5 w
  else if ((xs j2) &&& 63) = 35 then f_law_c35 K L xs v1 v2 v3 v4 v5 w
  else if ((xs j2) &&& 63) = 36 then f_law_c36 K L xs v1 v2 v3 v4 v5 w
  else if ((xs j2) &&& 63) = 37 then f_law_c37 K L xs v1 v2 v3 v4 v5 w
  else if ((xs j2) &&& 63) = 38 then f_law_c38 K L xs v1 v2 v3 v4 v5 w
  else if ((xs j2) &&& 63) = 39 then f_law_c39 K L xs v1 v2 v3 v4 v5 w
  else if ((xs j2) &&& 63) = 40 then f_law_c40 K L xs v1 v2 v3 v4 v5 w
  else if ((xs j2) &&& 63) = 41 then f_law_c41 K L xs v1 v2 v3 v4 v5 w
  else if ((xs j2) &&& 63) = 42 then f_law_c42 K L xs v1 v2 v3 v4 v5 w
  else none

def f_law_L28 (K : Kd) (L : Nat) (xs : Nat → Int32) (v1 v2 v3 v4 : Option Nat) : Nat → Int32 → Wd → Option Wd
  | 0, _, _ => none
  | n + 1, v5, w => if ((nI L) - 6) < v5 then some w else (f_law_step K L xs v1 v2 v3 v4 v5 w).bind fun w1 => f_law_L28 K L xs v1 v2 v3 v4 n (v5 + 6) w1

def f_law (L : Nat) (xs : Nat → Int32) : Option Wd :=
  (some (kup kn0 0 (10, 0))).bind fun K1 =>
  (some (clr w00 0)).bind fun w2 =>
  (f_X12_init K1 (0 + 1) 0 w2).bind fun q3 =>
  (some (kup q3.1 q3.2.1 (11, 0))).bind fun K4 =>
  (some (clr q3.2.2 q3.2.1)).bind fun w5 =>
  (f_X13_init K4 (q3.2.1 + 1) q3.2.1 w5).bind fun q6 =>
  (some (kup q6.1 q6.2.1 (23, 1))).bind fun K7 =>
  (some (clr q6.2.2 q6.2.1)).bind fun w8 =>
  (some (kup K7 (q6.2.1 + 1) (24, 1))).bind fun K9 =>
  (some (clr w8 (q6.2.1 + 1))).bind fun w10 =>
  f_law_L28 K9 L xs (some 0) (some q3.2.1) (some q6.2.1) (some (q6.2.1 + 1)) 514 0 w10
