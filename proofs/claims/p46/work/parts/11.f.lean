/-! The methods as functions over the memory. -/
def f_X12_parse (K : Kd) (o : Nat) (w : Wd) : Option (Int32 × Wd) :=
  (chk K 4 (wR w 1202 o)).bind fun a1 =>
  (f_X5_read K a1 (wR w 1200 o) (wI w 1201 o) w).bind fun q2 =>
  (some (sI q2.2 1201 o 0)).bind fun w3 =>
  (chk K 4 (wR w3 1202 o)).bind fun a4 =>
  (some (sI w3 1203 o (wI w3 502 a4))).bind fun w5 =>
  (chk K 4 (wR w5 1202 o)).bind fun a6 =>
  (some (sI w5 1204 o (wI w5 503 a6))).bind fun w7 =>
  if (b2i q2.1) = 0 then
    (some ((-1), w7))
  else
    ((chk K 9 (wR w7 1205 o)).bind fun a9 =>
    (chk K 4 (wR w7 1202 o)).bind fun a10 =>
    (f_X5_exchange K a10 (wR w7 1000 a9) w7).bind fun q11 =>
    (f_X10_begin K a9 q11.1 q11.2).bind fun q12 =>
    (some (sZ q12 1207 o false)).bind fun w13 =>
    (some (sI w13 1210 o 0)).bind fun w14 =>
    (chk K 9 (wR w14 1205 o)).bind fun a15 =>
    (chk K 8 (wR w14 1000 a15)).bind fun a16 =>
    (f_X9_size K a16 3 w14).bind fun q17 =>
    some (q17.1, q17.2))

def f_L_parsed (K : Kd) (n : Nat) (a_0 : Option Nat) (a_1 : Option Nat) (w : Wd) : Option (Int32 × Wd) :=
  (f_L_feed K n a_0 a_1 w).bind fun q1 =>
  (chk K 10 a_0).bind fun a2 =>
  (f_X12_parse K a2 q1).bind fun q3 =>
  some (q3.1, q3.2)
