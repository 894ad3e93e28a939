/-! The methods as functions over the memory. -/
def f_L_parsed (K : Kd) (n : Nat) (a_0 : Option Nat) (a_1 : Option Nat) (w : Wd) : Option (Int32 × Wd) :=
  (f_L_feed K n a_0 a_1 w).bind fun q1 =>
  (chk K 10 a_0).bind fun a2 =>
  (f_X12_parse K a2 q1).bind fun q3 =>
  some (q3.1, q3.2)
