/-! The start, by evaluation. -/
def z00 (k : Nat) : Nat := if k = 160 then 10 else if k = 161 then 5 else if k = 164 then 15 else 0
def st0 : Option (Kd × Nat × Nat × Wd) :=
  (f_X12_init (kup kn0 0 (10, 0)) (0 + 1) 0 (clr w00 0)).bind fun q3 =>
  (f_X13_init (kup q3.1 q3.2.1 (11, 0)) (q3.2.1 + 1) q3.2.1 (clr q3.2.2 q3.2.1)).bind fun q6 =>
  some (kup (kup q6.1 q6.2.1 (23, 1)) (q6.2.1 + 1) (24, 1), q3.2.1, q6.2.1, clr (clr q6.2.2 q6.2.1) (q6.2.1 + 1))
theorem law_st0 {L : Nat} {xs : Nat → Int32} : f_law L xs = st0.bind fun q => f_law_L28 q.1 L xs (some 0) (some q.2.1) (some q.2.2.1) (some (q.2.2.1 + 1)) 514 0 q.2.2.2 := by
  unfold f_law st0
  rw [Option.bind_some, Option.bind_some, Option.bind_assoc]
  refine congrArg _ (funext fun q3 => ?_)
  rw [Option.bind_some, Option.bind_some, Option.bind_assoc]
  refine congrArg _ (funext fun q6 => ?_)
  rw [Option.bind_some, Option.bind_some, Option.bind_some, Option.bind_some, Option.bind_some]
def aln : Nat → (Nat → Bool) → Bool
  | 0, _ => true
  | n + 1, P => P n && aln n P
theorem aln_i {P : Nat → Bool} : ∀ n, aln n P = true → ∀ k, k < n → P k = true
  | 0, _, k, hk => by omega
  | n + 1, h, k, hk => by
    rw [aln, Bool.and_eq_true] at h
    by_cases e : k = n
    · rw [e]; exact h.1
    · exact aln_i n h.2 k (by omega)
def ckK (K : Kd) : Bool := aln 439 (fun a => decide (K a = Kc a))
def ckF (w : Wd) : Bool := frt.all (fun p => decide (wR w p.1 p.2.1 = some p.2.2)) && fet.all (fun p => decide (aR w p.1 p.2.1 = some p.2.2))
def ckX (w : Wd) : Bool := aln 4 (fun k => decide (wI w 401 (15 + 2 * k) = 0)) && (aln 4 (fun k => decide (aI w 14 k = nI (z00 (160 + k)))) && (decide (wI w 913 1 = 15) && (decide (wI w 1001 73 = 0) && (decide (wI w 201 74 = 0) && (aln 19 (fun k => decide (aI w 75 k = 0)) && (aln 12 (fun k => decide (aI w 77 k = 0)) && (decide (wR w 1000 73 = some 1) && aln 12 (fun i => decide (wI w 700 (79 + 2 * i) = 0) && (decide (wI w 701 (79 + 2 * i) = 0) && (decide (wI w 706 (79 + 2 * i) = 0) && (decide (wI w 702 (79 + 2 * i) = -1) && (decide (wI w 703 (79 + 2 * i) = -1) && (decide (wI w 704 (79 + 2 * i) = -1) && decide (wI w 705 (79 + 2 * i) = -1))))))))))))))
def paN (i : Nat) : Nat := ([164, 194, 224, 254, 284, 314, 344, 374] : List Nat).getD i 0
def ckO (w : Wd) : Bool := decide (wI w 1315 415 = -1) && (decide (wI w 1210 0 = 0) && (aln 8 (fun i => decide (aR w 163 i = some (paN i))) && (decide (wI w 1309 415 = 0) && (decide (wZ w 1207 0 = false) && (decide (wZ w 1310 415 = false) && (decide (wR w 501 36 = some 39) && (decide (wI w 1201 0 = 0) && (decide (wI w 1324 415 = 0) && (decide (wI w 1215 0 = 0) && (decide (wI w 1338 415 = 0) && (decide (wI w 1203 0 = wI w 1331 415) && decide (wI w 1204 0 = wI w 1332 415))))))))))))
def ckS (w : Wd) : Bool := aln 170 (fun k => decide (aI w 416 k = nI (z00 k)))
def ckT (w : Wd) : Bool := aln 370 (fun k => decide (aI w 418 k = 0))
theorem st0_n : st0.map (fun q => (q.2.1, q.2.2.1)) = some (415, 437) := by decide +kernel
