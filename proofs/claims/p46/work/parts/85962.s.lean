variable {X : Kd}
def dgN (bf : Nat → Int32) (q : Nat) : Nat → Nat
  | 0 => 0
  | d + 1 => 10 * dgN bf q d + (cdF (bf (q + d)) - 48)
def tyT (n : Nat) (bf : Nat → Int32) (p : Nat) : Nat :=
  if n ≤ skT n bf p then 0 else if ltr (cdF (bf (skT n bf p))) = true then 1
  else if dgt (cdF (bf (skT n bf p))) = true then (if enT n bf p - skT n bf p ≤ 3 then 2 else 4) else if cdF (bf (skT n bf p)) = 59 then 3 else 4
theorem hashU_32 {n k : Nat} {bf : Nat → Int32} (hT : TX n bf) : hashU n bf k = 32 ↔ k < n ∧ cdF (bf k) = 32 := hashU_eq (c := 32) hT (by omega)
theorem hashU_10 {n k : Nat} {bf : Nat → Int32} (hT : TX n bf) : hashU n bf k = 10 ↔ k < n ∧ cdF (bf k) = 10 := hashU_eq (c := 10) hT (by omega)
theorem hashU_59 {n k : Nat} {bf : Nat → Int32} (hT : TX n bf) : hashU n bf k = 59 ↔ k < n ∧ cdF (bf k) = 59 := hashU_eq (c := 59) hT (by omega)
