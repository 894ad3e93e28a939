variable {X : Kd}
theorem nI_rg {x : Int32} {n : Nat} (h0 : 0 ≤ x.toInt) (h1 : x.toInt < (n : Int)) : ∃ d, d < n ∧ x = nI d := by
  refine ⟨x.toInt.toNat, by omega, ?_⟩
  apply Int32.toInt_inj.mp
  have hx : x.toInt < 2 ^ 31 := x.toInt_lt
  rw [nI_toInt (by omega)]
  omega
