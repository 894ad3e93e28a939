/-! What is told; what is in range. -/
theorem m_is {K : Kd} {w : Wd} {b : Bool} : f_X13_is K 415 b w = some (b, sI w 1300 415 (if b = true then 0 else 1)) := by
  cases b <;> rfl
theorem m_may {K : Kd} {w : Wd} {b : Bool} {c : Int32} : f_X13_may K 415 b c w = some (b, sI w 1300 415 (if b = true then 0 else c)) := by
  cases b <;> rfl
theorem isIn_r {K : Kd} {w : Wd} {x : Int32} {a b : Nat} (ha : a < 2 ^ 31) (hb : b < 2 ^ 31) : f_X13_isIn K x.toInt64 (nI a).toInt64 (nI b).toInt64 w = some (decide ((a : Int) ≤ x.toInt ∧ x.toInt ≤ (b : Int)), w) := by
  rw [isIn_sp, i64_nI ha, i64_nI hb, Int32.toInt_toInt64]
theorem nI_rg {x : Int32} {n : Nat} (h0 : 0 ≤ x.toInt) (h1 : x.toInt < (n : Int)) : ∃ d, d < n ∧ x = nI d := by
  refine ⟨x.toInt.toNat, by omega, ?_⟩
  apply Int32.toInt_inj.mp
  have hx : x.toInt < 2 ^ 31 := x.toInt_lt
  rw [nI_toInt (by omega)]
  omega
theorem x_requireDay {K : Kd} {w : Wd} {x : Int32} : f_X12_requireDay K 0 x w = some (if 0 ≤ x.toInt ∧ x.toInt ≤ 599 then .inl () else .inr 2, w) := by
  have h0 : (0 : Int32).toInt = 0 := by decide
  have h6 : (600 : Int32).toInt = 600 := by decide
  unfold f_X12_requireDay
  by_cases e : x < 0
  · have := Int32.lt_iff_toInt_lt.mp e
    rw [if_pos e, if_neg (by omega)]
  · have e1 : ¬ x.toInt < (0 : Int32).toInt := fun q => e (Int32.lt_iff_toInt_lt.mpr q)
    rw [if_neg e]
    by_cases e2 : x < 600
    · have := Int32.lt_iff_toInt_lt.mp e2
      rw [if_pos e2, if_pos (by omega)]
    · have e3 : ¬ x.toInt < (600 : Int32).toInt := fun q => e2 (Int32.lt_iff_toInt_lt.mpr q)
      rw [if_neg e2, if_neg (by omega)]
