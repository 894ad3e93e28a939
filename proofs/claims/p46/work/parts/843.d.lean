variable {X : Kd}
theorem cnt_z {p : Nat → Bool} : ∀ n, (∀ j, j < n → p j = false) → cnt p n = 0
  | 0, _ => rfl
  | n + 1, h => by
    rw [cnt_succ, cnt_z n (fun j h1 => h j (by omega)), h n (by omega)]
    rfl
theorem fin_0 {s t : Nat → Nat} (hP : PlanOK t) {i : Nat} (hi : i < 12) : fin s t 0 i = cs t i 0 := by
  unfold fin
  rw [if_neg (fun q => by have := hP i hi q.2.1; omega), if_neg (fun q => by omega)]
theorem hdN_0 {s t : Nat → Nat} (hP : PlanOK t) (h12 : s 3 ≤ 12) : hdN s t 0 = 0 := cnt_z _ (fun i hi => by
  cases e : (cs t i 0 == 1)
  · rfl
  · have := hP i (by omega) (by simpa using e)
    rw [Bool.true_and, decide_eq_false (by omega)])
theorem hdN_le {s t : Nat → Nat} {n : Nat} : hdN s t n ≤ s 3 := cnt_le _
theorem phT_fin0 {s t : Nat → Nat} (hP : PlanOK t) {x : Nat} (hx : x < 370) : phT t (t 0 + 0) (fin s t 0) x = t x := by
  unfold phT
  by_cases x0 : x = 0
  · rw [if_pos x0, x0, Nat.add_zero]
  · rw [if_neg x0]
    by_cases x1 : 46 ≤ x ∧ (x - 46) % 27 = 0
    · rw [if_pos x1, fin_0 hP (by omega)]
      unfold cs
      congr 1
      omega
    · rw [if_neg x1]
