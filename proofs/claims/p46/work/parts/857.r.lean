variable {X : Kd}
theorem lt0 {x : Int32} : x < 0 ↔ x.toInt < 0 := by
  rw [Int32.lt_iff_toInt_lt]
  exact Iff.rfl
theorem ltn {x : Int32} {n : Nat} (hn : n < 2 ^ 31) : x < nI n ↔ x.toInt < (n : Int) := by
  rw [Int32.lt_iff_toInt_lt, nI_toInt hn]
theorem nlt {x : Int32} {n : Nat} (hn : n < 2 ^ 31) : nI n < x ↔ (n : Int) < x.toInt := by
  rw [Int32.lt_iff_toInt_lt, nI_toInt hn]
theorem len {x : Int32} {n : Nat} (hn : n < 2 ^ 31) : x ≤ nI n ↔ x.toInt ≤ (n : Int) := by
  rw [Int32.le_iff_toInt_le, nI_toInt hn]
theorem nle {x : Int32} {n : Nat} (hn : n < 2 ^ 31) : nI n ≤ x ↔ (n : Int) ≤ x.toInt := by
  rw [Int32.le_iff_toInt_le, nI_toInt hn]
theorem pm1 {n : Nat} (h : n < 2 ^ 31) : (nI n - 1).toInt64.toInt = (n : Int) - 1 := by
  cases n with
  | zero => decide
  | succ k => rw [show nI (k + 1) - 1 = nI k from sub_nI (a := k + 1) (b := 1) (by omega), i64_nI (by omega)]; omega
/-- in a range from 0 on -/
abbrev inR (x : Int32) (n : Nat) : Prop := 0 ≤ x.toInt ∧ x.toInt < (n : Int)
theorem inR_nI {x : Int32} {n : Nat} (h : inR x n) : ∃ d, d < n ∧ x = nI d := nI_rg h.1 h.2
theorem x_reqE {w : Wd} {b : Nat} {s t : Nat → Nat} (h : HX w 73 b s t) {k : Nat} (hk : k < 4) {x : Int32} : f_X12_requireExisting (Kx X) 0 (nI k) x w = some (if inR x (s k) then .inl () else .inr 1, w) := by
  have hs := h.gs.1
  have hb : s k < 2 ^ 31 := by
    rcases (by omega : k = 0 ∨ k = 1 ∨ k = 2 ∨ k = 3) with e | e | e | e <;> subst e <;> omega
  unfold f_X12_requireExisting
  by_cases e : x < 0
  · have := lt0.mp e
    rw [if_pos e, if_neg (fun q => by have := q.1; omega)]
  · have e1 : ¬ x.toInt < 0 := fun q => e (lt0.mpr q)
    rw [if_neg e, x1205 h.1, Option.bind_some, h.su, Option.bind_some, x_size h hk, Option.bind_some]
    try dsimp only
    by_cases e2 : x < nI (s k)
    · have := (ltn hb).mp e2
      rw [if_pos e2, if_pos ⟨by omega, this⟩]
    · have e3 : ¬ x.toInt < (s k : Int) := fun q => e2 ((ltn hb).mpr q)
      rw [if_neg e2, if_neg (fun q => e3 q.2)]
theorem x_rng {w : Wd} {x : Int32} {n : Nat} (hn : n < 2 ^ 31) : (if x < 0 then some ((.inr 2 : Unit ⊕ Nat), w) else if x < nI n then some (.inl (), w) else some (.inr 2, w)) = some (if inR x n then .inl () else .inr 2, w) := by
  by_cases e : x < 0
  · have := lt0.mp e
    rw [if_pos e, if_neg (fun q => by have := q.1; omega)]
  · have e1 : ¬ x.toInt < 0 := fun q => e (lt0.mpr q)
    rw [if_neg e]
    by_cases e2 : x < nI n
    · have := (ltn hn).mp e2
      rw [if_pos e2, if_pos ⟨by omega, this⟩]
    · have e3 : ¬ x.toInt < (n : Int) := fun q => e2 ((ltn hn).mpr q)
      rw [if_neg e2, if_neg (fun q => e3 q.2)]
theorem x_reqR {w : Wd} {x : Int32} : f_X12_requireReason (Kx X) 0 x w = some (if inR x 4 then .inl () else .inr 2, w) := x_rng (n := 4) (by omega)
abbrev inD (x : Int32) (d : Nat) : Prop := (d : Int) ≤ x.toInt ∧ x.toInt < 600
theorem x_reqC {w : Wd} {b : Nat} {s t : Nat → Nat} (h : HX w 73 b s t) {x : Int32} : f_X12_requireComingDay (Kx X) 0 x w = some (if inD x (t 0) then .inl () else .inr 2, w) := by
  have h0 := h.gt.1
  unfold f_X12_requireComingDay
  rw [x1205 h.1, Option.bind_some, h.dy]
  by_cases e : x < nI (t 0)
  · have := (ltn (by omega)).mp e
    rw [if_pos e, if_neg (fun q => by have := q.1; omega)]
  · have e1 : ¬ x.toInt < (t 0 : Int) := fun q => e ((ltn (by omega)).mpr q)
    rw [if_neg e]
    by_cases e2 : x < 600
    · have := (ltn (n := 600) (by omega)).mp e2
      rw [if_pos e2, if_pos ⟨by omega, by omega⟩]
    · have e3 : ¬ x.toInt < ((600 : Nat) : Int) := fun q => e2 ((ltn (n := 600) (by omega)).mpr q)
      rw [if_neg e2, if_neg (fun q => by have := q.2; omega)]
abbrev inS (x y : Int32) : Prop := 0 ≤ x.toInt ∧ x.toInt ≤ y.toInt ∧ y.toInt < 600
abbrev inP (x : Int32) (d : Nat) : Prop := 1 ≤ x.toInt ∧ x.toInt ≤ 99 ∧ (d : Int) + x.toInt < 600
theorem inP_nI {x : Int32} {d : Nat} (h : inP x d) : ∃ n, 0 < n ∧ d + n < 600 ∧ n ≤ 99 ∧ x = nI n := by
  obtain ⟨h1, h2, h3⟩ := h
  obtain ⟨n, hn, rfl⟩ := nI_rg (x := x) (n := 100) (by omega) (by omega)
  rw [nI_toInt (by omega)] at h1 h2 h3
  exact ⟨n, by omega, by omega, by omega, rfl⟩
theorem dT {p : Prop} [Decidable p] {w : Wd} (h : p) : some (true, w) = some (decide p, w) := by rw [decide_eq_true h]
theorem dF' {p : Prop} [Decidable p] {w : Wd} (h : ¬ p) : some (false, w) = some (decide p, w) := by rw [decide_eq_false h]
