/-! A few facts of bits. -/
theorem bit12 {S c n : Nat} (hS : S < 2 ^ n) (h : S.testBit c = true) : c < n := by
  by_cases e : c < n
  · exact e
  · have h2 : 2 ^ n ≤ 2 ^ c := Nat.pow_le_pow_right (by omega) (by omega)
    rw [Nat.testBit_lt_two_pow (by omega)] at h
    cases h
def dfN (a b : Nat) : Nat := a ^^^ (a &&& b)
theorem dfN_bit {a b c : Nat} : (dfN a b).testBit c = (a.testBit c && !b.testBit c) := by
  unfold dfN
  rw [Nat.testBit_xor, Nat.testBit_and]
  cases a.testBit c <;> cases b.testBit c <;> rfl
theorem sm_rm {g g' : Nat → Nat} {i : Nat} (h : ∀ k, k ≠ i → g k = g' k) (hi : g i = g' i + 1) : ∀ n, sm g n = sm g' n + (if i < n then 1 else 0) := by
  intro n
  induction n with
  | zero => rw [if_neg (by omega)]; rfl
  | succ n ih =>
    show sm g n + g n = sm g' n + g' n + _
    rw [ih]
    by_cases e : i = n
    · subst e
      rw [if_neg (by omega), if_pos (by omega), hi]
      omega
    · rw [h n (fun q => e q.symm)]
      by_cases e2 : i < n
      · rw [if_pos e2, if_pos (by omega)]; omega
      · rw [if_neg e2, if_neg (by omega)]; omega
theorem tb_mod {u k : Nat} : u / 2 ^ k % 2 = if u.testBit k = true then 1 else 0 := by
  rw [Nat.testBit_eq_decide_div_mod_eq]
  by_cases e : u / 2 ^ k % 2 = 1
  · rw [if_pos (decide_eq_true e)]; exact e
  · rw [if_neg (by simp only [decide_eq_true_eq]; exact e)]; omega
theorem pop_rm {u i : Nat} (h : u.testBit i = true) (hi : i < 31) : popN (dfN u (2 ^ i)) + 1 = popN u := by
  unfold popN
  rw [sm_rm (g := fun k => u / 2 ^ k % 2) (g' := fun k => dfN u (2 ^ i) / 2 ^ k % 2) (i := i) (by
    intro k hk
    try dsimp only
    rw [tb_mod, tb_mod, dfN_bit, Nat.testBit_two_pow, decide_eq_false (fun q => hk q.symm), Bool.not_false, Bool.and_true]) (by
    try dsimp only
    rw [tb_mod, tb_mod, dfN_bit, Nat.testBit_two_pow, decide_eq_true (rfl : i = i), h]
    rfl) 31, if_pos hi]
