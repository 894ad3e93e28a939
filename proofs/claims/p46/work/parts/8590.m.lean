variable {X : Kd}
theorem flN_0 {s t : Nat → Nat} {G : Int32} {i d q r o : Nat} (hS : GoodS s) (hi : i < s 3) (hr : r < s 0) (h : flN s t G i d q r o = 0) : t 0 ≤ d ∧ q + s (100 + i) < 9 ∧ pbN s t G i d q r o = 0 := by
  have l1 := hS.ln hi
  have r1 := hS.2.1 r hr
  unfold flN at h
  cases e : dyO s t i d with
  | true => rw [e, if_pos rfl] at h; omega
  | false =>
    rw [e, if_neg (by decide)] at h
    by_cases e2 : limD s t i < d
    · rw [if_pos e2] at h; omega
    · rw [if_neg e2] at h
      unfold dyO at e
      simp only [Bool.or_eq_false_iff, decide_eq_false_iff_not] at e
      refine ⟨by omega, ?_, h⟩
      unfold pbN at h
      by_cases e3 : s (4 + r) ≤ q ∧ q + s (100 + i) - 1 ≤ s (7 + r)
      · omega
      · rw [if_pos e3] at h; omega
def E113243 (e : Nat) (c : Int32) : Prop := (e = 1 ∧ c = 1) ∨ (e = 3 ∧ c = 2) ∨ (e = 4 ∧ c = 3)
