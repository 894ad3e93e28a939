variable {X : Kd}
def gF (t f : Nat → Nat) (v c i : Nat) : Nat := if i < c ∧ f i = 1 ∧ cs t i 3 = v then 2 else f i
def dF (lm : Nat → Nat) (S : Nat) (t f : Nat → Nat) (v c i : Nat) : Nat := if i < c ∧ gF t f v S i = 0 ∧ lm i < v + 1 then 3 else gF t f v S i
theorem gF_PH {t f : Nat → Nat} (h : PH t f) (v c : Nat) : PH t (gF t f v c) := fun i hi => by
  unfold gF
  by_cases e : i < c ∧ f i = 1 ∧ cs t i 3 = v
  · rw [if_pos e]
    refine ⟨by omega, ?_⟩
    rw [← (h i hi).2, e.2.1]
    simp
  · rw [if_neg e]; exact h i hi
theorem dF_PH {lm t f : Nat → Nat} {S : Nat} (h : PH t f) (v c : Nat) : PH t (dF lm S t f v c) := fun i hi => by
  have q := gF_PH h v S i hi
  unfold dF
  by_cases e : i < c ∧ gF t f v S i = 0 ∧ lm i < v + 1
  · rw [if_pos e]
    refine ⟨by omega, ?_⟩
    rw [← q.2, e.2.1]
    simp
  · rw [if_neg e]; exact q
theorem gF_y {t f : Nat → Nat} {v c : Nat} (h : f c = 1 ∧ cs t c 3 = v) : gF t f v (c + 1) = pz (gF t f v c) c 2 := by
  funext j
  unfold gF pz
  try dsimp only
  by_cases e : j = c
  · subst e; rw [if_pos ⟨by omega, h⟩, if_pos rfl]
  · rw [if_neg e]
    by_cases e2 : j < c ∧ f j = 1 ∧ cs t j 3 = v
    · rw [if_pos e2, if_pos ⟨by omega, e2.2⟩]
    · rw [if_neg e2, if_neg (fun q => e2 ⟨by omega, q.2⟩)]
theorem gF_n {t f : Nat → Nat} {v c : Nat} (h : ¬ (f c = 1 ∧ cs t c 3 = v)) : gF t f v (c + 1) = gF t f v c := by
  funext j
  unfold gF
  by_cases e2 : j < c ∧ f j = 1 ∧ cs t j 3 = v
  · rw [if_pos e2, if_pos ⟨by omega, e2.2⟩]
  · rw [if_neg e2, if_neg (fun q => by
      by_cases e : j = c
      · subst e; exact h q.2
      · exact e2 ⟨by omega, q.2⟩)]
theorem dF_y {lm t f : Nat → Nat} {S : Nat} {v c : Nat} (h : gF t f v S c = 0 ∧ lm c < v + 1) : dF lm S t f v (c + 1) = pz (dF lm S t f v c) c 3 := by
  funext j
  unfold dF pz
  try dsimp only
  by_cases e : j = c
  · subst e; rw [if_pos ⟨by omega, h⟩, if_pos rfl]
  · rw [if_neg e]
    by_cases e2 : j < c ∧ gF t f v S j = 0 ∧ lm j < v + 1
    · rw [if_pos e2, if_pos ⟨by omega, e2.2⟩]
    · rw [if_neg e2, if_neg (fun q => e2 ⟨by omega, q.2⟩)]
theorem dF_n {lm t f : Nat → Nat} {S : Nat} {v c : Nat} (h : ¬ (gF t f v S c = 0 ∧ lm c < v + 1)) : dF lm S t f v (c + 1) = dF lm S t f v c := by
  funext j
  unfold dF
  by_cases e2 : j < c ∧ gF t f v S j = 0 ∧ lm j < v + 1
  · rw [if_pos e2, if_pos ⟨by omega, e2.2⟩]
  · rw [if_neg e2, if_neg (fun q => by
      by_cases e : j = c
      · subst e; exact h q.2
      · exact e2 ⟨by omega, q.2⟩)]
theorem gF_0 {t f : Nat → Nat} {v : Nat} : gF t f v 0 = f := by
  funext j
  unfold gF
  rw [if_neg (by omega)]
theorem dF_0 {lm t f : Nat → Nat} {S : Nat} {v : Nat} : dF lm S t f v 0 = gF t f v S := by
  funext j
  unfold dF
  rw [if_neg (by omega)]
theorem gF_c {t f : Nat → Nat} {v c : Nat} : gF t f v c c = f c := by
  unfold gF
  rw [if_neg (by omega)]
theorem dF_c {lm t f : Nat → Nat} {S : Nat} {v c : Nat} : dF lm S t f v c c = gF t f v S c := by
  unfold dF
  rw [if_neg (by omega)]
def h1N (s t f : Nat → Nat) (v : Nat) : Nat → Nat := cnt (fun i => f i == 1 && cs t i 3 == v)
theorem sm_add {g g1 g2 : Nat → Nat} : ∀ n, (∀ i, i < n → g i = g1 i + g2 i) → sm g n = sm g1 n + sm g2 n
  | 0, _ => rfl
  | n + 1, h => by
    simp only [sm]
    rw [sm_add n (fun i hi => h i (by omega)), h n (by omega)]
    omega
theorem hdN_s {s t : Nat → Nat} {k : Nat} : hdN s t (k + 1) = hdN s t k + h1N s t (fin s t k) (t 0 + k) (s 3) := by
  refine sm_add _ (fun i hi => ?_)
  have e : (fin s t k i == 1 && cs t i 3 == t 0 + k) = (cs t i 0 == 1 && (cs t i 3 == t 0 + k)) := by
    unfold fin
    by_cases e1 : i < s 3 ∧ cs t i 0 = 1 ∧ cs t i 3 < t 0 + k
    · rw [if_pos e1]
      have : (cs t i 3 == t 0 + k) = false := by simp; omega
      simp [this]
    · rw [if_neg e1]
      by_cases e2 : i < s 3 ∧ cs t i 0 = 0 ∧ limD s t i < t 0 + k ∧ 0 < k
      · rw [if_pos e2, e2.2.1]; rfl
      · rw [if_neg e2]
  try dsimp only
  rw [e]
  cases e0 : (cs t i 0 == 1)
  · rfl
  · simp only [Bool.true_and]
    by_cases e1 : cs t i 3 < t 0 + k
    · rw [decide_eq_true (show cs t i 3 < t 0 + (k + 1) by omega), decide_eq_true e1, show (cs t i 3 == t 0 + k) = false by simp; omega]
      rfl
    · by_cases e2 : cs t i 3 = t 0 + k
      · rw [decide_eq_true (show cs t i 3 < t 0 + (k + 1) by omega), decide_eq_false e1, show (cs t i 3 == t 0 + k) = true by simp [e2]]
        rfl
      · rw [decide_eq_false (show ¬ cs t i 3 < t 0 + (k + 1) by omega), decide_eq_false e1, show (cs t i 3 == t 0 + k) = false by simp [e2]]
        rfl
theorem fin_s {s t : Nat → Nat} {k : Nat} : dF (limD s t) (s 3) t (fin s t k) (t 0 + k) (s 3) = fin s t (k + 1) := by
  funext i
  unfold dF gF fin
  by_cases hi : i < s 3
  · by_cases z1 : cs t i 0 = 1
    · by_cases z2 : cs t i 3 < t 0 + k
      · simp [hi, z1, z2]; omega
      · by_cases z3 : cs t i 3 = t 0 + k
        · simp [hi, z1, z3]
        · have z4 : ¬ cs t i 3 < t 0 + (k + 1) := by omega
          simp [hi, z1, z2, z3, z4]
    · by_cases z0 : cs t i 0 = 0
      · generalize limD s t i = L at *
        by_cases z2 : L < t 0 + k
        · have z3 : L < t 0 + k + 1 := by omega
          have z4 : L < t 0 + (k + 1) := by omega
          by_cases z5 : 0 < k
          · simp [hi, z0, z2, z3, z4, z5]
          · simp [hi, z0, z2, z3, z4, z5]
        · by_cases z3 : L < t 0 + k + 1
          · have z4 : L < t 0 + (k + 1) := by omega
            simp [hi, z0, z2, z3, z4]
          · have z4 : ¬ L < t 0 + (k + 1) := by omega
            simp [hi, z0, z2, z3, z4]
      · simp [hi, z1, z0]
  · simp [hi]

