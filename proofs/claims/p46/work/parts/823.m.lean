variable {X : Kd}
theorem wkIn_succ {t : Nat → Nat} {a c : Nat} : wkIn t a (c + 1) = wkIn t a c + bn (wkg t (a + c)) := rfl
theorem wkIn_le {t : Nat → Nat} {a : Nat} (n : Nat) : wkIn t a n ≤ n := by
  have := sm_le (g := fun i => bn (wkg t (a + i))) (M := 1) (fun i => by unfold bn; split <;> omega) n
  unfold wkIn
  omega
/-- the day by which so many working days are gone -/
def lim (t : Nat → Nat) : Nat → Nat → Nat → Nat
  | 0, _, d => d
  | f + 1, l, d => if l = 0 then d else lim t f (l - bn (wkg t (d + 1))) (d + 1)
def limD (s t : Nat → Nat) (i : Nat) : Nat := lim t 400 (s (112 + i) + cs t i 1) (s (88 + i))
theorem bn_le (b : Bool) : bn b ≤ 1 := by cases b <;> simp [bn]
/-- days of the week alone, and the first k holidays taken off -/
def wk0 (t : Nat → Nat) (k d : Nat) : Bool := decide (d % 7 < 5) && !anyF (fun j => t (2 + j) == d) 0 k
theorem anyF_snoc {p : Nat → Bool} : ∀ d c, anyF p c (d + 1) = (anyF p c d || p (c + d))
  | 0, c => by simp [anyF]
  | d + 1, c => by
    rw [anyF, anyF_snoc d (c + 1), anyF]
    rw [show c + 1 + d = c + (d + 1) by omega, Bool.or_assoc]
theorem sm_one_off {g g' : Nat → Nat} {x : Nat} (h : ∀ i, i ≠ x → g' i = g i) (h1 : g x ≤ g' x + 1) : ∀ n, sm g n ≤ sm g' n + 1
  | 0 => by simp [sm]
  | n + 1 => by
    by_cases e : n = x
    · subst e
      have h2 : sm g n = sm g' n := sm_congr n (fun i hi => (h i (by omega)).symm)
      simp only [sm]; omega
    · have := sm_one_off h h1 n
      have := h n e
      simp only [sm]; omega
theorem wk7 : ∀ q, q < 7 → bn (decide ((q + 0) % 7 < 5)) + bn (decide ((q + 1) % 7 < 5)) + bn (decide ((q + 2) % 7 < 5)) + bn (decide ((q + 3) % 7 < 5)) + bn (decide ((q + 4) % 7 < 5)) + bn (decide ((q + 5) % 7 < 5)) + bn (decide ((q + 6) % 7 < 5)) = 5 := by decide
theorem wk0_weeks (t : Nat → Nat) (a : Nat) : ∀ m, 5 * m ≤ sm (fun i => bn (wk0 t 0 (a + i))) (7 * m)
  | 0 => by simp
  | m + 1 => by
    have h := wk0_weeks t a m
    have e : ∀ k, wk0 t 0 (a + (7 * m + k)) = decide ((a % 7 + k) % 7 < 5) := by
      intro k
      simp only [wk0, anyF, Bool.not_false, Bool.and_true]
      rw [show (a + (7 * m + k)) % 7 = (a % 7 + k) % 7 by omega]
    have h7 := wk7 (a % 7) (Nat.mod_lt _ (by omega))
    rw [← e 0, ← e 1, ← e 2, ← e 3, ← e 4, ← e 5, ← e 6] at h7
    rw [show 7 * (m + 1) = 7 * m + 1 + 1 + 1 + 1 + 1 + 1 + 1 by omega]
    simp only [sm, Nat.add_assoc, Nat.reduceAdd, Nat.add_zero] at h7 ⊢
    omega
theorem wk0_less (t : Nat → Nat) (a n : Nat) : ∀ k, sm (fun i => bn (wk0 t 0 (a + i))) n ≤ sm (fun i => bn (wk0 t k (a + i))) n + k
  | 0 => by omega
  | k + 1 => by
    have h := wk0_less t a n k
    have h2 : sm (fun i => bn (wk0 t k (a + i))) n ≤ sm (fun i => bn (wk0 t (k + 1) (a + i))) n + 1 := by
      by_cases hx : a ≤ t (2 + k)
      · refine sm_one_off (x := t (2 + k) - a) (fun i hi => ?_) (by have := bn_le (wk0 t k (a + (t (2 + k) - a))); omega) n
        have e : (t (2 + (0 + k)) == a + i) = false := by simp; omega
        simp only [wk0, anyF_snoc, e, Bool.or_false]
      · refine Nat.le_trans (Nat.le_of_eq (sm_congr n (fun i hi => ?_))) (Nat.le_add_right _ 1)
        have e : (t (2 + (0 + k)) == a + i) = false := by simp; omega
        simp only [wk0, anyF_snoc, e, Bool.or_false]
    omega
theorem wkIn_many {t : Nat → Nat} (h : t 1 ≤ 20) (a m : Nat) : 5 * m ≤ wkIn t a (7 * m) + 20 := by
  have h1 := wk0_weeks t a m
  have h2 := wk0_less t a (7 * m) (t 1)
  have h3 : wkIn t a (7 * m) = sm (fun i => bn (wk0 t (t 1) (a + i))) (7 * m) := rfl
  omega
theorem wkIn_322 {t : Nat → Nat} (h : t 1 ≤ 20) (a : Nat) : 210 ≤ wkIn t a 322 := by
  have h2 : 5 * 46 ≤ wkIn t a 322 + 20 := wkIn_many h a 46
  omega
theorem lim_end {t : Nat → Nat} : ∀ f l d, l ≤ wkIn t (d + 1) f → ∀ g, lim t (f + g) l d = lim t f l d
  | 0, l, d, h, g => by
    have h0 : l = 0 := by simpa [wkIn, sm] using h
    subst h0
    cases g <;> simp [lim]
  | f + 1, l, d, h, g => by
    rw [show f + 1 + g = (f + g) + 1 by omega, lim, lim]
    by_cases e : l = 0
    · simp [e]
    · simp only [e, if_false]
      refine lim_end f _ _ ?_ g
      have h1 : ∀ n, wkIn t (d + 1) (n + 1) = bn (wkg t (d + 1)) + wkIn t (d + 1 + 1) n := by
        intro n
        induction n with
        | zero => simp [wkIn, sm]
        | succ n ih =>
          rw [wkIn_succ, ih, wkIn_succ, show d + 1 + (n + 1) = d + 1 + 1 + n by omega]
          omega
      rw [h1] at h
      omega
theorem lim_ge {t : Nat → Nat} : ∀ f l d, d ≤ lim t f l d ∧ lim t f l d ≤ d + f
  | 0, l, d => by simp [lim]
  | f + 1, l, d => by
    rw [lim]
    split
    · omega
    · have := lim_ge (t := t) f (l - bn (wkg t (d + 1))) (d + 1); omega
theorem lim_big {t : Nat → Nat} (h : t 1 ≤ 20) {l d : Nat} (hl : l ≤ 210) (g : Nat) : lim t (322 + g) l d = lim t 322 l d := lim_end 322 l d (by have := wkIn_322 h (d + 1); omega) g
theorem limD_le {s t : Nat → Nat} {i : Nat} (hG : GoodS s) (hT : GoodT s t) (hi : i < s 3) : limD s t i ≤ 421 := by
  have h1 := (hG.2.2.2.2.1 i hi)
  have h2 := hT.2.2.2.2.2.2 i (by have := hG.1.2.2.2; omega)
  unfold limD
  rw [show 400 = 322 + 78 by rfl, lim_big hT.2.1 (by omega)]
  have := (lim_ge (t := t) 322 (s (112 + i) + cs t i 1) (s (88 + i))).2
  omega
def cnt (p : Nat → Bool) (n : Nat) : Nat := sm (fun i => bn (p i)) n
theorem cnt_succ {p : Nat → Bool} {n : Nat} : cnt p (n + 1) = cnt p n + bn (p n) := rfl
theorem cnt_le {p : Nat → Bool} (n : Nat) : cnt p n ≤ n := by
  have := sm_le (g := fun i => bn (p i)) (M := 1) (fun i => bn_le _) n
  unfold cnt
  omega
