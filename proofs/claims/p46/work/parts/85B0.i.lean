/-! What holds of every calendar: each planned hearing keeps the rules. -/
theorem fl_dec {s t : Nat → Nat} {G : Int32} {i d q r o : Nat} : flN s t G i d q r o = 0 ↔ dyO s t i d = false ∧ d ≤ limD s t i ∧ (s (4 + r) ≤ q ∧ q + s (100 + i) - 1 ≤ s (7 + r)) ∧ rmT s t i d q r = false ∧ offS s G o d = false ∧ ofT s t i d q o = false ∧ brd s t o i = false ∧ ouT s t i d q = false ∧ wiT s t i d q = false := by
  unfold flN
  cases e : dyO s t i d with
  | true => simp
  | false =>
    rw [if_neg (by simp)]
    by_cases e2 : limD s t i < d
    · rw [if_pos e2]
      constructor
      · intro h; omega
      · intro h; omega
    · rw [if_neg e2, pbN_0]
      unfold okR okW okO
      simp only [Bool.and_eq_true, Bool.not_eq_true', decide_eq_true_eq]
      constructor
      · rintro ⟨⟨⟨a1, a2⟩, a3, a4⟩, a5, a6, a7⟩
        exact ⟨trivial, by omega, a1, a2, a5, a6, a7, a3, a4⟩
      · rintro ⟨-, -, a1, a2, a5, a6, a7, a3, a4⟩
        exact ⟨⟨⟨a1, a2⟩, a3, a4⟩, a5, a6, a7⟩
theorem any_no {p : Nat → Bool} {n : Nat} (h : anyF p 0 n = false) {k : Nat} (hk : k < n) : p k = false := by
  cases e : p k with
  | false => rfl
  | true =>
    have := (anyF_iff n 0).mpr ⟨k, by omega, by omega, e⟩
    rw [h] at this
    cases this
theorem any_f {p : Nat → Bool} {n : Nat} (h : ∀ k, k < n → p k = false) : anyF p 0 n = false := by
  cases e : anyF p 0 n with
  | false => rfl
  | true =>
    obtain ⟨k, k1, k2, k3⟩ := (anyF_iff n 0).mp e
    rw [h k (by omega)] at k3
    cases k3
def UN (s t : Nat → Nat) (c : Nat) : Prop := (t 0 ≤ cs t c 3 ∧ s (88 + c) ≤ cs t c 3 ∧ wkg t (cs t c 3) = true) ∧ cs t c 3 ≤ limD s t c ∧ (s (4 + cs t c 5) ≤ cs t c 4 ∧ cs t c 4 + s (100 + c) - 1 ≤ s (7 + cs t c 5)) ∧ offS s (-nI 1) (cs t c 6) (cs t c 3) = false ∧ (t (34 + c)).testBit (cs t c 6) = false ∧ ouT s t c (cs t c 3) (cs t c 4) = false
def PR (s t : Nat → Nat) (i j : Nat) : Prop := (cs t i 3 = cs t j 3 → cs t i 4 < cs t j 4 + s (100 + j) → cs t j 4 < cs t i 4 + s (100 + i) → cs t i 5 ≠ cs t j 5 ∧ cs t i 6 ≠ cs t j 6 ∧ s (136 + i) &&& s (136 + j) = 0) ∧ ((s (148 + i)).testBit j = true → cs t i 6 ≠ cs t j 6)
def PW (s t : Nat → Nat) : Prop := ∀ i j, i < s 3 → j < s 3 → i ≠ j → hrg t i = true → hrg t j = true → PR s t i j
theorem PR.symm {s t : Nat → Nat} (hS : GoodS s) {i j : Nat} (hi : i < s 3) (hj : j < s 3) (h : PR s t i j) : PR s t j i := ⟨fun a b c => by
  obtain ⟨h1, h2, h3⟩ := h.1 a.symm c b
  exact ⟨fun q => h1 q.symm, fun q => h2 q.symm, by rw [Nat.and_comm]; exact h3⟩, fun a q => h.2 (by rw [hS.2.2.2.2.2.1 i j hi hj]; exact a) q.symm⟩
theorem PR.of {s t t' : Nat → Nat} {i j : Nat} (h : PR s t i j) (ei : ∀ k, 3 ≤ k → k ≤ 6 → cs t' i k = cs t i k) (ej : ∀ k, 3 ≤ k → k ≤ 6 → cs t' j k = cs t j k) : PR s t' i j := by
  unfold PR at h ⊢
  rw [ei 3 (by omega) (by omega), ei 4 (by omega) (by omega), ei 5 (by omega) (by omega), ei 6 (by omega) (by omega), ej 3 (by omega) (by omega), ej 4 (by omega) (by omega), ej 5 (by omega) (by omega), ej 6 (by omega) (by omega)]
  exact h
theorem PW.of {s t t' : Nat → Nat} (h : PW s t) (e : ∀ i, i < s 3 → hrg t' i = true → hrg t i = true ∧ ∀ k, 3 ≤ k → k ≤ 6 → cs t' i k = cs t i k) : PW s t' := fun i j hi hj ij h1 h2 => (h i j hi hj ij (e i hi h1).1 (e j hj h2).1).of (e i hi h1).2 (e j hj h2).2
/-- what a faultless place says of the other hearings -/
theorem fl_PR {s t : Nat → Nat} {G : Int32} {i d q r o : Nat} (h : flN s t G i d q r o = 0) {j : Nat} (hj : j < s 3) (ij : j ≠ i) (hr : hrg t j = true) : (d = cs t j 3 → q < cs t j 4 + s (100 + j) → cs t j 4 < q + s (100 + i) → r ≠ cs t j 5 ∧ o ≠ cs t j 6 ∧ s (136 + i) &&& s (136 + j) = 0) ∧ ((s (148 + i)).testBit j = true → o ≠ cs t j 6) := by
  obtain ⟨a1, a2, a3, a4, a5, a6, a7, a8, a9⟩ := fl_dec.mp h
  have n1 := any_no a4 hj
  have n2 := any_no a6 hj
  have n3 := any_no a9 hj
  unfold brd at a7
  rw [Bool.or_eq_false_iff] at a7
  have n4 := any_no a7.2 hj
  constructor
  · intro e1 e2 e3
    have hm : mts s t i d q j = true := by
      unfold mts
      rw [hr, e1, beq_self_eq_true, decide_eq_true ⟨e3, e2⟩, beq_false_of_ne ij]
      rfl
    rw [hm] at n1 n2 n3
    refine ⟨fun e => ?_, fun e => ?_, ?_⟩
    · rw [e, beq_self_eq_true] at n1
      cases n1
    · rw [e, beq_self_eq_true] at n2
      cases n2
    · rw [Nat.and_comm]
      simpa using n3
  · intro e1 e
    rw [e1, hr, e, beq_self_eq_true] at n4
    cases n4
theorem fl_of {s t : Nat → Nat} (hS : GoodS s) (hp : PW s t) {i : Nat} (hi : i < s 3) (hr : hrg t i = true) (h : UN s t i) : flN s t (-nI 1) i (cs t i 3) (cs t i 4) (cs t i 5) (cs t i 6) = 0 := by
  obtain ⟨⟨u1, u2, u3⟩, u4, u5, u6, u7, u8⟩ := h
  have nm : ∀ (P : Nat → Bool), (∀ j, j < s 3 → j ≠ i → hrg t j = true → cs t j 3 = cs t i 3 → cs t i 4 < cs t j 4 + s (100 + j) → cs t j 4 < cs t i 4 + s (100 + i) → P j = false) → anyF (fun c => mts s t i (cs t i 3) (cs t i 4) c && P c) 0 (s 3) = false := fun P hP => any_f (fun j hj => by
    try dsimp only
    cases e : mts s t i (cs t i 3) (cs t i 4) j with
    | false => rfl
    | true =>
      unfold mts at e
      simp only [Bool.and_eq_true, Bool.not_eq_true', beq_eq_false_iff_ne, beq_iff_eq, decide_eq_true_eq] at e
      rw [hP j hj e.1 e.2.1 e.2.2.1 e.2.2.2.2 e.2.2.2.1]
      rfl)
  refine fl_dec.mpr ⟨?_, u4, u5, ?_, u6, ?_, ?_, u8, ?_⟩
  · unfold dyO
    rw [u3, decide_eq_false (by omega), decide_eq_false (by omega)]
    rfl
  · exact nm _ (fun j hj ji h1 h2 h3 h4 => beq_false_of_ne (fun q => ((hp i j hi hj (fun q => ji q.symm) hr h1).1 h2.symm h3 h4).1 q.symm))
  · exact nm _ (fun j hj ji h1 h2 h3 h4 => beq_false_of_ne (fun q => ((hp i j hi hj (fun q => ji q.symm) hr h1).1 h2.symm h3 h4).2.1 q.symm))
  · unfold brd
    rw [u7, Bool.false_or]
    refine any_f (fun j hj => ?_)
    try dsimp only
    by_cases ji : j = i
    · rw [ji, (hS.2.2.2.2.1 i hi).2.2.2.2.2.2]
      rfl
    · cases e : (s (148 + i)).testBit j with
      | false => rfl
      | true =>
        cases e2 : hrg t j with
        | false => rfl
        | true =>
          rw [beq_false_of_ne (fun q => (hp i j hi hj (fun q => ji q.symm) hr e2).2 e q.symm)]
          rfl
  · exact nm _ (fun j hj ji h1 h2 h3 h4 => by
      rw [Nat.and_comm, ((hp i j hi hj (fun q => ji q.symm) hr h1).1 h2.symm h3 h4).2.2]
      rfl)
theorem UN.of {s t t' : Nat → Nat} {c : Nat} (h : UN s t c) (e : ∀ k, 3 ≤ k → k ≤ 6 → cs t' c k = cs t c k) (e0 : t' 0 ≤ cs t c 3) (ew : wkg t' (cs t c 3) = true) (el : limD s t c ≤ limD s t' c) (eb : (t' (34 + c)).testBit (cs t c 6) = false) (eo : ouT s t' c (cs t c 3) (cs t c 4) = false) : UN s t' c := by
  unfold UN at h ⊢
  rw [e 3 (by omega) (by omega), e 4 (by omega) (by omega), e 5 (by omega) (by omega), e 6 (by omega) (by omega)]
  exact ⟨⟨e0, h.1.2.1, ew⟩, Nat.le_trans h.2.1 el, h.2.2.1, h.2.2.2.1, eb, eo⟩
theorem lim_mono {t t' : Nat → Nat} (hw : ∀ e, wkg t' e = true → wkg t e = true) : ∀ f l l' d, l ≤ l' → lim t f l d ≤ lim t' f l' d
  | 0, _, _, _, _ => Nat.le_refl _
  | f + 1, l, l', d, h => by
    rw [lim, lim]
    by_cases e : l = 0
    · rw [if_pos e]
      by_cases e2 : l' = 0
      · rw [if_pos e2]; exact Nat.le_refl _
      · rw [if_neg e2]
        have := (lim_ge (t := t') f (l' - bn (wkg t' (d + 1))) (d + 1)).1
        omega
    · rw [if_neg e, if_neg (show ¬ l' = 0 by omega)]
      refine lim_mono hw f _ _ _ ?_
      cases e1 : wkg t' (d + 1) with
      | false =>
        have : bn false = 0 := rfl
        omega
      | true =>
        rw [hw _ e1]
        omega
theorem limD_mono {s t t' : Nat → Nat} {i : Nat} (hw : ∀ e, wkg t' e = true → wkg t e = true) (h : cs t i 1 ≤ cs t' i 1) : limD s t i ≤ limD s t' i := lim_mono hw _ _ _ _ (by omega)
theorem wkg_lo {t t' : Nat → Nat} (h1 : t 1 ≤ 20) (h : ∀ x, 0 < x → x < 22 → t' x = t x) (e : Nat) : wkg t' e = wkg t e := by
  unfold wkg isHol
  rw [h 1 (by omega) (by omega)]
  have : ∀ n c, c + n ≤ 20 → anyF (fun k => t' (2 + k) == e) c n = anyF (fun k => t (2 + k) == e) c n := by
    intro n
    induction n with
    | zero => intro c hc; rfl
    | succ n ih =>
      intro c hc
      rw [anyF, anyF, ih (c + 1) (by omega), h (2 + c) (by omega) (by omega)]
  rw [this _ _ (by omega)]
theorem ouT_eq {s t t' : Nat → Nat} (h : ∀ v, v < s 2 → t' (22 + v) = t (22 + v)) {c d q : Nat} : ouT s t' c d q = ouT s t c d q := by
  unfold ouT
  have : ∀ n k, k + n ≤ s 2 → anyF (fun v => (s (136 + c)).testBit v && !inW s t' c d q v) k n = anyF (fun v => (s (136 + c)).testBit v && !inW s t c d q v) k n := by
    intro n
    induction n with
    | zero => intro k hk; rfl
    | succ n ih =>
      intro k hk
      rw [anyF, anyF, ih (k + 1) (by omega)]
      unfold inW
      rw [h k (by omega)]
  exact this _ _ (by omega)
/-- the sum of a case's lengthenings -/
def grI (t : Nat → Nat) (c : Nat) : Nat → Int32
  | 0 => 0
  | k + 1 => grI t c k + nI (cs t c (7 + 4 * k + 3))
def GI (P : Nat → Bool) (s t : Nat → Nat) : Prop := (∀ c, c < s 3 → cs t c 0 = 1 → (P c = false → UN s t c) ∧ t 0 ≤ limD s t c) ∧ PW s t ∧ (∀ c, c < s 3 → cs t c 0 = 0 → t 0 ≤ limD s t c) ∧ (∀ c, c < s 3 → s (124 + c) = 1 → cs t c 1 ≤ s 164) ∧ ∀ c, c < s 3 → grI t c (cs t c 2) = nI (cs t c 1)
theorem grI_eq {t t' : Nat → Nat} {c : Nat} : ∀ n, n ≤ 5 → (∀ k, 7 ≤ k → k < 7 + 4 * n → cs t' c k = cs t c k) → grI t' c n = grI t c n
  | 0, _, _ => rfl
  | n + 1, hn, h => by
    rw [grI, grI, grI_eq n (by omega) (fun k h1 h2 => h k h1 (by omega)), h (7 + 4 * n + 3) (by omega) (by omega)]
