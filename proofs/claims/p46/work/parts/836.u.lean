variable {X : Kd}
def NA (_ : Nat) : Prop := False
/-- the smaller, the more urgent -/
def kyN (s t : Nat → Nat) (i : Nat) : Nat := (limD s t i * 2 + (if s (124 + i) = 1 then 0 else 1)) * 12 + i
def wt (t : Nat → Nat) (i : Nat) : Bool := cs t i 0 == 0
def rk (s t : Nat → Nat) (i c : Nat) : Nat := cnt (fun u => wt t u && decide (kyN s t u < kyN s t i)) c
theorem rk_succ {s t : Nat → Nat} {i c : Nat} : rk s t i (c + 1) = rk s t i c + bn (wt t c && decide (kyN s t c < kyN s t i)) := rfl
theorem kyN_lt {s t : Nat → Nat} (hS : GoodS s) (hT : GoodT s t) {i : Nat} (hi : i < s 3) : kyN s t i < 20000 := by
  have l3 := limD_le hS hT hi
  have h12 := hS.1.2.2.2
  unfold kyN
  split <;> omega
theorem kyN_mod {s t : Nat → Nat} {i : Nat} (hi : i < 12) : kyN s t i % 12 = i := by
  unfold kyN
  omega
theorem cnt_mono {p q : Nat → Bool} : ∀ n, (∀ u, u < n → p u = true → q u = true) → cnt p n ≤ cnt q n
  | 0, _ => Nat.le_refl _
  | n + 1, h => by
    have i1 := cnt_mono n (fun u hu => h u (by omega))
    have i2 := h n (by omega)
    rw [cnt_succ, cnt_succ]
    cases e : p n
    · simp [bn]; omega
    · rw [i2 e]; omega
theorem cnt_strict {p q : Nat → Bool} {v : Nat} : ∀ n, (∀ u, u < n → p u = true → q u = true) → v < n → p v = false → q v = true → cnt p n < cnt q n
  | 0, _, h, _, _ => by omega
  | n + 1, h, hv, h1, h2 => by
    rw [cnt_succ, cnt_succ]
    by_cases e : v = n
    · subst e
      have i1 := cnt_mono (p := p) (q := q) v (fun u hu => h u (by omega))
      rw [h1, h2]
      simp only [bn, if_true, Bool.false_eq_true, if_false]
      omega
    · have i1 := cnt_strict (p := p) (q := q) (v := v) n (fun u hu => h u (by omega)) (by omega) h1 h2
      have i2 := h n (by omega)
      cases e : p n
      · have := bn_le (q n); simp only [bn, Bool.false_eq_true, if_false]; omega
      · rw [i2 e]; omega
theorem rk_lt {s t : Nat → Nat} {i j c : Nat} (hi : i < c) (hw : wt t i = true) (h : kyN s t i < kyN s t j) : rk s t i c < rk s t j c := cnt_strict (v := i) c (fun u hu hp => by
  simp only [Bool.and_eq_true, decide_eq_true_eq] at hp ⊢
  exact ⟨hp.1, by omega⟩) hi (by simp) (by simp [hw, h])
theorem rk_le {s t : Nat → Nat} {i j c : Nat} (h : kyN s t i ≤ kyN s t j) : rk s t i c ≤ rk s t j c := cnt_mono c (fun u hu hp => by
  simp only [Bool.and_eq_true, decide_eq_true_eq] at hp ⊢
  exact ⟨hp.1, by omega⟩)
theorem rk_w {s t : Nat → Nat} {i c : Nat} (hi : i < c) (hw : wt t i = true) : rk s t i c < cnt (wt t) c := cnt_strict (v := i) c (fun u hu hp => by
  simp only [Bool.and_eq_true] at hp
  exact hp.1) hi (by simp) hw
theorem rk_wle {s t : Nat → Nat} {i c : Nat} : rk s t i c ≤ cnt (wt t) c := cnt_mono c (fun u hu hp => by
  simp only [Bool.and_eq_true] at hp
  exact hp.1)
def urg (s t : Nat → Nat) (k : Nat) : Option Nat := fstF (fun v => wt t v && rk s t v (s 3) == k) 0 (s 3)
theorem urg_at {s t : Nat → Nat} (hS : GoodS s) {v k : Nat} (hv : v < s 3) (hw : wt t v = true) (hk : rk s t v (s 3) = k) : urg s t k = some v := by
  have h12 := hS.1.2.2.2
  refine fstF_at _ _ v (by omega) (by omega) (by simp [hw, hk]) (fun j _ hj => ?_)
  cases e : (wt t j && rk s t j (s 3) == k) with
  | false => rfl
  | true =>
    simp only [Bool.and_eq_true, beq_iff_eq] at e
    have hne : kyN s t j ≠ kyN s t v := fun q => by
      have h1 := kyN_mod (s := s) (t := t) (i := j) (by omega)
      have h2 := kyN_mod (s := s) (t := t) (i := v) (by omega)
      omega
    rcases Nat.lt_or_gt_of_ne hne with q | q
    · have := rk_lt (s := s) (c := s 3) (by omega) e.1 q
      omega
    · have := rk_lt (s := s) (c := s 3) hv hw q
      omega
theorem urg_some {s t : Nat → Nat} {v k : Nat} (h : urg s t k = some v) : v < s 3 ∧ wt t v = true ∧ rk s t v (s 3) = k := by
  have h1 := fstF_p _ _ _ h
  have h2 := h1.2.2
  simp only [Bool.and_eq_true, beq_iff_eq] at h2
  exact ⟨by omega, h2.1, h2.2⟩
theorem x_urgencyKey {w : Wd} {a b : Nat} {s t : Nat → Nat} (h : HX w a b s t) {i : Nat} (hi : i < s 3) : f_X10_urgencyKey (Kx X) a (nI i) w = some (nI (kyN s t i), w) := by
  have h12 := h.gs.1.2.2.2
  have l1 := limD_le h.gs h.gt hi
  have m1 := x_limitDay (X := X) h hi
  have f3 := h.f3 hi
  unfold f_X10_urgencyKey kyN
  generalize limD s t i = L at *
  by_cases e : s (124 + i) = 1
  · have e2 : (s (124 + i) == 1) = true := by simp [e]
    simp (disch := first | omega | assumption) only [il, Option.bind_some, ixa_n, nI_add, pk_mul, if_le_t, if_le_f, if_lt_t, if_lt_f, if_eq_t, if_eq_f, ↓ifb', h.su, x_size h, h.pg, h.pe, h.mt, h.me, h.p0, h.p1, h.p6, h.p2, h.p3, h.p4, h.p5, h.n2, h.n3, h.n4, h.n5, h.f0, h.f1, h.f2, h.f4, h.f5, h.dy, f3, e2, m1, if_true, if_pos e]
  · have e2 : (s (124 + i) == 1) = false := by simp [e]
    simp (disch := first | omega | assumption) only [il, Option.bind_some, ixa_n, nI_add, pk_mul, if_le_t, if_le_f, if_lt_t, if_lt_f, if_eq_t, if_eq_f, ↓ifb', h.su, x_size h, h.pg, h.pe, h.mt, h.me, h.p0, h.p1, h.p6, h.p2, h.p3, h.p4, h.p5, h.n2, h.n3, h.n4, h.n5, h.f0, h.f1, h.f2, h.f4, h.f5, h.dy, f3, e2, m1, Bool.false_eq_true, if_false, if_neg e]

