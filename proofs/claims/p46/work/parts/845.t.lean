variable {X : Kd}
def twT (s t : Nat → Nat) (P : Nat → Bool) (p : Nat) : Nat → Nat → Nat
  | 0 => t
  | c + 1 => if P c = true then tkT s (twT s t P p c) c p else twT s t P p c
theorem twT_succ {s t : Nat → Nat} {P : Nat → Bool} {p c : Nat} : twT s t P p (c + 1) = if P c = true then tkT s (twT s t P p c) c p else twT s t P p c := rfl
theorem twT_ge {s t : Nat → Nat} (hS : GoodS s) (hT : GoodT s t) {P : Nat → Bool} {p : Nat} (hp : p < 4) : ∀ c, c ≤ 12 → GoodT s (twT s t P p c) ∧ (∀ j k, c ≤ j → k < 27 → cs (twT s t P p c) j k = cs t j k) ∧ ∀ x, x < 46 → twT s t P p c x = t x
  | 0, _ => ⟨hT, fun _ _ _ _ => rfl, fun _ _ => rfl⟩
  | c + 1, h => by
    obtain ⟨i1, i2, i3⟩ := twT_ge hS hT (P := P) hp c (by omega)
    rw [twT_succ]
    by_cases e : P c = true
    · rw [if_pos e]
      exact ⟨tkT_good hS i1 (by omega) hp, fun j k hj hk => by rw [tkT_ne i1 (by omega) (by omega) hk]; exact i2 j k (by omega) hk, fun x hx => by rw [tkT_lo hx]; exact i3 x hx⟩
    · rw [if_neg e]
      exact ⟨i1, fun j k hj hk => i2 j k (by omega) hk, i3⟩
theorem x_holL {w : Wd} {b : Nat} {s t : Nat → Nat} (h : HX w 73 b s t) {d : Nat} (hd : d < 2 ^ 31) {k : Int32 → Int32 → Int32 → Wd → Option ((Int32 ⊕ Nat) × Wd)} : ∃ w', f_X12_addHoliday_L58 (Kx X) 0 k fu (nI d) (nI 0) (nI 0) w = k (nI d) (nI (cnt (fun c => cs t c 0 == 1 && cs t c 3 == d) (s 3))) (nI (s 3)) w' ∧ HX w' 73 b s (twT s t (fun c => cs t c 0 == 1 && cs t c 3 == d) 3 (s 3)) ∧ Off (PD 73) w w' := by
  have h0 := h
  have h12 := h.gs.1.2.2.2
  refine loop_q (fun n c w1 => f_X12_addHoliday_L58 (Kx X) 0 k n (nI d) (nI (cnt (fun c => cs t c 0 == 1 && cs t c 3 == d) c)) (nI c) w1) (fun c w1 => HX w1 73 b s (twT s t (fun c => cs t c 0 == 1 && cs t c 3 == d) 3 c) ∧ Off (PD 73) w w1) (fun r => ∃ w', r = k (nI d) (nI (cnt (fun c => cs t c 0 == 1 && cs t c 3 == d) (s 3))) (nI (s 3)) w' ∧ HX w' 73 b s (twT s t (fun c => cs t c 0 == 1 && cs t c 3 == d) 3 (s 3)) ∧ Off (PD 73) w w') (s 3) (fun n w1 hI => ?_) (fun n c w1 hc hI ih => ?_) fu 0 w ⟨h, Off.rf⟩ (by omega) (fu_lt (by omega))
  · try dsimp only
    have h := hI.1
    rw [f_X12_addHoliday_L58]
    simp (disch := first | omega | assumption) only [il, Option.bind_some, ixa_n, nI_add, pk_mul, if_le_t, if_le_f, if_lt_t, if_lt_f, if_eq_t, if_eq_f, ↓ifb', h.su, x_size h, h.pg, h.pe, h.mt, h.me, h.p0, h.p1, h.p6, h.p2, h.p3, h.p4, h.p5, h.n2, h.n3, h.n4, h.n5, h.f0, h.f1, h.f2, h.f4, h.f5, h.dy, x1205 h.1]
    exact ⟨w1, rfl, hI.1, hI.2⟩
  · try dsimp only at ih ⊢
    have h := hI.1
    have q := twT_ge h0.gs h0.gt (P := fun c => cs t c 0 == 1 && cs t c 3 == d) (p := 3) (by omega) c (by omega)
    have e0 := q.2.1 c 0 (Nat.le_refl _) (by omega)
    have e3 := q.2.1 c 3 (Nat.le_refl _) (by omega)
    have c3 := h0.gt.c3 (i := c) (by omega)
    have ta : hrg (twT s t (fun c => cs t c 0 == 1 && cs t c 3 == d) 3 c) c = true → _ := x_takeAway (X := X) h hc (p := 3) (by omega)
    rw [cnt_succ, twT_succ] at ih
    generalize twT s t (fun c => cs t c 0 == 1 && cs t c 3 == d) 3 c = T at *
    rw [f_X12_addHoliday_L58]
    by_cases z0 : cs t c 0 = 1
    · have hr := h0.gt.hr (i := c) (by omega) (by unfold hrg; rw [z0]; rfl)
      have eh : hrg T c = true := by unfold hrg; rw [e0, z0]; rfl
      obtain ⟨w2, a1, a2, a3⟩ := ta eh
      by_cases z3 : cs t c 3 = d
      · have eb : (cs t c 0 == 1 && cs t c 3 == d) = true := by simp [z0, z3]
        simp only [eb, if_true, bn] at ih
        simp (disch := first | omega | assumption) only [il, Option.bind_some, ixa_n, nI_add, pk_mul, if_le_t, if_le_f, if_lt_t, if_lt_f, if_eq_t, if_eq_f, ↓ifb', h.su, x_size h, h.pg, h.pe, h.mt, h.me, h.p0, h.p1, h.p6, h.p2, h.p3, h.p4, h.p5, h.n2, h.n3, h.n4, h.n5, h.f0, h.f1, h.f2, h.f4, h.f5, h.dy, x1205 h.1, e0, e3, a1]
        exact ih _ ⟨a2, hI.2.trans (a3.off (fun f x q => Or.inr (by omega)) (fun x q => Or.inr (by omega)))⟩
      · have eb : (cs t c 0 == 1 && cs t c 3 == d) = false := by simp [z3]
        simp only [eb, Bool.false_eq_true, if_false, bn, Nat.add_zero] at ih
        simp (disch := first | omega | assumption) only [il, Option.bind_some, ixa_n, nI_add, pk_mul, if_le_t, if_le_f, if_lt_t, if_lt_f, if_eq_t, if_eq_f, ↓ifb', h.su, x_size h, h.pg, h.pe, h.mt, h.me, h.p0, h.p1, h.p6, h.p2, h.p3, h.p4, h.p5, h.n2, h.n3, h.n4, h.n5, h.f0, h.f1, h.f2, h.f4, h.f5, h.dy, x1205 h.1, e0, e3]
        exact ih _ hI
    · have eb : (cs t c 0 == 1 && cs t c 3 == d) = false := by simp [z0]
      simp only [eb, Bool.false_eq_true, if_false, bn, Nat.add_zero] at ih
      simp (disch := first | omega | assumption) only [il, Option.bind_some, ixa_n, nI_add, pk_mul, if_le_t, if_le_f, if_lt_t, if_lt_f, if_eq_t, if_eq_f, ↓ifb', h.su, x_size h, h.pg, h.pe, h.mt, h.me, h.p0, h.p1, h.p6, h.p2, h.p3, h.p4, h.p5, h.n2, h.n3, h.n4, h.n5, h.f0, h.f1, h.f2, h.f4, h.f5, h.dy, x1205 h.1, e0]
      exact ih _ hI

