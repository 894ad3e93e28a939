variable {X : Kd}
theorem x_wdL {w : Wd} {b : Nat} {s t : Nat → Nat} (h : HX w 73 b s t) {v d : Nat} (hv : v < 32) (hd : d < 2 ^ 31) {k : Int32 → Int32 → Int32 → Int32 → Wd → Option ((Int32 ⊕ Nat) × Wd)} : ∃ w', f_X12_withdraw_L44 (Kx X) 0 k fu (nI v) (nI d) (nI 0) (nI 0) w = k (nI v) (nI d) (nI (cnt (fun c => cs t c 0 == 1 && (!decide (cs t c 3 < d) && (s (136 + c)).testBit v)) (s 3))) (nI (s 3)) w' ∧ HX w' 73 b s (twT s t (fun c => cs t c 0 == 1 && (!decide (cs t c 3 < d) && (s (136 + c)).testBit v)) 0 (s 3)) ∧ Off (PD 73) w w' := by
  have h0 := h
  have h12 := h.gs.1.2.2.2
  refine loop_q (fun n c w1 => f_X12_withdraw_L44 (Kx X) 0 k n (nI v) (nI d) (nI (cnt (fun c => cs t c 0 == 1 && (!decide (cs t c 3 < d) && (s (136 + c)).testBit v)) c)) (nI c) w1) (fun c w1 => HX w1 73 b s (twT s t (fun c => cs t c 0 == 1 && (!decide (cs t c 3 < d) && (s (136 + c)).testBit v)) 0 c) ∧ Off (PD 73) w w1) (fun r => ∃ w', r = k (nI v) (nI d) (nI (cnt (fun c => cs t c 0 == 1 && (!decide (cs t c 3 < d) && (s (136 + c)).testBit v)) (s 3))) (nI (s 3)) w' ∧ HX w' 73 b s (twT s t (fun c => cs t c 0 == 1 && (!decide (cs t c 3 < d) && (s (136 + c)).testBit v)) 0 (s 3)) ∧ Off (PD 73) w w') (s 3) (fun n w1 hI => ?_) (fun n c w1 hc hI ih => ?_) fu 0 w ⟨h, Off.rf⟩ (by omega) (fu_lt (by omega))
  · try dsimp only
    have h := hI.1
    rw [f_X12_withdraw_L44]
    simp (disch := first | omega | assumption) only [il, Option.bind_some, ixa_n, nI_add, pk_mul, if_le_t, if_le_f, if_lt_t, if_lt_f, if_eq_t, if_eq_f, ↓ifb', h.su, x_size h, h.pg, h.pe, h.mt, h.me, h.p0, h.p1, h.p6, h.p2, h.p3, h.p4, h.p5, h.n2, h.n3, h.n4, h.n5, h.f0, h.f1, h.f2, h.f4, h.f5, h.dy, x1205 h.1]
    exact ⟨w1, rfl, hI.1, hI.2⟩
  · try dsimp only at ih ⊢
    have h := hI.1
    have q := twT_ge h0.gs h0.gt (P := fun c => cs t c 0 == 1 && (!decide (cs t c 3 < d) && (s (136 + c)).testBit v)) (p := 0) (by omega) c (by omega)
    have e0 := q.2.1 c 0 (Nat.le_refl _) (by omega)
    have e3 := q.2.1 c 3 (Nat.le_refl _) (by omega)
    have c3 := h0.gt.c3 (i := c) (by omega)
    have nd := h0.gs.nd hc
    have ta : hrg (twT s t (fun c => cs t c 0 == 1 && (!decide (cs t c 3 < d) && (s (136 + c)).testBit v)) 0 c) c = true → _ := x_takeAway (X := X) h hc (p := 0) (by omega)
    rw [cnt_succ, twT_succ] at ih
    generalize twT s t (fun c => cs t c 0 == 1 && (!decide (cs t c 3 < d) && (s (136 + c)).testBit v)) 0 c = T at *
    rw [f_X12_withdraw_L44, x1205 h.1, Option.bind_some, h.su, Option.bind_some, show (3 : Int32) = nI 3 from rfl, x_size h (by omega), Option.bind_some, if_le_f (by omega) (by omega) hc]
    try dsimp only
    rw [x1205 h.1, Option.bind_some, h.pg, Option.bind_some]
    try dsimp only
    rw [ixa_n (by omega) (by omega), Option.bind_some, h.su, Option.bind_some, h.mt, Option.bind_some]
    try dsimp only
    rw [ixa_n (by omega) (by omega), Option.bind_some, h.me (by omega), Option.bind_some, h.f4 hc, x_has (by omega) (by omega), Option.bind_some, h.pe (by omega), Option.bind_some]
    try dsimp only
    rw [h.p0 (by omega), e0, ifb, show nI c + 1 = nI (c + 1) from nI_add c 1, show (1 : Int32) = nI 1 from rfl]
    by_cases z0 : cs t c 0 = 1
    · have hr := h0.gt.hr (i := c) (by omega) (by unfold hrg; rw [z0]; rfl)
      have eh : hrg T c = true := by unfold hrg; rw [e0, z0]; rfl
      obtain ⟨w2, a1, a2, a3⟩ := ta eh
      rw [if_eq_t z0, h.p2 (by omega) eh, e3]
      by_cases z3 : cs t c 3 < d
      · have eb : (cs t c 0 == 1 && (!decide (cs t c 3 < d) && (s (136 + c)).testBit v)) = false := by simp [z3]
        simp only [eb, Bool.false_eq_true, if_false, bn, Nat.add_zero] at ih
        rw [if_lt_t (by omega) (by omega) z3]
        exact ih _ hI
      · rw [if_lt_f (by omega) (by omega) (by omega)]
        cases zb : (s (136 + c)).testBit v
        · have eb : (cs t c 0 == 1 && (!decide (cs t c 3 < d) && (s (136 + c)).testBit v)) = false := by simp [zb]
          simp only [eb, Bool.false_eq_true, if_false, bn, Nat.add_zero] at ih
          rw [if_neg (by decide)]
          exact ih _ hI
        · have eb : (cs t c 0 == 1 && (!decide (cs t c 3 < d) && (s (136 + c)).testBit v)) = true := by simp [z0, zb]; omega
          simp only [eb, if_true, bn] at ih
          rw [if_pos rfl, x1205 h.1, Option.bind_some, show (0 : Int32) = nI 0 from rfl, a1, Option.bind_some, nI_add]
          exact ih _ ⟨a2, hI.2.trans (a3.off (fun f x q => Or.inr (by omega)) (fun x q => Or.inr (by omega)))⟩
    · have eb : (cs t c 0 == 1 && (!decide (cs t c 3 < d) && (s (136 + c)).testBit v)) = false := by simp [z0]
      simp only [eb, Bool.false_eq_true, if_false, bn, Nat.add_zero] at ih
      rw [if_eq_f (by omega) (by omega) z0]
      exact ih _ hI

