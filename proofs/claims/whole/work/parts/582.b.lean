/-! More calls that read. -/
theorem nR_or {x : Int32} {n : Nat} (hn : n < 2 ^ 31) (h : ¬ inR x (n + 1)) : x < 0 ∨ nI n < x := by
  by_cases e : x.toInt < 0
  · exact Or.inl (lt0.mpr e)
  · refine Or.inr ((nlt hn).mpr ?_)
    by_cases e2 : x.toInt < ((n + 1 : Nat) : Int)
    · exact absurd ⟨by omega, e2⟩ h
    · omega
def elN (s t : Nat → Nat) (i : Nat) : Nat → Nat := orS (fun o => if brd s t o i = true then 0 else 2 ^ o)
theorem elN_succ {s t : Nat → Nat} {i n : Nat} : elN s t i (n + 1) = elN s t i n ||| if brd s t n i = true then 0 else 2 ^ n := rfl
theorem elN_lt {s t : Nat → Nat} {i n : Nat} (hn : n ≤ 6) : elN s t i n < 2 ^ 6 := orS_lt n (fun c hc => by
  try dsimp only
  split
  · exact Nat.two_pow_pos 6
  · exact Nat.pow_lt_pow_right (by omega) (by omega))
theorem elN_bit {s t : Nat → Nat} {i : Nat} : ∀ {n o : Nat}, (elN s t i n).testBit o = (decide (o < n) && !brd s t o i)
  | 0, o => by simp [elN, orS]
  | n + 1, o => by
    rw [elN_succ, Nat.testBit_or, elN_bit]
    by_cases e : o = n
    · subst e
      cases brd s t o i <;> simp
    · have e2 : (if brd s t n i = true then 0 else 2 ^ n).testBit o = false := by
        split
        · exact Nat.zero_testBit o
        · rw [Nat.testBit_two_pow]
          exact decide_eq_false (fun q => e q.symm)
      rw [e2, Bool.or_false]
      by_cases e3 : o < n
      · rw [decide_eq_true e3, decide_eq_true (by omega : o < n + 1)]
      · rw [decide_eq_false e3, decide_eq_false (by omega : ¬ o < n + 1)]
theorem all_d : ∀ n, n < 7 → ∀ u, u < 64 → ((1 : Int32) <<< (nI n &&& 31) - 1) &&& (nI u ^^^ (-1)) = nI ((2 ^ n - 1) &&& (63 - u)) := by decide +kernel
theorem all_bit {n u v : Nat} (hu : u < 64) (hb : ∀ o, v.testBit o = (decide (o < n) && !u.testBit o)) (hn : n < 7) : (2 ^ n - 1) &&& (63 - u) = v := by
  apply Nat.eq_of_testBit_eq
  intro o
  rw [hb o, Nat.testBit_and, Nat.testBit_two_pow_sub_one, show 63 - u = 2 ^ 6 - (u + 1) by omega, Nat.testBit_two_pow_sub_succ (n := 6) hu]
  by_cases e : o < n
  · rw [decide_eq_true e, decide_eq_true (by omega : o < 6)]
    simp
  · rw [decide_eq_false e]
    simp
theorem m_eligibleL {w : Wd} {s t : Nat → Nat} (h : HM w s t) {i : Nat} (hi : i < s 3) : f_X13_eligible_L18 Kc 415 (fun v1_18 v2_18 v3_18 w4 => some (v2_18, w4)) fu (nI i) (nI 0) (nI 0) w = some (nI (elN s t i (s 1)), w) := by
  have h6 := h.gs.1.2.1
  refine loop_g (fun f c => f_X13_eligible_L18 Kc 415 (fun v1_18 v2_18 v3_18 w4 => some (v2_18, w4)) f (nI i) (nI (elN s t i c)) (nI c) w) (fun _ => some (nI (elN s t i (s 1)), w)) (s 1) (fun f => ?_) (fun f c hc ih => ?_) fu 0 (by omega) (fu_lt (by omega))
  · try dsimp only
    rw [f_X13_eligible_L18]
    simp (disch := first | omega | assumption) only [il, Option.bind_some, ixa_n, nI_add, pk_mul, if_le_t, if_le_f, if_lt_t, if_lt_f, if_eq_t, if_eq_f, ↓ifb', x1301 h.1, x1303 h.1, h.S, h.T, m_of h, m_hasHearing h]
  · try dsimp only at ih ⊢
    have hb := elN_lt (s := s) (t := t) (i := i) (n := c) (by omega)
    have hp : 2 ^ c < 2 ^ 6 := Nat.pow_lt_pow_right (by omega) (by omega)
    rw [elN_succ] at ih
    rw [f_X13_eligible_L18]
    cases e : brd s t c i
    · simp (disch := first | omega | assumption) only [il, Option.bind_some, ixa_n, nI_add, pk_mul, if_le_t, if_le_f, if_lt_t, if_lt_f, if_eq_t, if_eq_f, ↓ifb', x1301 h.1, x1303 h.1, h.S, h.T, m_of h, m_hasHearing h, m_isBarredFrom h, e, Bool.false_eq_true, if_false]
      rw [shl_nI (by omega) (by omega), Nat.one_mul, or_nI (by omega) (by omega)]
      simpa [e] using ih
    · simp (disch := first | omega | assumption) only [il, Option.bind_some, ixa_n, nI_add, pk_mul, if_le_t, if_le_f, if_lt_t, if_lt_f, if_eq_t, if_eq_f, ↓ifb', x1301 h.1, x1303 h.1, h.S, h.T, m_of h, m_hasHearing h, m_isBarredFrom h, e, if_true]
      simpa [e] using ih
theorem b_eligible {w : Wd} (h : Inv w) (x : Int32) : Both (f_X12_eligible Kc 0 x) (f_X13_eligible Kc 415 x) E11 w := Both.r h (fun b s t hx hm hg => by
  have hs := hx.gs.1
  by_cases e : inR x (s 3)
  · obtain ⟨i, hi, rfl⟩ := inR_nI e
    refine ⟨.inl (nI (elN s t i (s 1))), ?_, fun w2 h2 g2 => ⟨_, 0, ?_, rfl, rfl⟩⟩
    · unfold f_X12_eligible f_X12_allOf
      rw [x_re3 hx, if_pos e, Option.bind_some, xk_l]
      try dsimp only
      rw [x1205 hx.1, Option.bind_some, hx.su, Option.bind_some, show (1 : Int32) = nI 1 from rfl, x_size hx (by omega), Option.bind_some]
      try dsimp only
      rw [Option.bind_some]
      try dsimp only
      rw [x1205 hx.1, Option.bind_some, x_barredOfficers hx hi, Option.bind_some]
      have q1 := all_d (s 1) (by omega) (brN s t i) (brN_lt hx.gs hx.gt hi)
      rw [all_bit (brN_lt hx.gs hx.gt hi) (fun o => by rw [elN_bit, brN_bit]) (by omega)] at q1
      exact congrArg (fun z => some (Sum.inl z, w)) q1
    · unfold f_X13_eligible
      rw [m_isCase h2, decide_eq_true e, Option.bind_some]
      try dsimp only
      rw [m_isT, Option.bind_some]
      try dsimp only
      rw [ib_t]
      exact m_eligibleL h2.tl hi
  · refine ⟨.inr 1, ?_, fun w2 h2 g2 => ⟨0, 1, ?_, rfl, rfl⟩⟩
    · unfold f_X12_eligible
      rw [x_re3 hx, if_neg e, Option.bind_some, xk_r]
    · unfold f_X13_eligible
      rw [m_isCase h2, decide_eq_false e, Option.bind_some]
      try dsimp only
      rw [m_isF, Option.bind_some, ib_f])
theorem b_witness {w : Wd} (h : Inv w) (x y : Int32) : Both (f_X12_witness Kc 0 x y) (f_X13_witness Kc 415 x y) E11 w := Both.r h (fun b s t hx hm hg => by
  have hs := hx.gs.1
  by_cases e : inR x (s 2)
  · by_cases e2 : inR y 5
    · obtain ⟨i, hi, rfl⟩ := inR_nI e
      obtain ⟨k, hk, rfl⟩ := inR_nI e2
      rcases (by omega : k = 0 ∨ k = 1 ∨ k = 2 ∨ k = 3 ∨ k = 4) with rfl | rfl | rfl | rfl | rfl
      · refine ⟨.inl (nI (s (52 + i))), ?_, fun w2 h2 g2 => ⟨_, 0, ?_, rfl, rfl⟩⟩
        · unfold f_X12_witness
          rw [x_re2 hx, if_pos e, Option.bind_some, xk_l]
          try dsimp only
          rw [if_neg (show ¬ (nI 0 < 0 ∨ 4 < nI 0) by decide), if_pos (show nI 0 = 0 from rfl)]
          rw [x1205 hx.1, Option.bind_some, hx.su, Option.bind_some, u905 hx.1 hx.2.1.2.1, Option.bind_some]
          try dsimp only
          rw [ixa_n (by omega) (by omega), Option.bind_some, (hx.2.2.1.2.2.2.2.1 i hi).1]
        · unfold f_X13_witness
          rw [m_isWitness h2, decide_eq_true e, Option.bind_some]
          try dsimp only
          rw [ib_t, isIn_n (n := 5) rfl, decide_eq_true e2, Option.bind_some]
          try dsimp only
          rw [ib_t, m_isT, Option.bind_some]
          try dsimp only
          rw [ib_t]
          rw [if_neg (show ¬ (nI 0 < 0 ∨ 3 < nI 0) by decide), if_pos (show nI 0 = 0 from rfl), x1301 h2.1.sI, Option.bind_some, show (52 : Int32) = nI 52 from rfl, nI_add]
          try dsimp only
          rw [ixa_n (by omega) (by omega), Option.bind_some, h2.tl.S (by omega)]
      · refine ⟨.inl (nI (t (22 + i)) - nI 1), ?_, fun w2 h2 g2 => ⟨_, 0, ?_, rfl, rfl⟩⟩
        · unfold f_X12_witness
          rw [x_re2 hx, if_pos e, Option.bind_some, xk_l]
          try dsimp only
          rw [if_neg (show ¬ (nI 1 < 0 ∨ 4 < nI 1) by decide), if_neg (show ¬ nI 1 = 0 by decide), if_pos (show nI 1 = 1 from rfl)]
          rw [x1205 hx.1, Option.bind_some, t1003 hx.1 (by decide), Option.bind_some]
          try dsimp only
          rw [ixa_n (by omega) (by omega), Option.bind_some, hx.2.2.2.1.2.2.1 i hi]
        · unfold f_X13_witness
          rw [m_isWitness h2, decide_eq_true e, Option.bind_some]
          try dsimp only
          rw [ib_t, isIn_n (n := 5) rfl, decide_eq_true e2, Option.bind_some]
          try dsimp only
          rw [ib_t, m_isT, Option.bind_some]
          try dsimp only
          rw [ib_t]
          rw [if_neg (show ¬ (nI 1 < 0 ∨ 3 < nI 1) by decide), if_neg (show ¬ nI 1 = 0 by decide), if_pos (show nI 1 = 1 from rfl), x1303 h2.1.sI, Option.bind_some, show (22 : Int32) = nI 22 from rfl, nI_add]
          try dsimp only
          rw [ixa_n (by omega) (by omega), Option.bind_some, h2.tl.To (by omega)]
      · refine ⟨.inl (nI (s (64 + i))), ?_, fun w2 h2 g2 => ⟨_, 0, ?_, rfl, rfl⟩⟩
        · unfold f_X12_witness
          rw [x_re2 hx, if_pos e, Option.bind_some, xk_l]
          try dsimp only
          rw [if_neg (show ¬ (nI 2 < 0 ∨ 4 < nI 2) by decide), if_neg (show ¬ nI 2 = 0 by decide), if_neg (show ¬ nI 2 = 1 by decide), if_pos (show nI 2 = 2 from rfl)]
          rw [x1205 hx.1, Option.bind_some, hx.su, Option.bind_some, u907 hx.1 hx.2.1.2.1, Option.bind_some]
          try dsimp only
          rw [ixa_n (by omega) (by omega), Option.bind_some, (hx.2.2.1.2.2.2.2.1 i hi).2.1]
        · unfold f_X13_witness
          rw [m_isWitness h2, decide_eq_true e, Option.bind_some]
          try dsimp only
          rw [ib_t, isIn_n (n := 5) rfl, decide_eq_true e2, Option.bind_some]
          try dsimp only
          rw [ib_t, m_isT, Option.bind_some]
          try dsimp only
          rw [ib_t]
          rw [if_neg (show ¬ (nI 2 < 0 ∨ 3 < nI 2) by decide), if_neg (show ¬ nI 2 = 0 by decide), if_neg (show ¬ nI 2 = 1 by decide), if_pos (show nI 2 = 2 from rfl), x1301 h2.1.sI, Option.bind_some, show (64 : Int32) = nI 64 from rfl, nI_add]
          try dsimp only
          rw [ixa_n (by omega) (by omega), Option.bind_some, h2.tl.S (by omega)]
      · refine ⟨.inl (nI (s (76 + i))), ?_, fun w2 h2 g2 => ⟨_, 0, ?_, rfl, rfl⟩⟩
        · unfold f_X12_witness
          rw [x_re2 hx, if_pos e, Option.bind_some, xk_l]
          try dsimp only
          rw [if_neg (show ¬ (nI 3 < 0 ∨ 4 < nI 3) by decide), if_neg (show ¬ nI 3 = 0 by decide), if_neg (show ¬ nI 3 = 1 by decide), if_neg (show ¬ nI 3 = 2 by decide), if_pos (show nI 3 = 3 from rfl)]
          rw [x1205 hx.1, Option.bind_some, hx.su, Option.bind_some, u908 hx.1 hx.2.1.2.1, Option.bind_some]
          try dsimp only
          rw [ixa_n (by omega) (by omega), Option.bind_some, (hx.2.2.1.2.2.2.2.1 i hi).2.2]
        · unfold f_X13_witness
          rw [m_isWitness h2, decide_eq_true e, Option.bind_some]
          try dsimp only
          rw [ib_t, isIn_n (n := 5) rfl, decide_eq_true e2, Option.bind_some]
          try dsimp only
          rw [ib_t, m_isT, Option.bind_some]
          try dsimp only
          rw [ib_t]
          rw [if_neg (show ¬ (nI 3 < 0 ∨ 3 < nI 3) by decide), if_neg (show ¬ nI 3 = 0 by decide), if_neg (show ¬ nI 3 = 1 by decide), if_neg (show ¬ nI 3 = 2 by decide), if_pos (show nI 3 = 3 from rfl), x1301 h2.1.sI, Option.bind_some, show (76 : Int32) = nI 76 from rfl, nI_add]
          try dsimp only
          rw [ixa_n (by omega) (by omega), Option.bind_some, h2.tl.S (by omega)]
      · refine ⟨.inl (nI (needN s t i)), ?_, fun w2 h2 g2 => ⟨_, 0, ?_, rfl, rfl⟩⟩
        · unfold f_X12_witness
          rw [x_re2 hx, if_pos e, Option.bind_some, xk_l]
          try dsimp only
          rw [if_neg (show ¬ (nI 4 < 0 ∨ 4 < nI 4) by decide), if_neg (show ¬ nI 4 = 0 by decide), if_neg (show ¬ nI 4 = 1 by decide), if_neg (show ¬ nI 4 = 2 by decide), if_neg (show ¬ nI 4 = 3 by decide), if_pos (show nI 4 = 4 from rfl)]
          rw [x1205 hx.1, Option.bind_some, x_countNeeding hx (by omega), Option.bind_some]
        · unfold f_X13_witness
          rw [m_isWitness h2, decide_eq_true e, Option.bind_some]
          try dsimp only
          rw [ib_t, isIn_n (n := 5) rfl, decide_eq_true e2, Option.bind_some]
          try dsimp only
          rw [ib_t, m_isT, Option.bind_some]
          try dsimp only
          rw [ib_t]
          rw [if_pos (show (nI 4 < 0 ∨ 3 < nI 4) by decide), m_needing h2.tl (by omega), Option.bind_some]
    · refine ⟨.inr 1, ?_, fun w2 h2 g2 => ⟨0, 1, ?_, rfl, rfl⟩⟩
      · obtain ⟨i, hi, rfl⟩ := inR_nI e
        unfold f_X12_witness
        rw [x_re2 hx, if_pos e, Option.bind_some, xk_l]
        try dsimp only
        rw [if_pos (show y < 0 ∨ 4 < y from nR_or (n := 4) (by omega) e2)]
      · unfold f_X13_witness
        rw [m_isWitness h2, decide_eq_true e, Option.bind_some]
        try dsimp only
        rw [ib_t, isIn_n (n := 5) rfl, decide_eq_false e2, Option.bind_some]
        try dsimp only
        rw [ib_f, m_isF, Option.bind_some, ib_f]
  · refine ⟨.inr 1, ?_, fun w2 h2 g2 => ⟨0, 1, ?_, rfl, rfl⟩⟩
    · unfold f_X12_witness
      rw [x_re2 hx, if_neg e, Option.bind_some, xk_r]
    · unfold f_X13_witness
      rw [m_isWitness h2, decide_eq_false e, Option.bind_some]
      try dsimp only
      rw [ib_f, m_isF, Option.bind_some, ib_f])
theorem b_matter {w : Wd} (h : Inv w) (x y : Int32) : Both (f_X12_matter Kc 0 x y) (f_X13_matter Kc 415 x y) E11 w := Both.r h (fun b s t hx hm hg => by
  have hs := hx.gs.1
  by_cases e : inR x (s 3)
  · by_cases e2 : inR y 10
    · obtain ⟨i, hi, rfl⟩ := inR_nI e
      obtain ⟨k, hk, rfl⟩ := inR_nI e2
      have hU := (hx.gs.2.2.2.2.1 i hi).2.2.2
      have h2p : 2 ^ s 2 ≤ 2 ^ 12 := Nat.pow_le_pow_right (by omega) (by omega)
      have h3p : 2 ^ s 3 ≤ 2 ^ 12 := Nat.pow_le_pow_right (by omega) (by omega)
      rcases (by omega : k = 0 ∨ k = 1 ∨ k = 2 ∨ k = 3 ∨ k = 4 ∨ k = 5 ∨ k = 6 ∨ k = 7 ∨ k = 8 ∨ k = 9) with rfl | rfl | rfl | rfl | rfl | rfl | rfl | rfl | rfl | rfl
      · refine ⟨.inl (nI (s (88 + i))), ?_, fun w2 h2 g2 => ⟨_, 0, ?_, rfl, rfl⟩⟩
        · unfold f_X12_matter
          rw [x_re3 hx, if_pos e, Option.bind_some, xk_l]
          try dsimp only
          rw [x1205 hx.1, Option.bind_some, hx.su, Option.bind_some, hx.mt, Option.bind_some]
          try dsimp only
          rw [ixa_n (by omega) (by omega), Option.bind_some, hx.pg, Option.bind_some]
          try dsimp only
          rw [ixa_n (by omega) (by omega), Option.bind_some]
          rw [if_neg (show ¬ (nI 0 < 0 ∨ 9 < nI 0) by decide), if_pos (show nI 0 = 0 from rfl)]
          rw [hx.me (by omega), Option.bind_some, hx.f0 hi]
        · unfold f_X13_matter
          rw [m_isCase h2, decide_eq_true e, Option.bind_some]
          try dsimp only
          rw [ib_t, isIn_n (n := 10) rfl, decide_eq_true e2, Option.bind_some]
          try dsimp only
          rw [ib_t, m_isT, Option.bind_some]
          try dsimp only
          rw [ib_t]
          rw [if_neg (show ¬ (nI 0 < 0 ∨ 8 < nI 0) by decide), if_pos (show nI 0 = 0 from rfl), x1301 h2.1.sI, Option.bind_some, show (88 : Int32) = nI 88 from rfl, nI_add]
          try dsimp only
          rw [ixa_n (by omega) (by omega), Option.bind_some, h2.tl.S (by omega)]
      · refine ⟨.inl (nI (s (100 + i))), ?_, fun w2 h2 g2 => ⟨_, 0, ?_, rfl, rfl⟩⟩
        · unfold f_X12_matter
          rw [x_re3 hx, if_pos e, Option.bind_some, xk_l]
          try dsimp only
          rw [x1205 hx.1, Option.bind_some, hx.su, Option.bind_some, hx.mt, Option.bind_some]
          try dsimp only
          rw [ixa_n (by omega) (by omega), Option.bind_some, hx.pg, Option.bind_some]
          try dsimp only
          rw [ixa_n (by omega) (by omega), Option.bind_some]
          rw [if_neg (show ¬ (nI 1 < 0 ∨ 9 < nI 1) by decide), if_neg (show ¬ nI 1 = 0 by decide), if_pos (show nI 1 = 1 from rfl)]
          rw [hx.me (by omega), Option.bind_some, hx.f1 hi]
        · unfold f_X13_matter
          rw [m_isCase h2, decide_eq_true e, Option.bind_some]
          try dsimp only
          rw [ib_t, isIn_n (n := 10) rfl, decide_eq_true e2, Option.bind_some]
          try dsimp only
          rw [ib_t, m_isT, Option.bind_some]
          try dsimp only
          rw [ib_t]
          rw [if_neg (show ¬ (nI 1 < 0 ∨ 8 < nI 1) by decide), if_neg (show ¬ nI 1 = 0 by decide), if_pos (show nI 1 = 1 from rfl), x1301 h2.1.sI, Option.bind_some, show (100 : Int32) = nI 100 from rfl, nI_add]
          try dsimp only
          rw [ixa_n (by omega) (by omega), Option.bind_some, h2.tl.S (by omega)]
      · refine ⟨.inl (nI (s (112 + i))), ?_, fun w2 h2 g2 => ⟨_, 0, ?_, rfl, rfl⟩⟩
        · unfold f_X12_matter
          rw [x_re3 hx, if_pos e, Option.bind_some, xk_l]
          try dsimp only
          rw [x1205 hx.1, Option.bind_some, hx.su, Option.bind_some, hx.mt, Option.bind_some]
          try dsimp only
          rw [ixa_n (by omega) (by omega), Option.bind_some, hx.pg, Option.bind_some]
          try dsimp only
          rw [ixa_n (by omega) (by omega), Option.bind_some]
          rw [if_neg (show ¬ (nI 2 < 0 ∨ 9 < nI 2) by decide), if_neg (show ¬ nI 2 = 0 by decide), if_neg (show ¬ nI 2 = 1 by decide), if_pos (show nI 2 = 2 from rfl)]
          rw [hx.me (by omega), Option.bind_some, hx.f2 hi]
        · unfold f_X13_matter
          rw [m_isCase h2, decide_eq_true e, Option.bind_some]
          try dsimp only
          rw [ib_t, isIn_n (n := 10) rfl, decide_eq_true e2, Option.bind_some]
          try dsimp only
          rw [ib_t, m_isT, Option.bind_some]
          try dsimp only
          rw [ib_t]
          rw [if_neg (show ¬ (nI 2 < 0 ∨ 8 < nI 2) by decide), if_neg (show ¬ nI 2 = 0 by decide), if_neg (show ¬ nI 2 = 1 by decide), if_pos (show nI 2 = 2 from rfl), x1301 h2.1.sI, Option.bind_some, show (112 : Int32) = nI 112 from rfl, nI_add]
          try dsimp only
          rw [ixa_n (by omega) (by omega), Option.bind_some, h2.tl.S (by omega)]
      · refine ⟨.inl (nI (cs t i 1)), ?_, fun w2 h2 g2 => ⟨_, 0, ?_, rfl, rfl⟩⟩
        · unfold f_X12_matter
          rw [x_re3 hx, if_pos e, Option.bind_some, xk_l]
          try dsimp only
          rw [x1205 hx.1, Option.bind_some, hx.su, Option.bind_some, hx.mt, Option.bind_some]
          try dsimp only
          rw [ixa_n (by omega) (by omega), Option.bind_some, hx.pg, Option.bind_some]
          try dsimp only
          rw [ixa_n (by omega) (by omega), Option.bind_some]
          rw [if_neg (show ¬ (nI 3 < 0 ∨ 9 < nI 3) by decide), if_neg (show ¬ nI 3 = 0 by decide), if_neg (show ¬ nI 3 = 1 by decide), if_neg (show ¬ nI 3 = 2 by decide), if_pos (show nI 3 = 3 from rfl)]
          rw [hx.pe (by omega), Option.bind_some, hx.p1 (by omega)]
        · unfold f_X13_matter
          rw [m_isCase h2, decide_eq_true e, Option.bind_some]
          try dsimp only
          rw [ib_t, isIn_n (n := 10) rfl, decide_eq_true e2, Option.bind_some]
          try dsimp only
          rw [ib_t, m_isT, Option.bind_some]
          try dsimp only
          rw [ib_t]
          rw [if_neg (show ¬ (nI 3 < 0 ∨ 8 < nI 3) by decide), if_neg (show ¬ nI 3 = 0 by decide), if_neg (show ¬ nI 3 = 1 by decide), if_neg (show ¬ nI 3 = 2 by decide), if_pos (show nI 3 = 3 from rfl), show (1 : Int32) = nI 1 from rfl, m_of h2.tl (by omega) (by omega), Option.bind_some]
      · refine ⟨.inl (nI (limD s t i)), ?_, fun w2 h2 g2 => ⟨_, 0, ?_, rfl, rfl⟩⟩
        · unfold f_X12_matter
          rw [x_re3 hx, if_pos e, Option.bind_some, xk_l]
          try dsimp only
          rw [x1205 hx.1, Option.bind_some, hx.su, Option.bind_some, hx.mt, Option.bind_some]
          try dsimp only
          rw [ixa_n (by omega) (by omega), Option.bind_some, hx.pg, Option.bind_some]
          try dsimp only
          rw [ixa_n (by omega) (by omega), Option.bind_some]
          rw [if_neg (show ¬ (nI 4 < 0 ∨ 9 < nI 4) by decide), if_neg (show ¬ nI 4 = 0 by decide), if_neg (show ¬ nI 4 = 1 by decide), if_neg (show ¬ nI 4 = 2 by decide), if_neg (show ¬ nI 4 = 3 by decide), if_pos (show nI 4 = 4 from rfl)]
          rw [x_limitDay hx hi, Option.bind_some]
        · unfold f_X13_matter
          rw [m_isCase h2, decide_eq_true e, Option.bind_some]
          try dsimp only
          rw [ib_t, isIn_n (n := 10) rfl, decide_eq_true e2, Option.bind_some]
          try dsimp only
          rw [ib_t, m_isT, Option.bind_some]
          try dsimp only
          rw [ib_t]
          rw [if_neg (show ¬ (nI 4 < 0 ∨ 8 < nI 4) by decide), if_neg (show ¬ nI 4 = 0 by decide), if_neg (show ¬ nI 4 = 1 by decide), if_neg (show ¬ nI 4 = 2 by decide), if_neg (show ¬ nI 4 = 3 by decide), if_pos (show nI 4 = 4 from rfl), m_limitDay h2.tl hi, Option.bind_some]
      · refine ⟨.inl (nI (cs t i 0)), ?_, fun w2 h2 g2 => ⟨_, 0, ?_, rfl, rfl⟩⟩
        · unfold f_X12_matter
          rw [x_re3 hx, if_pos e, Option.bind_some, xk_l]
          try dsimp only
          rw [x1205 hx.1, Option.bind_some, hx.su, Option.bind_some, hx.mt, Option.bind_some]
          try dsimp only
          rw [ixa_n (by omega) (by omega), Option.bind_some, hx.pg, Option.bind_some]
          try dsimp only
          rw [ixa_n (by omega) (by omega), Option.bind_some]
          rw [if_neg (show ¬ (nI 5 < 0 ∨ 9 < nI 5) by decide), if_neg (show ¬ nI 5 = 0 by decide), if_neg (show ¬ nI 5 = 1 by decide), if_neg (show ¬ nI 5 = 2 by decide), if_neg (show ¬ nI 5 = 3 by decide), if_neg (show ¬ nI 5 = 4 by decide), if_pos (show nI 5 = 5 from rfl)]
          rw [hx.pe (by omega), Option.bind_some, hx.p0 (by omega)]
        · unfold f_X13_matter
          rw [m_isCase h2, decide_eq_true e, Option.bind_some]
          try dsimp only
          rw [ib_t, isIn_n (n := 10) rfl, decide_eq_true e2, Option.bind_some]
          try dsimp only
          rw [ib_t, m_isT, Option.bind_some]
          try dsimp only
          rw [ib_t]
          rw [if_neg (show ¬ (nI 5 < 0 ∨ 8 < nI 5) by decide), if_neg (show ¬ nI 5 = 0 by decide), if_neg (show ¬ nI 5 = 1 by decide), if_neg (show ¬ nI 5 = 2 by decide), if_neg (show ¬ nI 5 = 3 by decide), if_neg (show ¬ nI 5 = 4 by decide), if_pos (show nI 5 = 5 from rfl), show (0 : Int32) = nI 0 from rfl, m_of h2.tl (by omega) (by omega), Option.bind_some]
      · refine ⟨.inl (nI (s (124 + i))), ?_, fun w2 h2 g2 => ⟨_, 0, ?_, rfl, rfl⟩⟩
        · unfold f_X12_matter
          rw [x_re3 hx, if_pos e, Option.bind_some, xk_l]
          try dsimp only
          rw [x1205 hx.1, Option.bind_some, hx.su, Option.bind_some, hx.mt, Option.bind_some]
          try dsimp only
          rw [ixa_n (by omega) (by omega), Option.bind_some, hx.pg, Option.bind_some]
          try dsimp only
          rw [ixa_n (by omega) (by omega), Option.bind_some]
          rw [if_neg (show ¬ (nI 6 < 0 ∨ 9 < nI 6) by decide), if_neg (show ¬ nI 6 = 0 by decide), if_neg (show ¬ nI 6 = 1 by decide), if_neg (show ¬ nI 6 = 2 by decide), if_neg (show ¬ nI 6 = 3 by decide), if_neg (show ¬ nI 6 = 4 by decide), if_neg (show ¬ nI 6 = 5 by decide), if_pos (show nI 6 = 6 from rfl)]
          rw [hx.me (by omega), Option.bind_some, hx.f3 hi]
          rcases (by omega : s (124 + i) = 0 ∨ s (124 + i) = 1) with q | q <;> rw [q] <;> rfl
        · unfold f_X13_matter
          rw [m_isCase h2, decide_eq_true e, Option.bind_some]
          try dsimp only
          rw [ib_t, isIn_n (n := 10) rfl, decide_eq_true e2, Option.bind_some]
          try dsimp only
          rw [ib_t, m_isT, Option.bind_some]
          try dsimp only
          rw [ib_t]
          rw [if_neg (show ¬ (nI 6 < 0 ∨ 8 < nI 6) by decide), if_neg (show ¬ nI 6 = 0 by decide), if_neg (show ¬ nI 6 = 1 by decide), if_neg (show ¬ nI 6 = 2 by decide), if_neg (show ¬ nI 6 = 3 by decide), if_neg (show ¬ nI 6 = 4 by decide), if_neg (show ¬ nI 6 = 5 by decide), if_pos (show nI 6 = 6 from rfl), x1301 h2.1.sI, Option.bind_some, show (124 : Int32) = nI 124 from rfl, nI_add]
          try dsimp only
          rw [ixa_n (by omega) (by omega), Option.bind_some, h2.tl.S (by omega)]
      · refine ⟨.inl (nI (cs t i 2)), ?_, fun w2 h2 g2 => ⟨_, 0, ?_, rfl, rfl⟩⟩
        · unfold f_X12_matter
          rw [x_re3 hx, if_pos e, Option.bind_some, xk_l]
          try dsimp only
          rw [x1205 hx.1, Option.bind_some, hx.su, Option.bind_some, hx.mt, Option.bind_some]
          try dsimp only
          rw [ixa_n (by omega) (by omega), Option.bind_some, hx.pg, Option.bind_some]
          try dsimp only
          rw [ixa_n (by omega) (by omega), Option.bind_some]
          rw [if_neg (show ¬ (nI 7 < 0 ∨ 9 < nI 7) by decide), if_neg (show ¬ nI 7 = 0 by decide), if_neg (show ¬ nI 7 = 1 by decide), if_neg (show ¬ nI 7 = 2 by decide), if_neg (show ¬ nI 7 = 3 by decide), if_neg (show ¬ nI 7 = 4 by decide), if_neg (show ¬ nI 7 = 5 by decide), if_neg (show ¬ nI 7 = 6 by decide), if_pos (show nI 7 = 7 from rfl)]
          rw [hx.pe (by omega), Option.bind_some, hx.p6 (by omega)]
        · unfold f_X13_matter
          rw [m_isCase h2, decide_eq_true e, Option.bind_some]
          try dsimp only
          rw [ib_t, isIn_n (n := 10) rfl, decide_eq_true e2, Option.bind_some]
          try dsimp only
          rw [ib_t, m_isT, Option.bind_some]
          try dsimp only
          rw [ib_t]
          rw [if_neg (show ¬ (nI 7 < 0 ∨ 8 < nI 7) by decide), if_neg (show ¬ nI 7 = 0 by decide), if_neg (show ¬ nI 7 = 1 by decide), if_neg (show ¬ nI 7 = 2 by decide), if_neg (show ¬ nI 7 = 3 by decide), if_neg (show ¬ nI 7 = 4 by decide), if_neg (show ¬ nI 7 = 5 by decide), if_neg (show ¬ nI 7 = 6 by decide), if_pos (show nI 7 = 7 from rfl), show (2 : Int32) = nI 2 from rfl, m_of h2.tl (by omega) (by omega), Option.bind_some]
      · refine ⟨.inl (nI (popN (s (136 + i)))), ?_, fun w2 h2 g2 => ⟨_, 0, ?_, rfl, rfl⟩⟩
        · unfold f_X12_matter
          rw [x_re3 hx, if_pos e, Option.bind_some, xk_l]
          try dsimp only
          rw [x1205 hx.1, Option.bind_some, hx.su, Option.bind_some, hx.mt, Option.bind_some]
          try dsimp only
          rw [ixa_n (by omega) (by omega), Option.bind_some, hx.pg, Option.bind_some]
          try dsimp only
          rw [ixa_n (by omega) (by omega), Option.bind_some]
          rw [if_neg (show ¬ (nI 8 < 0 ∨ 9 < nI 8) by decide), if_neg (show ¬ nI 8 = 0 by decide), if_neg (show ¬ nI 8 = 1 by decide), if_neg (show ¬ nI 8 = 2 by decide), if_neg (show ¬ nI 8 = 3 by decide), if_neg (show ¬ nI 8 = 4 by decide), if_neg (show ¬ nI 8 = 5 by decide), if_neg (show ¬ nI 8 = 6 by decide), if_neg (show ¬ nI 8 = 7 by decide), if_pos (show nI 8 = 8 from rfl)]
          rw [hx.me (by omega), Option.bind_some, hx.f4 hi, x_bitCount (by omega), Option.bind_some]
        · unfold f_X13_matter
          rw [m_isCase h2, decide_eq_true e, Option.bind_some]
          try dsimp only
          rw [ib_t, isIn_n (n := 10) rfl, decide_eq_true e2, Option.bind_some]
          try dsimp only
          rw [ib_t, m_isT, Option.bind_some]
          try dsimp only
          rw [ib_t]
          rw [if_neg (show ¬ (nI 8 < 0 ∨ 8 < nI 8) by decide), if_neg (show ¬ nI 8 = 0 by decide), if_neg (show ¬ nI 8 = 1 by decide), if_neg (show ¬ nI 8 = 2 by decide), if_neg (show ¬ nI 8 = 3 by decide), if_neg (show ¬ nI 8 = 4 by decide), if_neg (show ¬ nI 8 = 5 by decide), if_neg (show ¬ nI 8 = 6 by decide), if_neg (show ¬ nI 8 = 7 by decide), if_pos (show nI 8 = 8 from rfl), x1301 h2.1.sI, Option.bind_some, show (136 : Int32) = nI 136 from rfl, nI_add]
          try dsimp only
          rw [ixa_n (by omega) (by omega), Option.bind_some, h2.tl.S (by omega), m_bits (by omega), Option.bind_some]
      · refine ⟨.inl (nI (popN (s (148 + i)))), ?_, fun w2 h2 g2 => ⟨_, 0, ?_, rfl, rfl⟩⟩
        · unfold f_X12_matter
          rw [x_re3 hx, if_pos e, Option.bind_some, xk_l]
          try dsimp only
          rw [x1205 hx.1, Option.bind_some, hx.su, Option.bind_some, hx.mt, Option.bind_some]
          try dsimp only
          rw [ixa_n (by omega) (by omega), Option.bind_some, hx.pg, Option.bind_some]
          try dsimp only
          rw [ixa_n (by omega) (by omega), Option.bind_some]
          rw [if_neg (show ¬ (nI 9 < 0 ∨ 9 < nI 9) by decide), if_neg (show ¬ nI 9 = 0 by decide), if_neg (show ¬ nI 9 = 1 by decide), if_neg (show ¬ nI 9 = 2 by decide), if_neg (show ¬ nI 9 = 3 by decide), if_neg (show ¬ nI 9 = 4 by decide), if_neg (show ¬ nI 9 = 5 by decide), if_neg (show ¬ nI 9 = 6 by decide), if_neg (show ¬ nI 9 = 7 by decide), if_neg (show ¬ nI 9 = 8 by decide), if_pos (show nI 9 = 9 from rfl)]
          rw [hx.me (by omega), Option.bind_some, hx.f5 hi, x_bitCount (by omega), Option.bind_some]
        · unfold f_X13_matter
          rw [m_isCase h2, decide_eq_true e, Option.bind_some]
          try dsimp only
          rw [ib_t, isIn_n (n := 10) rfl, decide_eq_true e2, Option.bind_some]
          try dsimp only
          rw [ib_t, m_isT, Option.bind_some]
          try dsimp only
          rw [ib_t]
          rw [if_pos (show (nI 9 < 0 ∨ 8 < nI 9) by decide), x1301 h2.1.sI, Option.bind_some, show (148 : Int32) = nI 148 from rfl, nI_add]
          try dsimp only
          rw [ixa_n (by omega) (by omega), Option.bind_some, h2.tl.S (by omega), m_bits (by omega), Option.bind_some]
    · refine ⟨.inr 1, ?_, fun w2 h2 g2 => ⟨0, 1, ?_, rfl, rfl⟩⟩
      · obtain ⟨i, hi, rfl⟩ := inR_nI e
        unfold f_X12_matter
        rw [x_re3 hx, if_pos e, Option.bind_some, xk_l]
        try dsimp only
        rw [x1205 hx.1, Option.bind_some, hx.su, Option.bind_some, hx.mt, Option.bind_some]
        try dsimp only
        rw [ixa_n (by omega) (by omega), Option.bind_some, hx.pg, Option.bind_some]
        try dsimp only
        rw [ixa_n (by omega) (by omega), Option.bind_some]
        rw [if_pos (show y < 0 ∨ 9 < y from nR_or (n := 9) (by omega) e2)]
      · unfold f_X13_matter
        rw [m_isCase h2, decide_eq_true e, Option.bind_some]
        try dsimp only
        rw [ib_t, isIn_n (n := 10) rfl, decide_eq_false e2, Option.bind_some]
        try dsimp only
        rw [ib_f, m_isF, Option.bind_some, ib_f]
  · refine ⟨.inr 1, ?_, fun w2 h2 g2 => ⟨0, 1, ?_, rfl, rfl⟩⟩
    · unfold f_X12_matter
      rw [x_re3 hx, if_neg e, Option.bind_some, xk_r]
    · unfold f_X13_matter
      rw [m_isCase h2, decide_eq_false e, Option.bind_some]
      try dsimp only
      rw [ib_f, m_isF, Option.bind_some, ib_f])
theorem b_hearing {w : Wd} (h : Inv w) (x y : Int32) : Both (f_X12_hearing Kc 0 x y) (f_X13_hearing Kc 415 x y) E11 w := Both.r h (fun b s t hx hm hg => by
  have hs := hx.gs.1
  by_cases e : inR x (s 3)
  · by_cases e2 : inR y 4
    · obtain ⟨i, hi, rfl⟩ := inR_nI e
      obtain ⟨k, hk, rfl⟩ := inR_nI e2
      rcases (by omega : k = 0 ∨ k = 1 ∨ k = 2 ∨ k = 3) with rfl | rfl | rfl | rfl
      · refine ⟨.inl (if hrg t i = true then nI (cs t i 3) else -nI 1), ?_, fun w2 h2 g2 => ⟨_, 0, ?_, rfl, rfl⟩⟩
        · unfold f_X12_hearing
          rw [x_re3 hx, if_pos e, Option.bind_some, xk_l]
          try dsimp only
          rw [x1205 hx.1, Option.bind_some, hx.pg, Option.bind_some]
          try dsimp only
          rw [ixa_n (by omega) (by omega), Option.bind_some]
          rw [if_neg (show ¬ (nI 0 < 0 ∨ 3 < nI 0) by decide), if_pos (show nI 0 = 0 from rfl)]
          rw [hx.pe (by omega), Option.bind_some]
          cases q : hrg t i
          · rw [hx.n2 (by omega) q]; rfl
          · rw [hx.p2 (by omega) q]; rfl
        · unfold f_X13_hearing
          rw [m_isCase h2, decide_eq_true e, Option.bind_some]
          try dsimp only
          rw [ib_t, isIn_n (n := 4) rfl, decide_eq_true e2, Option.bind_some]
          try dsimp only
          rw [ib_t, m_isT, Option.bind_some]
          try dsimp only
          rw [ib_t]
          rw [m_hasHearing h2.tl (by omega), Option.bind_some]
          try dsimp only
          cases q : hrg t i
          · rfl
          · rw [ib_t, show (3 : Int32) = nI 3 from rfl, nI_add, m_of h2.tl (by omega) (by omega), Option.bind_some, if_pos rfl]
      · refine ⟨.inl (if hrg t i = true then nI (cs t i 4) else -nI 1), ?_, fun w2 h2 g2 => ⟨_, 0, ?_, rfl, rfl⟩⟩
        · unfold f_X12_hearing
          rw [x_re3 hx, if_pos e, Option.bind_some, xk_l]
          try dsimp only
          rw [x1205 hx.1, Option.bind_some, hx.pg, Option.bind_some]
          try dsimp only
          rw [ixa_n (by omega) (by omega), Option.bind_some]
          rw [if_neg (show ¬ (nI 1 < 0 ∨ 3 < nI 1) by decide), if_neg (show ¬ nI 1 = 0 by decide), if_pos (show nI 1 = 1 from rfl)]
          rw [hx.pe (by omega), Option.bind_some]
          cases q : hrg t i
          · rw [hx.n3 (by omega) q]; rfl
          · rw [hx.p3 (by omega) q]; rfl
        · unfold f_X13_hearing
          rw [m_isCase h2, decide_eq_true e, Option.bind_some]
          try dsimp only
          rw [ib_t, isIn_n (n := 4) rfl, decide_eq_true e2, Option.bind_some]
          try dsimp only
          rw [ib_t, m_isT, Option.bind_some]
          try dsimp only
          rw [ib_t]
          rw [m_hasHearing h2.tl (by omega), Option.bind_some]
          try dsimp only
          cases q : hrg t i
          · rfl
          · rw [ib_t, show (3 : Int32) = nI 3 from rfl, nI_add, m_of h2.tl (by omega) (by omega), Option.bind_some, if_pos rfl]
      · refine ⟨.inl (if hrg t i = true then nI (cs t i 5) else -nI 1), ?_, fun w2 h2 g2 => ⟨_, 0, ?_, rfl, rfl⟩⟩
        · unfold f_X12_hearing
          rw [x_re3 hx, if_pos e, Option.bind_some, xk_l]
          try dsimp only
          rw [x1205 hx.1, Option.bind_some, hx.pg, Option.bind_some]
          try dsimp only
          rw [ixa_n (by omega) (by omega), Option.bind_some]
          rw [if_neg (show ¬ (nI 2 < 0 ∨ 3 < nI 2) by decide), if_neg (show ¬ nI 2 = 0 by decide), if_neg (show ¬ nI 2 = 1 by decide), if_pos (show nI 2 = 2 from rfl)]
          rw [hx.pe (by omega), Option.bind_some]
          cases q : hrg t i
          · rw [hx.n4 (by omega) q]; rfl
          · rw [hx.p4 (by omega) q]; rfl
        · unfold f_X13_hearing
          rw [m_isCase h2, decide_eq_true e, Option.bind_some]
          try dsimp only
          rw [ib_t, isIn_n (n := 4) rfl, decide_eq_true e2, Option.bind_some]
          try dsimp only
          rw [ib_t, m_isT, Option.bind_some]
          try dsimp only
          rw [ib_t]
          rw [m_hasHearing h2.tl (by omega), Option.bind_some]
          try dsimp only
          cases q : hrg t i
          · rfl
          · rw [ib_t, show (3 : Int32) = nI 3 from rfl, nI_add, m_of h2.tl (by omega) (by omega), Option.bind_some, if_pos rfl]
      · refine ⟨.inl (if hrg t i = true then nI (cs t i 6) else -nI 1), ?_, fun w2 h2 g2 => ⟨_, 0, ?_, rfl, rfl⟩⟩
        · unfold f_X12_hearing
          rw [x_re3 hx, if_pos e, Option.bind_some, xk_l]
          try dsimp only
          rw [x1205 hx.1, Option.bind_some, hx.pg, Option.bind_some]
          try dsimp only
          rw [ixa_n (by omega) (by omega), Option.bind_some]
          rw [if_neg (show ¬ (nI 3 < 0 ∨ 3 < nI 3) by decide), if_neg (show ¬ nI 3 = 0 by decide), if_neg (show ¬ nI 3 = 1 by decide), if_neg (show ¬ nI 3 = 2 by decide), if_pos (show nI 3 = 3 from rfl)]
          rw [hx.pe (by omega), Option.bind_some]
          cases q : hrg t i
          · rw [hx.n5 (by omega) q]; rfl
          · rw [hx.p5 (by omega) q]; rfl
        · unfold f_X13_hearing
          rw [m_isCase h2, decide_eq_true e, Option.bind_some]
          try dsimp only
          rw [ib_t, isIn_n (n := 4) rfl, decide_eq_true e2, Option.bind_some]
          try dsimp only
          rw [ib_t, m_isT, Option.bind_some]
          try dsimp only
          rw [ib_t]
          rw [m_hasHearing h2.tl (by omega), Option.bind_some]
          try dsimp only
          cases q : hrg t i
          · rfl
          · rw [ib_t, show (3 : Int32) = nI 3 from rfl, nI_add, m_of h2.tl (by omega) (by omega), Option.bind_some, if_pos rfl]
    · refine ⟨.inr 1, ?_, fun w2 h2 g2 => ⟨0, 1, ?_, rfl, rfl⟩⟩
      · obtain ⟨i, hi, rfl⟩ := inR_nI e
        unfold f_X12_hearing
        rw [x_re3 hx, if_pos e, Option.bind_some, xk_l]
        try dsimp only
        rw [x1205 hx.1, Option.bind_some, hx.pg, Option.bind_some]
        try dsimp only
        rw [ixa_n (by omega) (by omega), Option.bind_some]
        rw [if_pos (show y < 0 ∨ 3 < y from nR_or (n := 3) (by omega) e2)]
      · unfold f_X13_hearing
        rw [m_isCase h2, decide_eq_true e, Option.bind_some]
        try dsimp only
        rw [ib_t, isIn_n (n := 4) rfl, decide_eq_false e2, Option.bind_some]
        try dsimp only
        rw [ib_f, m_isF, Option.bind_some, ib_f]
  · refine ⟨.inr 1, ?_, fun w2 h2 g2 => ⟨0, 1, ?_, rfl, rfl⟩⟩
    · unfold f_X12_hearing
      rw [x_re3 hx, if_neg e, Option.bind_some, xk_r]
    · unfold f_X13_hearing
      rw [m_isCase h2, decide_eq_false e, Option.bind_some]
      try dsimp only
      rw [ib_f, m_isF, Option.bind_some, ib_f])
