variable {X : Kd}
def PL (x : Nat) : Prop := 404 ≤ x ∧ x ≤ 407
theorem PL_ge (x : Nat) (h : PL x) : 404 ≤ x := h.1
theorem HX.ca {w : Wd} {a b : Nat} {s t : Nat → Nat} (h : HX w a b s t) : chk (Kx X) 9 (some a) = some a := ck rfl (kSA h.2.1.1)
def onG (s t : Nat → Nat) (i d c : Nat) : Nat := if (!(c == i) && (hrg t c && (cs t c 3 == d))) = true then sset (cs t c 4) (s (100 + c)) else 0
def tkG (s t : Nat → Nat) (i d : Nat) (P : Nat → Bool) : Nat → Nat := orS (fun c => if P c = true then onG s t i d c else 0)
theorem tkG_succ {s t : Nat → Nat} {i d n : Nat} {P : Nat → Bool} : tkG s t i d P (n + 1) = tkG s t i d P n ||| if P n = true then onG s t i d n else 0 := rfl
theorem onG_lt {s t : Nat → Nat} (hS : GoodS s) (hT : GoodT s t) {i d c : Nat} (hc : c < s 3) : onG s t i d c < 2 ^ 12 := by
  unfold onG
  split
  · rename_i h
    simp only [Bool.and_eq_true] at h
    have := hS.1.2.2.2
    have := hT.hr (i := c) (by omega) h.2.1
    exact sset_lt (by omega)
  · exact Nat.two_pow_pos 12
theorem tkG_lt {s t : Nat → Nat} (hS : GoodS s) (hT : GoodT s t) {i d : Nat} {P : Nat → Bool} {n : Nat} (hn : n ≤ s 3) : tkG s t i d P n < 2 ^ 12 := orS_lt n (fun c hc => by
  try dsimp only
  split
  · exact onG_lt hS hT (by omega)
  · exact Nat.two_pow_pos 12)
theorem tkG_z {s t : Nat → Nat} (hS : GoodS s) {i d q : Nat} {P : Nat → Bool} (hi : i < s 3) : sset q (s (100 + i)) &&& tkG s t i d P (s 3) = 0 ↔ anyF (fun c => mts s t i d q c && P c) 0 (s 3) = false := by
  have l1 := hS.ln hi
  rw [sset_and]
  constructor
  · intro H
    cases e : anyF (fun c => mts s t i d q c && P c) 0 (s 3) with
    | false => rfl
    | true =>
      obtain ⟨c, h1, h2, h3⟩ := (anyF_iff _ _).mp e
      simp only [mts, Bool.and_eq_true, decide_eq_true_eq] at h3
      obtain ⟨⟨h4, h5, h6, h7⟩, h8⟩ := h3
      have l2 := hS.ln (i := c) (by omega)
      have h9 : ∃ k, q ≤ k ∧ k < q + s (100 + i) ∧ cs t c 4 ≤ k ∧ k < cs t c 4 + s (100 + c) := by
        by_cases e2 : q ≤ cs t c 4
        · exact ⟨cs t c 4, by omega, by omega, by omega, by omega⟩
        · exact ⟨q, by omega, by omega, by omega, by omega⟩
      obtain ⟨k, k1, k2, k3, k4⟩ := h9
      have h10 := H k k1 k2
      unfold tkG at h10
      rw [orS_bit] at h10
      have h11 : anyF (fun c => (if P c = true then onG s t i d c else 0).testBit k) 0 (s 3) = true := (anyF_iff _ _).mpr ⟨c, h1, h2, by
        rw [if_pos h8]
        unfold onG
        rw [if_pos (by rw [h4, h5, h6]; rfl), sset_bit]
        exact decide_eq_true ⟨k3, k4⟩⟩
      rw [h11] at h10
      cases h10
  · intro H k k1 k2
    cases e : (tkG s t i d P (s 3)).testBit k with
    | false => rfl
    | true =>
      unfold tkG at e
      rw [orS_bit] at e
      obtain ⟨c, h1, h2, h3⟩ := (anyF_iff _ _).mp e
      try dsimp only at h3
      have h8 : P c = true := by
        cases e2 : P c with
        | true => rfl
        | false => rw [e2] at h3; simp at h3
      rw [if_pos h8] at h3
      unfold onG at h3
      by_cases e2 : (!(c == i) && (hrg t c && (cs t c 3 == d))) = true
      · rw [if_pos e2, sset_bit] at h3
        have h4 := of_decide_eq_true h3
        simp only [Bool.and_eq_true] at e2
        have h11 : anyF (fun c => mts s t i d q c && P c) 0 (s 3) = true := (anyF_iff _ _).mpr ⟨c, h1, h2, by
          simp only [mts, Bool.and_eq_true, decide_eq_true_eq]
          exact ⟨⟨e2.1, e2.2.1, e2.2.2, by omega⟩, h8⟩⟩
        rw [h11] at H
        cases H
      · rw [if_neg e2] at h3
        simp at h3
def rmN (s t : Nat → Nat) (i d r : Nat) : Nat → Nat := tkG s t i d (fun c => cs t c 5 == r)
def ofN (s t : Nat → Nat) (i d o : Nat) : Nat → Nat := tkG s t i d (fun c => cs t c 6 == o)
def wiN (s t : Nat → Nat) (i d : Nat) : Nat → Nat := tkG s t i d (fun c => !(s (136 + c) &&& s (136 + i) == 0))
def ouG (s t : Nat → Nat) (d v : Nat) : Nat := 4294967295 ^^^ (if s (52 + v) ≤ d ∧ d < t (22 + v) then sset (s (64 + v)) (s (76 + v) - s (64 + v) + 1) else 0)
def ouN (s t : Nat → Nat) (u d : Nat) : Nat → Nat := orS (fun v => if u.testBit v = true then ouG s t d v else 0)
theorem ouN_succ {s t : Nat → Nat} {u d n : Nat} : ouN s t u d (n + 1) = ouN s t u d n ||| if u.testBit n = true then ouG s t d n else 0 := rfl
theorem bit32 {k : Nat} (hk : k < 32) : Nat.testBit 4294967295 k = true := (by decide +kernel : ∀ k, k < 32 → Nat.testBit 4294967295 k = true) k hk
theorem ouG_lt {s t : Nat → Nat} (hS : GoodS s) {d v : Nat} (hv : v < s 2) : ouG s t d v < 2 ^ 32 := by
  have g1 := hS.2.2.2.1 v hv
  refine Nat.xor_lt_two_pow (by decide) ?_
  split
  · exact Nat.lt_trans (sset_lt (by omega)) (by decide)
  · decide
theorem ouN_lt {s t : Nat → Nat} (hS : GoodS s) {u d n : Nat} (hn : n ≤ s 2) : ouN s t u d n < 2 ^ 32 := orS_lt n (fun c hc => by
  try dsimp only
  split
  · exact ouG_lt hS (by omega)
  · decide)
theorem ouG_bit {s t : Nat → Nat} (hS : GoodS s) {d v k : Nat} (hv : v < s 2) (hk : k < 32) : (ouG s t d v).testBit k = !(decide (s (52 + v) ≤ d ∧ d < t (22 + v)) && decide (s (64 + v) ≤ k ∧ k ≤ s (76 + v))) := by
  have g1 := hS.2.2.2.1 v hv
  unfold ouG
  rw [Nat.testBit_xor, bit32 hk, Bool.true_xor]
  by_cases e : s (52 + v) ≤ d ∧ d < t (22 + v)
  · rw [if_pos e, decide_eq_true e, Bool.true_and, sset_bit]
    congr 2
    apply propext
    omega
  · rw [if_neg e, decide_eq_false e, Nat.zero_testBit]
    rfl
theorem ouN_z {s t : Nat → Nat} (hS : GoodS s) {i d q : Nat} (hi : i < s 3) (hq : q < 20) : sset q (s (100 + i)) &&& ouN s t (s (136 + i)) d (s 2) = 0 ↔ ouT s t i d q = false := by
  have l1 := hS.ln hi
  rw [sset_and]
  unfold ouT
  constructor
  · intro H
    cases e : anyF (fun v => (s (136 + i)).testBit v && !inW s t i d q v) 0 (s 2) with
    | false => rfl
    | true =>
      obtain ⟨v, h1, h2, h3⟩ := (anyF_iff _ _).mp e
      simp only [Bool.and_eq_true, Bool.not_eq_true'] at h3
      have g1 := hS.2.2.2.1 v (by omega)
      have h9 : ∃ k, q ≤ k ∧ k < q + s (100 + i) ∧ (ouG s t d v).testBit k = true := by
        by_cases e1 : s (52 + v) ≤ d ∧ d < t (22 + v)
        · by_cases e2 : s (64 + v) ≤ q
          · refine ⟨q + s (100 + i) - 1, by omega, by omega, ?_⟩
            rw [ouG_bit hS (by omega) (by omega), decide_eq_true e1]
            have h4 := h3.2
            simp only [inW, decide_eq_true e1, Bool.true_and, decide_eq_false_iff_not] at h4
            rw [decide_eq_false (by omega)]
            rfl
          · refine ⟨q, by omega, by omega, ?_⟩
            rw [ouG_bit hS (by omega) (by omega), decide_eq_false (p := s (64 + v) ≤ q ∧ q ≤ s (76 + v)) (by omega), Bool.and_false]
            rfl
        · refine ⟨q, by omega, by omega, ?_⟩
          rw [ouG_bit hS (by omega) (by omega), decide_eq_false e1]
          rfl
      obtain ⟨k, k1, k2, k3⟩ := h9
      have h10 := H k k1 k2
      unfold ouN at h10
      rw [orS_bit] at h10
      have h11 : anyF (fun v => (if (s (136 + i)).testBit v = true then ouG s t d v else 0).testBit k) 0 (s 2) = true := (anyF_iff _ _).mpr ⟨v, h1, h2, by
        rw [if_pos h3.1]
        exact k3⟩
      rw [h11] at h10
      cases h10
  · intro H k k1 k2
    cases e : (ouN s t (s (136 + i)) d (s 2)).testBit k with
    | false => rfl
    | true =>
      unfold ouN at e
      rw [orS_bit] at e
      obtain ⟨v, h1, h2, h3⟩ := (anyF_iff _ _).mp e
      try dsimp only at h3
      have h8 : (s (136 + i)).testBit v = true := by
        cases e2 : (s (136 + i)).testBit v with
        | true => rfl
        | false => rw [e2] at h3; simp at h3
      rw [if_pos h8, ouG_bit hS (by omega) (by omega)] at h3
      have h11 : anyF (fun v => (s (136 + i)).testBit v && !inW s t i d q v) 0 (s 2) = true := (anyF_iff _ _).mpr ⟨v, h1, h2, by
        cases e3 : inW s t i d q v with
        | false => simp [h8]
        | true =>
          simp only [inW, Bool.and_eq_true, decide_eq_true_eq] at e3
          rw [decide_eq_true e3.1, decide_eq_true (by omega)] at h3
          cases h3⟩
      rw [h11] at H
      cases H
def awN (s : Nat → Nat) (d : Nat) : Nat → Nat := orS (fun o => if awayS s o d = true then 2 ^ o else 0)
theorem awN_succ {s : Nat → Nat} {d n : Nat} : awN s d (n + 1) = awN s d n ||| if awayS s n d = true then 2 ^ n else 0 := rfl
theorem awN_lt {s : Nat → Nat} {d n : Nat} (h : n ≤ 6) : awN s d n < 2 ^ 6 := orS_lt n (fun c hc => by
  try dsimp only
  split
  · exact Nat.pow_lt_pow_right (by omega) (by omega)
  · decide)
theorem awN_bit {s : Nat → Nat} {d n o : Nat} (ho : o < n) : (awN s d n).testBit o = awayS s o d := by
  unfold awN
  rw [orS_bit]
  cases e : awayS s o d with
  | true =>
    refine (anyF_iff _ _).mpr ⟨o, by omega, by omega, ?_⟩
    rw [if_pos e, Nat.testBit_two_pow_self]
  | false =>
    cases e2 : anyF (fun c => (if awayS s c d = true then 2 ^ c else 0).testBit o) 0 n with
    | false => rfl
    | true =>
      obtain ⟨c, h1, h2, h3⟩ := (anyF_iff _ _).mp e2
      try dsimp only at h3
      by_cases e3 : awayS s c d = true
      · rw [if_pos e3, Nat.testBit_two_pow] at h3
        have := of_decide_eq_true h3
        subst this
        rw [e] at e3
        cases e3
      · rw [if_neg e3, Nat.zero_testBit] at h3
        cases h3
theorem x_awayOfficers {w : Wd} {a b : Nat} {s t : Nat → Nat} (h : HX w a b s t) {d : Nat} (hd : d < 2 ^ 31) : f_X9_awayOfficers (Kx X) b (nI d) w = some (nI (awN s d (s 1)), w) := by
  have h6 := h.gs.1.2.1
  unfold f_X9_awayOfficers
  refine loop_g (fun f c => f_X9_awayOfficers_L4 (Kx X) b (fun v1_4 v2_4 v3_4 w1 => some (v2_4, w1)) f (nI d) (nI (awN s d c)) (nI c) w) (fun _ => some (nI (awN s d (s 1)), w)) (s 1) (fun f => ?_) (fun f c hc ih => ?_) fu 0 (by omega) (fu_lt (by omega))
  · try dsimp only
    rw [f_X9_awayOfficers_L4]
    simp (disch := first | omega | assumption) only [il, Option.bind_some, ixa_n, nI_add, pk_mul, if_le_t, if_le_f, if_lt_t, if_lt_f, if_eq_t, if_eq_f, ↓ifb', h.su, x_size h, h.pg, h.pe, h.mt, h.me, h.p0, h.p1, h.p6, h.p2, h.p3, h.p4, h.p5, h.n2, h.n3, h.n4, h.n5, h.f0, h.f1, h.f2, h.f4, h.f5, h.dy]
  · try dsimp only at ih ⊢
    rw [f_X9_awayOfficers_L4]
    rw [awN_succ] at ih
    have hb := awN_lt (s := s) (d := d) (n := c) (by omega)
    have hp : 2 ^ c < 2 ^ 6 := Nat.pow_lt_pow_right (by omega) (by omega)
    cases e : awayS s c d
    · simp (disch := first | omega | assumption) only [il, Option.bind_some, ixa_n, nI_add, pk_mul, if_le_t, if_le_f, if_lt_t, if_lt_f, if_eq_t, if_eq_f, ↓ifb', h.su, x_size h, h.pg, h.pe, h.mt, h.me, h.p0, h.p1, h.p6, h.p2, h.p3, h.p4, h.p5, h.n2, h.n3, h.n4, h.n5, h.f0, h.f1, h.f2, h.f4, h.f5, h.dy, x_isAway h, e, Bool.false_eq_true, if_false]
      simpa [e] using ih
    · simp (disch := first | omega | assumption) only [il, Option.bind_some, ixa_n, nI_add, pk_mul, if_le_t, if_le_f, if_lt_t, if_lt_f, if_eq_t, if_eq_f, ↓ifb', h.su, x_size h, h.pg, h.pe, h.mt, h.me, h.p0, h.p1, h.p6, h.p2, h.p3, h.p4, h.p5, h.n2, h.n3, h.n4, h.n5, h.f0, h.f1, h.f2, h.f4, h.f5, h.dy, x_isAway h, e, if_true]
      rw [shl_nI (by omega) (by omega), Nat.one_mul, or_nI (by omega) (by omega)]
      simpa [e] using ih
theorem m1_lt {x d : Nat} (hx : x < 2 ^ 31) (hd : d < 2 ^ 31) : nI x - nI 1 < nI d ↔ x ≤ d := by
  by_cases e : x = 0
  · subst e
    have h1 : nI 0 - nI 1 = -nI 1 := by decide
    rw [h1]
    exact ⟨fun _ => by omega, fun _ => neg1_lt hd⟩
  · rw [sub_nI (by omega), nI_ltI (by omega) hd]
    omega
theorem not_nI {b : Nat} (hb : b < 2 ^ 32) : nI b ^^^ -nI 1 = nI (4294967295 ^^^ b) := by
  rw [m1_nI, xor_nI hb (by decide), Nat.xor_comm]
theorem x_slotsOutside {w : Wd} {a b : Nat} {s t : Nat → Nat} (h : HX w a b s t) {u d : Nat} (hu : u < 2 ^ 31) (hd : d < 2 ^ 31) : f_X10_slotsOutside (Kx X) a (nI u) (nI d) w = some (nI (ouN s t u d (s 2)), w) := by
  have h12 := h.gs.1.2.2.1
  unfold f_X10_slotsOutside
  refine loop_g (fun f c => f_X10_slotsOutside_L5 (Kx X) a (fun v1_5 v2_5 v3_5 v4_5 w1 => some (v3_5, w1)) f (nI u) (nI d) (nI (ouN s t u d c)) (nI c) w) (fun _ => some (nI (ouN s t u d (s 2)), w)) (s 2) (fun f => ?_) (fun f c hc ih => ?_) fu 0 (by omega) (fu_lt (by omega))
  · try dsimp only
    rw [f_X10_slotsOutside_L5]
    simp (disch := first | omega | assumption) only [il, Option.bind_some, ixa_n, nI_add, pk_mul, if_le_t, if_le_f, if_lt_t, if_lt_f, if_eq_t, if_eq_f, ↓ifb', h.su, x_size h, h.pg, h.pe, h.mt, h.me, h.p0, h.p1, h.p6, h.p2, h.p3, h.p4, h.p5, h.n2, h.n3, h.n4, h.n5, h.f0, h.f1, h.f2, h.f4, h.f5, h.dy]
  · try dsimp only at ih ⊢
    have g1 := h.gs.2.2.2.1 c hc
    have g2 := h.gt.2.2.2.2.1 c (by omega)
    have b1 := ouN_lt (t := t) h.gs (u := u) (d := d) (n := c) (by omega)
    have b2 := ouG_lt (t := t) h.gs (d := d) hc
    have c1 : aI w (b + 6) c = nI (s (52 + c)) := (h.2.2.1.2.2.2.2.1 c hc).1
    have c2 : aI w (b + 8) c = nI (s (64 + c)) := (h.2.2.1.2.2.2.2.1 c hc).2.1
    have c3 : aI w (b + 9) c = nI (s (76 + c)) := (h.2.2.1.2.2.2.2.1 c hc).2.2
    have c4 : aI w (a + 3) c = nI (t (22 + c)) - nI 1 := h.2.2.2.1.2.2.1 c hc
    have c5 : nI 0 ^^^ -nI 1 = nI (4294967295 ^^^ 0) := not_nI (by omega)
    have c6 : sset (s (64 + c)) (s (76 + c) - s (64 + c) + 1) < 4096 := sset_lt (by omega)
    rw [f_X10_slotsOutside_L5]
    rw [ouN_succ] at ih
    cases e : u.testBit c
    · simp (disch := first | omega | assumption) only [il, Option.bind_some, ixa_n, nI_add, pk_mul, if_le_t, if_le_f, if_lt_t, if_lt_f, if_eq_t, if_eq_f, ↓ifb', h.su, x_size h, h.pg, h.pe, h.mt, h.me, h.p0, h.p1, h.p6, h.p2, h.p3, h.p4, h.p5, h.n2, h.n3, h.n4, h.n5, h.f0, h.f1, h.f2, h.f4, h.f5, h.dy, x_has, e, Bool.false_eq_true, if_false]
      simpa [e] using ih
    · by_cases e1 : s (52 + c) ≤ d
      · by_cases e2 : d < t (22 + c)
        · have e3 : ¬ (nI (t (22 + c)) - nI 1 < nI d) := fun q => by have := (m1_lt (by omega) hd).mp q; omega
          have e4 : ouG s t d c = 4294967295 ^^^ sset (s (64 + c)) (s (76 + c) - s (64 + c) + 1) := by unfold ouG; rw [if_pos ⟨e1, e2⟩]
          simp (disch := first | omega | assumption) only [il, Option.bind_some, ixa_n, nI_add, pk_mul, if_le_t, if_le_f, if_lt_t, if_lt_f, if_eq_t, if_eq_f, ↓ifb', h.su, x_size h, h.pg, h.pe, h.mt, h.me, h.p0, h.p1, h.p6, h.p2, h.p3, h.p4, h.p5, h.n2, h.n3, h.n4, h.n5, h.f0, h.f1, h.f2, h.f4, h.f5, h.dy, x_has, e, if_true, u905 h.1 h.2.1.2.1, u907 h.1 h.2.1.2.1, u908 h.1 h.2.1.2.1, t1003 h.1 h.2.1.1, c1, c2, c3, c4, if_neg e3, sub_nI, x_slotSet, not_nI]
          rw [← e4, or_nI b1 b2]
          simpa [e] using ih
        · have e3 : nI (t (22 + c)) - nI 1 < nI d := (m1_lt (by omega) hd).mpr (by omega)
          have e4 : ouG s t d c = 4294967295 ^^^ 0 := by unfold ouG; rw [if_neg (by omega)]
          simp (disch := first | omega | assumption) only [il, Option.bind_some, ixa_n, nI_add, pk_mul, if_le_t, if_le_f, if_lt_t, if_lt_f, if_eq_t, if_eq_f, ↓ifb', h.su, x_size h, h.pg, h.pe, h.mt, h.me, h.p0, h.p1, h.p6, h.p2, h.p3, h.p4, h.p5, h.n2, h.n3, h.n4, h.n5, h.f0, h.f1, h.f2, h.f4, h.f5, h.dy, x_has, e, if_true, u905 h.1 h.2.1.2.1, u907 h.1 h.2.1.2.1, u908 h.1 h.2.1.2.1, t1003 h.1 h.2.1.1, c1, c2, c3, c4, if_pos e3, c5]
          rw [← e4, or_nI b1 b2]
          simpa [e] using ih
      · have e4 : ouG s t d c = 4294967295 ^^^ 0 := by unfold ouG; rw [if_neg (by omega)]
        simp (disch := first | omega | assumption) only [il, Option.bind_some, ixa_n, nI_add, pk_mul, if_le_t, if_le_f, if_lt_t, if_lt_f, if_eq_t, if_eq_f, ↓ifb', h.su, x_size h, h.pg, h.pe, h.mt, h.me, h.p0, h.p1, h.p6, h.p2, h.p3, h.p4, h.p5, h.n2, h.n3, h.n4, h.n5, h.f0, h.f1, h.f2, h.f4, h.f5, h.dy, x_has, e, if_true, u905 h.1 h.2.1.2.1, u907 h.1 h.2.1.2.1, c1, c5]
        rw [← e4, or_nI b1 b2]
        simpa [e] using ih

