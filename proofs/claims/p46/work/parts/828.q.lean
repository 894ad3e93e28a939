variable {X : Kd}
def sset (q n : Nat) : Nat := (2 ^ n - 1) * 2 ^ q
theorem sset_bit {q n k : Nat} : (sset q n).testBit k = decide (q ≤ k ∧ k < q + n) := by
  unfold sset
  rw [Nat.mul_comm, Nat.testBit_two_pow_mul, Nat.testBit_two_pow_sub_one]
  by_cases h1 : q ≤ k
  · by_cases h2 : k < q + n
    · simp [h1, h2]; omega
    · simp [h1, h2]; omega
  · simp [h1]
theorem sset_lt {q n : Nat} (h : q + n ≤ 12) : sset q n < 4096 := by
  have h1 : 0 < 2 ^ n := Nat.two_pow_pos n
  have h2 : 0 < 2 ^ q := Nat.two_pow_pos q
  have h3 : 2 ^ n * 2 ^ q ≤ 2 ^ 12 := by rw [← Nat.pow_add]; exact Nat.pow_le_pow_right (by omega) (by omega)
  have h4 : (2 ^ n - 1) * 2 ^ q + 1 * 2 ^ q = 2 ^ n * 2 ^ q := by rw [← Nat.add_mul]; congr 1; omega
  unfold sset
  omega
theorem x_slotSet {K : Kd} {w : Wd} {q n : Nat} (h : q + n ≤ 12) : f_X12_slotSet K (nI q) (nI n) w = some (nI (sset q n), w) := by
  have h1 : 0 < 2 ^ n := Nat.two_pow_pos n
  have h3 : 2 ^ n ≤ 2 ^ 12 := Nat.pow_le_pow_right (by omega) (by omega)
  have h4 := sset_lt h
  unfold sset at h4
  unfold f_X12_slotSet sset
  simp only [il]
  rw [shl_nI (by omega) (by omega), Nat.one_mul, sub_nI (by omega), shl_nI (by omega) (by omega)]
theorem and_z {x y : Nat} : x &&& y = 0 ↔ ∀ k, x.testBit k = true → y.testBit k = false := by
  constructor
  · intro h k hx
    have := congrArg (fun z => Nat.testBit z k) h
    simp only [Nat.testBit_and, hx, Bool.true_and, Nat.zero_testBit] at this
    exact this
  · intro h
    apply Nat.eq_of_testBit_eq
    intro k
    rw [Nat.testBit_and, Nat.zero_testBit]
    cases e : x.testBit k
    · rfl
    · rw [h k e]; rfl
theorem sset_and {q n x : Nat} : sset q n &&& x = 0 ↔ ∀ k, q ≤ k → k < q + n → x.testBit k = false := by
  rw [and_z]
  constructor
  · intro h k h1 h2
    exact h k (by rw [sset_bit]; simp [h1, h2])
  · intro h k hk
    rw [sset_bit] at hk
    have := of_decide_eq_true hk
    exact h k this.1 this.2
theorem msk_bit {lo hi k : Nat} (h : lo ≤ hi) : (msk lo hi).testBit k = decide (lo ≤ k ∧ k ≤ hi) := by
  have e : msk lo hi = sset lo (hi + 1 - lo) := by
    unfold msk sset
    rw [Nat.sub_mul, ← Nat.pow_add, show hi + 1 - lo + lo = hi + 1 by omega, Nat.one_mul]
  rw [e, sset_bit]
  congr 1
  apply propext
  omega
theorem msk_lt {lo hi : Nat} (h : hi ≤ 7) : msk lo hi < 2 ^ 8 := by
  have h1 : 2 ^ (hi + 1) ≤ 2 ^ 8 := Nat.pow_le_pow_right (by omega) (by omega)
  have h2 : 0 < 2 ^ lo := Nat.two_pow_pos lo
  unfold msk
  omega
theorem z32 {α : Sort _} {a b : Nat} {x y : α} (ha : a < 2 ^ 31) (hb : b < 2 ^ 32) : (if nI a &&& nI b = nI 0 then x else y) = if a &&& b = 0 then x else y := by
  have h1 : a &&& b ≤ a := Nat.and_le_left
  rw [and_nI (by omega) hb]
  by_cases e : a &&& b = 0
  · rw [if_pos (by rw [e]), if_pos e]
  · rw [if_neg (fun q => e ((nI_eq (by omega) (by omega)).mp q)), if_neg e]
theorem x_isOn {w : Wd} {a b : Nat} {s t : Nat → Nat} (h : HX w a b s t) {i d : Nat} (hi : i < 12) (hd : d < 2 ^ 31) : f_X7_isOn (Kx X) (a + 6 + 2 * i) (nI d) w = some (hrg t i && cs t i 3 == d, w) := by
  have h2 := h.gt.c3 hi
  unfold f_X7_isOn
  cases e : hrg t i
  · have e1 : cs t i 0 ≠ 1 := by intro q; simp [hrg, q] at e
    have e2 : cs t i 0 ≠ 2 := by intro q; simp [hrg, q] at e
    simp (disch := first | omega | assumption) only [il, Option.bind_some, ixa_n, nI_add, pk_mul, if_le_t, if_le_f, if_lt_t, if_lt_f, if_eq_t, if_eq_f, ↓ifb', h.su, x_size h, h.pg, h.pe, h.mt, h.me, h.p0, h.p1, h.p6, h.p2, h.p3, h.p4, h.p5, h.n2, h.n3, h.n4, h.n5, h.f0, h.f1, h.f2, h.f4, h.f5, h.dy]
    rfl
  · have h3 := h.gt.hr hi e
    have e0 : cs t i 0 = 1 ∨ cs t i 0 = 2 := by simpa [hrg] using e
    by_cases e3 : cs t i 3 = d
    · rcases e0 with e0 | e0
      · simp (disch := first | omega | assumption) only [il, Option.bind_some, ixa_n, nI_add, pk_mul, if_le_t, if_le_f, if_lt_t, if_lt_f, if_eq_t, if_eq_f, ↓ifb', h.su, x_size h, h.pg, h.pe, h.mt, h.me, h.p0, h.p1, h.p6, h.p2, h.p3, h.p4, h.p5, h.n2, h.n3, h.n4, h.n5, h.f0, h.f1, h.f2, h.f4, h.f5, h.dy]
        simp [e3]
      · simp (disch := first | omega | assumption) only [il, Option.bind_some, ixa_n, nI_add, pk_mul, if_le_t, if_le_f, if_lt_t, if_lt_f, if_eq_t, if_eq_f, ↓ifb', h.su, x_size h, h.pg, h.pe, h.mt, h.me, h.p0, h.p1, h.p6, h.p2, h.p3, h.p4, h.p5, h.n2, h.n3, h.n4, h.n5, h.f0, h.f1, h.f2, h.f4, h.f5, h.dy]
        simp [e3]
    · rcases e0 with e0 | e0
      · simp (disch := first | omega | assumption) only [il, Option.bind_some, ixa_n, nI_add, pk_mul, if_le_t, if_le_f, if_lt_t, if_lt_f, if_eq_t, if_eq_f, ↓ifb', h.su, x_size h, h.pg, h.pe, h.mt, h.me, h.p0, h.p1, h.p6, h.p2, h.p3, h.p4, h.p5, h.n2, h.n3, h.n4, h.n5, h.f0, h.f1, h.f2, h.f4, h.f5, h.dy]
        simp [e3]
      · simp (disch := first | omega | assumption) only [il, Option.bind_some, ixa_n, nI_add, pk_mul, if_le_t, if_le_f, if_lt_t, if_lt_f, if_eq_t, if_eq_f, ↓ifb', h.su, x_size h, h.pg, h.pe, h.mt, h.me, h.p0, h.p1, h.p6, h.p2, h.p3, h.p4, h.p5, h.n2, h.n3, h.n4, h.n5, h.f0, h.f1, h.f2, h.f4, h.f5, h.dy]
        simp [e3]
theorem x_slotsOf {w : Wd} {a b : Nat} {s t : Nat → Nat} (h : HX w a b s t) {i : Nat} (hi : i < 12) (e : hrg t i = true) : f_X10_slotsOf (Kx X) a (nI i) w = some (nI (sset (cs t i 4) (s (100 + i))), w) := by
  have h3 := h.gt.hr hi e
  have h4 := h.gs.ln h3.1
  have h6 := h.gs.1.2.2.2
  unfold f_X10_slotsOf
  simp (disch := first | omega | assumption) only [il, Option.bind_some, ixa_n, nI_add, pk_mul, if_le_t, if_le_f, if_lt_t, if_lt_f, if_eq_t, if_eq_f, ↓ifb', h.su, x_size h, h.pg, h.pe, h.mt, h.me, h.p0, h.p1, h.p6, h.p2, h.p3, h.p4, h.p5, h.n2, h.n3, h.n4, h.n5, h.f0, h.f1, h.f2, h.f4, h.f5, h.dy, x_slotSet]
/-- a case's hearing takes the slot q of the day d in the room r -/
def tkn (s t : Nat → Nat) (r d q c : Nat) : Bool := hrg t c && (cs t c 5 == r) && (cs t c 3 == d) && decide (cs t c 4 ≤ q ∧ q < cs t c 4 + s (100 + c))
def oI : Option Nat → Int32
  | some i => nI i
  | none => -nI 1
theorem x_caseTaking {w : Wd} {a b : Nat} {s t : Nat → Nat} (h : HX w a b s t) {r d q : Nat} (hr : r < 2 ^ 31) (hd : d < 2 ^ 31) (hq : q < 32) : f_X10_caseTaking (Kx X) a (nI r) (nI d) (nI q) w = some (oI (fstF (tkn s t r d q) 0 (s 3)), w) := by
  have h12 := h.gs.1.2.2.2
  have h3 := h.gs.1.1
  unfold f_X10_caseTaking
  simp only [il]
  refine (loop_fst (fun f c => f_X10_caseTaking_L3 (Kx X) a (fun v1_3 v2_3 v3_3 v4_3 w1 => some (-nI 1, w1)) f (nI r) (nI d) (nI q) (nI c) w) (tkn s t r d q) (s 3) (fun i => some (nI i, w)) (some (-nI 1, w)) (fun f => ?_) (fun f c hc hp => ?_) (fun f c hc hp => ?_) (s 3) 0 fu (by omega) (fu_lt (by omega))).trans ?_
  · try dsimp only
    rw [f_X10_caseTaking_L3]
    simp (disch := first | omega | assumption) only [il, Option.bind_some, ixa_n, nI_add, pk_mul, if_le_t, if_le_f, if_lt_t, if_lt_f, if_eq_t, if_eq_f, ↓ifb', h.su, x_size h, h.pg, h.pe, h.mt, h.me, h.p0, h.p1, h.p6, h.p2, h.p3, h.p4, h.p5, h.n2, h.n3, h.n4, h.n5, h.f0, h.f1, h.f2, h.f4, h.f5, h.dy]
  · try dsimp only
    simp only [tkn, Bool.and_eq_true, beq_iff_eq, decide_eq_true_eq] at hp
    have e1 := hp.1.1.1
    have e2 := h.gt.hr (by omega) e1
    have e3 := h.gs.ln hc
    have e4 : sset (cs t c 4) (s (100 + c)) < 4096 := sset_lt (by omega)
    have e5 : (sset (cs t c 4) (s (100 + c))).testBit q = true := by rw [sset_bit]; simp; omega
    rw [f_X10_caseTaking_L3]
    simp (disch := first | omega | assumption) only [il, Option.bind_some, ixa_n, nI_add, pk_mul, if_le_t, if_le_f, if_lt_t, if_lt_f, if_eq_t, if_eq_f, ↓ifb', h.su, x_size h, h.pg, h.pe, h.mt, h.me, h.p0, h.p1, h.p6, h.p2, h.p3, h.p4, h.p5, h.n2, h.n3, h.n4, h.n5, h.f0, h.f1, h.f2, h.f4, h.f5, h.dy, x_isOn h, x_slotsOf h, x_has, e1, hp.1.2, e5, beq_self_eq_true, Bool.and_self, if_true]
  · try dsimp only
    rw [f_X10_caseTaking_L3]
    cases e1 : hrg t c
    · simp (disch := first | omega | assumption) only [il, Option.bind_some, ixa_n, nI_add, pk_mul, if_le_t, if_le_f, if_lt_t, if_lt_f, if_eq_t, if_eq_f, ↓ifb', h.su, x_size h, h.pg, h.pe, h.mt, h.me, h.p0, h.p1, h.p6, h.p2, h.p3, h.p4, h.p5, h.n2, h.n3, h.n4, h.n5, h.f0, h.f1, h.f2, h.f4, h.f5, h.dy, x_isOn h, e1, Bool.false_and, Bool.false_eq_true, if_false]
    · have e2 := h.gt.hr (by omega) e1
      have e3 := h.gs.ln hc
      have e4 : sset (cs t c 4) (s (100 + c)) < 4096 := sset_lt (by omega)
      by_cases e5 : cs t c 3 = d
      · by_cases e6 : cs t c 5 = r
        · have e7 : (sset (cs t c 4) (s (100 + c))).testBit q = false := by
            rw [sset_bit]
            simp [tkn, e1, e5, e6] at hp
            simp
            omega
          simp (disch := first | omega | assumption) only [il, Option.bind_some, ixa_n, nI_add, pk_mul, if_le_t, if_le_f, if_lt_t, if_lt_f, if_eq_t, if_eq_f, ↓ifb', h.su, x_size h, h.pg, h.pe, h.mt, h.me, h.p0, h.p1, h.p6, h.p2, h.p3, h.p4, h.p5, h.n2, h.n3, h.n4, h.n5, h.f0, h.f1, h.f2, h.f4, h.f5, h.dy, x_isOn h, x_slotsOf h, x_has, e1, e5, e7, beq_self_eq_true, Bool.and_self, Bool.false_eq_true, if_true, if_false]
        · simp (disch := first | omega | assumption) only [il, Option.bind_some, ixa_n, nI_add, pk_mul, if_le_t, if_le_f, if_lt_t, if_lt_f, if_eq_t, if_eq_f, ↓ifb', h.su, x_size h, h.pg, h.pe, h.mt, h.me, h.p0, h.p1, h.p6, h.p2, h.p3, h.p4, h.p5, h.n2, h.n3, h.n4, h.n5, h.f0, h.f1, h.f2, h.f4, h.f5, h.dy, x_isOn h, e1, e5, beq_self_eq_true, Bool.and_self, if_true]
      · have e6 : (cs t c 3 == d) = false := by simp [e5]
        simp (disch := first | omega | assumption) only [il, Option.bind_some, ixa_n, nI_add, pk_mul, if_le_t, if_le_f, if_lt_t, if_lt_f, if_eq_t, if_eq_f, ↓ifb', h.su, x_size h, h.pg, h.pe, h.mt, h.me, h.p0, h.p1, h.p6, h.p2, h.p3, h.p4, h.p5, h.n2, h.n3, h.n4, h.n5, h.f0, h.f1, h.f2, h.f4, h.f5, h.dy, x_isOn h, e1, e6, Bool.and_false, Bool.false_eq_true, if_false]
  · cases fstF (tkn s t r d q) 0 (s 3) <;> rfl
def tknN (s t : Nat → Nat) (r p q : Nat) : Nat → Nat := sm (fun c => if hrg t c && (cs t c 5 == r) && (decide (p ≤ cs t c 3 ∧ cs t c 3 ≤ q) && wkg t (cs t c 3)) then s (100 + c) else 0)
theorem tknN_succ {s t : Nat → Nat} {r p q n : Nat} : tknN s t r p q (n + 1) = tknN s t r p q n + if hrg t n && (cs t n 5 == r) && (decide (p ≤ cs t n 3 ∧ cs t n 3 ≤ q) && wkg t (cs t n 3)) then s (100 + n) else 0 := rfl
theorem tknN_le {s t : Nat → Nat} {r p q : Nat} (h : GoodS s) {n : Nat} (hn : n ≤ s 3) : tknN s t r p q n ≤ 48 := by
  have := sm_le' (g := fun c => if hrg t c && (cs t c 5 == r) && (decide (p ≤ cs t c 3 ∧ cs t c 3 ≤ q) && wkg t (cs t c 3)) then s (100 + c) else 0) (M := 4) n (fun i hi => by
    have := (h.ln (i := i) (by omega))
    try dsimp only
    split <;> omega)
  have := h.1.2.2.2
  unfold tknN
  omega
def popS (g : Nat → Nat) : Nat → Nat := sm (fun i => popN (g i))
theorem popS_le {g : Nat → Nat} (n : Nat) : popS g n ≤ n * 31 := sm_le (fun i => popN_le _) n
theorem popS_succ {g : Nat → Nat} {n : Nat} : popS g (n + 1) = popS g n + popN (g n) := rfl
theorem x_countBars {w : Wd} {a b : Nat} {s t : Nat → Nat} (h : HX w a b s t) : f_X10_countBars (Kx X) a w = some (nI (popS (fun i => t (34 + i)) (s 3)), w) := by
  have h12 := h.gs.1.2.2.2
  unfold f_X10_countBars
  refine loop_g (fun f c => f_X10_countBars_L4 (Kx X) a (fun v1_4 v2_4 w1 => some (v1_4, w1)) f (nI (popS (fun i => t (34 + i)) c)) (nI c) w) (fun _ => some (nI (popS (fun i => t (34 + i)) (s 3)), w)) (s 3) (fun f => ?_) (fun f c hc ih => ?_) fu 0 (by omega) (fu_lt (by omega))
  · try dsimp only
    rw [f_X10_countBars_L4]
    simp (disch := first | omega | assumption) only [il, Option.bind_some, ixa_n, nI_add, pk_mul, if_le_t, if_le_f, if_lt_t, if_lt_f, if_eq_t, if_eq_f, ↓ifb', h.su, x_size h, h.pg, h.pe, h.mt, h.me, h.p0, h.p1, h.p6, h.p2, h.p3, h.p4, h.p5, h.n2, h.n3, h.n4, h.n5, h.f0, h.f1, h.f2, h.f4, h.f5, h.dy]
  · try dsimp only at ih ⊢
    rw [f_X10_countBars_L4]
    rw [popS_succ] at ih
    have hb := GoodT.br h.gs h.gt (i := c) (by omega)
    simp (disch := first | omega | assumption) only [il, Option.bind_some, ixa_n, nI_add, pk_mul, if_le_t, if_le_f, if_lt_t, if_lt_f, if_eq_t, if_eq_f, ↓ifb', h.su, x_size h, h.pg, h.pe, h.mt, h.me, h.p0, h.p1, h.p6, h.p2, h.p3, h.p4, h.p5, h.n2, h.n3, h.n4, h.n5, h.f0, h.f1, h.f2, h.f4, h.f5, h.dy, t1004 h.1 h.2.1.1, h.2.2.2.1.2.2.2.1, x_bitCount]
    exact ih
theorem x_countConflicts {w : Wd} {a b : Nat} {s t : Nat → Nat} (h : HX w a b s t) : f_X9_countConflicts (Kx X) b w = some (nI (popS (fun i => s (148 + i)) (s 3)) / nI 2, w) := by
  have h12 := h.gs.1.2.2.2
  unfold f_X9_countConflicts
  simp only [il]
  refine loop_g (fun f c => f_X9_countConflicts_L4 (Kx X) b (fun v1_4 v2_4 w1 => some (v1_4 / nI 2, w1)) f (nI (popS (fun i => s (148 + i)) c)) (nI c) w) (fun _ => some (nI (popS (fun i => s (148 + i)) (s 3)) / nI 2, w)) (s 3) (fun f => ?_) (fun f c hc ih => ?_) fu 0 (by omega) (fu_lt (by omega))
  · try dsimp only
    rw [f_X9_countConflicts_L4]
    simp (disch := first | omega | assumption) only [il, Option.bind_some, ixa_n, nI_add, pk_mul, if_le_t, if_le_f, if_lt_t, if_lt_f, if_eq_t, if_eq_f, ↓ifb', h.su, x_size h, h.pg, h.pe, h.mt, h.me, h.p0, h.p1, h.p6, h.p2, h.p3, h.p4, h.p5, h.n2, h.n3, h.n4, h.n5, h.f0, h.f1, h.f2, h.f4, h.f5, h.dy]
  · try dsimp only at ih ⊢
    rw [f_X9_countConflicts_L4]
    rw [popS_succ] at ih
    have hb := h.gs.cf hc
    simp (disch := first | omega | assumption) only [il, Option.bind_some, ixa_n, nI_add, pk_mul, if_le_t, if_le_f, if_lt_t, if_lt_f, if_eq_t, if_eq_f, ↓ifb', h.su, x_size h, h.pg, h.pe, h.mt, h.me, h.p0, h.p1, h.p6, h.p2, h.p3, h.p4, h.p5, h.n2, h.n3, h.n4, h.n5, h.f0, h.f1, h.f2, h.f4, h.f5, h.dy, x_bitCount]
    exact ih
