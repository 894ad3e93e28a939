variable {X : Kd}
def awayS (s : Nat → Nat) (o d : Nat) : Bool := anyF (fun k => decide (s (16 + 6 * o + 2 * k) ≤ d ∧ d ≤ s (17 + 6 * o + 2 * k))) 0 (s (10 + o))
theorem x_isAway {w : Wd} {a b : Nat} {s t : Nat → Nat} (h : HX w a b s t) {o d : Nat} (ho : o < s 1) (hd : d < 2 ^ 31) : f_X9_isAway (Kx X) b (nI o) (nI d) w = some (awayS s o d, w) := by
  have h6 := h.2.2.2.2.1.1.2.1
  have hG := h.2.2.2.2.1.2.2.1 o ho
  have hU3 := h.2.2.1.2.2.1 o ho
  have hU4 : ∀ k, k < s (10 + o) → aI w (b + 4) (o * 3 + k) = nI (s (16 + 6 * o + 2 * k)) ∧ aI w (b + 5) (o * 3 + k) = nI (s (17 + 6 * o + 2 * k)) := fun k hk => by
    rw [Nat.mul_comm o 3]; exact h.2.2.1.2.2.2.1 o ho k hk
  unfold f_X9_isAway
  simp only [il, pk_mul]
  refine (loop_any (fun f c => f_X9_isAway_L7 (Kx X) b (fun v1_7 v2_7 v3_7 v4_7 w1 => some (false, w1)) f (nI o) (nI d) (nI (o * 3)) (nI (o * 3 + c)) w) (fun k => decide (s (16 + 6 * o + 2 * k) ≤ d ∧ d ≤ s (17 + 6 * o + 2 * k))) (s (10 + o)) (some (true, w)) (some (false, w)) (fun f => ?_) (fun f c hc hp => ?_) (fun f c hc hp => ?_) (s (10 + o)) 0 fu (by omega) (fu_lt (by omega))).trans ?_
  · try dsimp only
    rw [f_X9_isAway_L7]
    simp (disch := omega) only [il, Option.bind_some, u902 h.1 h.2.1.2.1, ixa_n, hU3, nI_add, if_le_t]
  · try dsimp only
    have e := of_decide_eq_true hp
    have hU := hU4 c hc
    have hG2 := hG.2 c hc
    rw [f_X9_isAway_L7]
    simp (disch := omega) only [il, Option.bind_some, u902 h.1 h.2.1.2.1, u903 h.1 h.2.1.2.1, u904 h.1 h.2.1.2.1, ixa_n, hU3, hU.1, hU.2, nI_add, if_le_f, if_lt_f]
  · try dsimp only
    have e := of_decide_eq_false hp
    have hU := hU4 c hc
    have hG2 := hG.2 c hc
    rw [f_X9_isAway_L7]
    by_cases e2 : s (16 + 6 * o + 2 * c) ≤ d
    · simp (disch := omega) only [il, Option.bind_some, u902 h.1 h.2.1.2.1, u903 h.1 h.2.1.2.1, u904 h.1 h.2.1.2.1, ixa_n, hU3, hU.1, hU.2, nI_add, if_le_f, if_lt_f, if_lt_t]
      rfl
    · simp (disch := omega) only [il, Option.bind_some, u902 h.1 h.2.1.2.1, u903 h.1 h.2.1.2.1, u904 h.1 h.2.1.2.1, ixa_n, hU3, hU.1, hU.2, nI_add, if_le_f, if_lt_f, if_lt_t]
      rfl
  · unfold awayS
    cases anyF (fun k => decide (s (16 + 6 * o + 2 * k) ≤ d ∧ d ≤ s (17 + 6 * o + 2 * k))) 0 (s (10 + o)) <;> rfl
theorem i64_nI {n : Nat} (h : n < 2 ^ 31) : (nI n).toInt64.toInt = (n : Int) := by
  rw [Int32.toInt_toInt64, nI_toInt h]
/-- an officer is barred from a case -/
def brd (s t : Nat → Nat) (o i : Nat) : Bool := (t (34 + i)).testBit o || anyF (fun c => (s (148 + i)).testBit c && (hrg t c && cs t c 6 == o)) 0 (s 3)
def orS (g : Nat → Nat) : Nat → Nat
  | 0 => 0
  | n + 1 => orS g n ||| g n
theorem orS_lt {g : Nat → Nat} {k : Nat} : ∀ n, (∀ i, i < n → g i < 2 ^ k) → orS g n < 2 ^ k
  | 0, _ => Nat.two_pow_pos k
  | n + 1, h => Nat.or_lt_two_pow (orS_lt n (fun i hi => h i (by omega))) (h n (by omega))
theorem orS_bit {g : Nat → Nat} {o : Nat} : ∀ n, (orS g n).testBit o = anyF (fun c => (g c).testBit o) 0 n
  | 0 => by simp [orS, anyF]
  | n + 1 => by
    rw [anyF_snoc, orS, Nat.testBit_or, orS_bit n]
    simp
def brG (s t : Nat → Nat) (i c : Nat) : Nat := if (s (148 + i)).testBit c && hrg t c then 2 ^ cs t c 6 else 0
def brN (s t : Nat → Nat) (i : Nat) : Nat := t (34 + i) ||| orS (brG s t i) (s 3)
theorem brG_lt {s t : Nat → Nat} (hS : GoodS s) (hT : GoodT s t) {i c : Nat} (hc : c < s 3) : brG s t i c < 2 ^ 6 := by
  unfold brG
  split
  · rename_i h
    simp only [Bool.and_eq_true] at h
    have := hS.1.2.2.2
    have h3 := (hT.2.2.2.2.2.2 c (by omega)).2.2.2 h.2
    have := hS.1.2.1
    exact Nat.pow_lt_pow_right (by omega) (by omega)
  · exact Nat.two_pow_pos 6
theorem brN_lt {s t : Nat → Nat} (hS : GoodS s) (hT : GoodT s t) {i : Nat} (hi : i < s 3) : brN s t i < 64 :=
  Nat.or_lt_two_pow (n := 6) (GoodT.br hS hT (by have := hS.1.2.2.2; omega)) (orS_lt _ (fun c hc => brG_lt hS hT hc))
theorem brN_bit {s t : Nat → Nat} {i o : Nat} : (brN s t i).testBit o = brd s t o i := by
  unfold brN brd
  rw [Nat.testBit_or, orS_bit]
  congr 2
  funext c
  unfold brG
  cases (s (148 + i)).testBit c <;> cases hrg t c <;> simp
  rw [Nat.testBit_two_pow]
  by_cases e : cs t c 6 = o <;> simp [e]
theorem x_barredOfficers {w : Wd} {a b : Nat} {s t : Nat → Nat} (h : HX w a b s t) {i : Nat} (hi : i < s 3) : f_X10_barredOfficers (Kx X) a (nI i) w = some (nI (brN s t i), w) := by
  have hS := h.2.2.2.2.1
  have hT := h.2.2.2.2.2
  have h12 := hS.1.2.2.2
  have h6 := hS.1.2.1
  have hU := h.2.2.1.2.2.2.2.2.1 i hi
  have hc' := hS.cf hi
  have hb := GoodT.br hS hT (i := i) (by omega)
  unfold f_X10_barredOfficers
  simp (disch := omega) only [il, Option.bind_some, t1004 h.1 h.2.1.1, ixa_n, h.su, u909 h.1 h.2.1.2.1, umt h.1 h.2.1.2.1, hU.2.2.2.2.2, h.2.2.2.1.2.2.2.1]
  rw [show nI (t (34 + i)) = nI (t (34 + i) ||| orS (brG s t i) 0) by simp [orS]]
  refine loop_g (fun f c => f_X10_barredOfficers_L23 (Kx X) a (fun v1_23 v2_23 v3_23 v4_23 w7 => some (v2_23, w7)) f (nI i) (nI (t (34 + i) ||| orS (brG s t i) c)) (nI (s (148 + i))) (nI c) w) (fun _ => some (nI (brN s t i), w)) (s 3) (fun f => ?_) (fun f c hc ih => ?_) fu 0 (by omega) (fu_lt (by omega))
  · try dsimp only
    rw [f_X10_barredOfficers_L23]
    simp (disch := omega) only [il, Option.bind_some, h.su, x_size h, if_le_t]
    rfl
  · try dsimp only at ih ⊢
    have h2 := hT.2.2.2.2.2.2 c (by omega)
    have hP := h.2.2.2.1.2.2.2.2 c (by omega)
    have ho : t (34 + i) ||| orS (brG s t i) c < 2 ^ 6 := Nat.or_lt_two_pow hb (orS_lt _ (fun d hd => brG_lt hS hT (by omega)))
    rw [orS] at ih
    rw [f_X10_barredOfficers_L23]
    cases e1 : (s (148 + i)).testBit c
    · simp (disch := omega) only [il, Option.bind_some, h.su, x_size h, if_le_f, x_has, e1, ↓ifb', nI_add]
      simpa [brG, e1, b2i] using ih
    · cases e2 : hrg t c
      · simp (disch := omega) only [il, Option.bind_some, h.su, x_size h, if_le_f, x_has, e1, ↓ifb', nI_add, t1005 h.1 h.2.1.1, ixa_n, tpr h.1 h.2.1.1, (hP.2.2.2.2.1 e2).2.2.2]
        simpa [brG, e1, e2, b2i] using ih
      · have h3 := h2.2.2.2 e2
        have hp : 2 ^ cs t c 6 < 2 ^ 6 := Nat.pow_lt_pow_right (by omega) (by omega)
        simp (disch := omega) only [il, Option.bind_some, h.su, x_size h, if_le_f, x_has, e1, ↓ifb', nI_add, t1005 h.1 h.2.1.1, ixa_n, tpr h.1 h.2.1.1, (hP.2.2.2.1 e2).2.2.2]
        rw [if_pos trivial, if_neg (fun q => neg1_eq (a := cs t c 6) (by omega) q.symm), shl_nI (by omega) (by omega), Nat.one_mul, or_nI (by omega) (by omega), Nat.or_assoc]
        simpa [brG, e1, e2] using ih

