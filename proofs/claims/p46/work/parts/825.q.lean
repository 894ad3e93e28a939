variable {X : Kd}
theorem nI_bv {n : Nat} : (nI n).toBitVec = BitVec.ofNat 32 n := rfl
theorem or_nI {a b : Nat} (ha : a < 2 ^ 32) (hb : b < 2 ^ 32) : nI a ||| nI b = nI (a ||| b) := by
  apply Int32.toBitVec_inj.mp
  rw [Int32.toBitVec_or]
  apply BitVec.eq_of_toNat_eq
  rw [BitVec.toNat_or, pk_tn ha, pk_tn hb, pk_tn (Nat.or_lt_two_pow ha hb)]
theorem and_nI {a b : Nat} (ha : a < 2 ^ 32) (hb : b < 2 ^ 32) : nI a &&& nI b = nI (a &&& b) := by
  apply Int32.toBitVec_inj.mp
  rw [Int32.toBitVec_and]
  apply BitVec.eq_of_toNat_eq
  rw [BitVec.toNat_and, pk_tn ha, pk_tn hb, pk_tn (Nat.lt_of_le_of_lt Nat.and_le_left ha)]
theorem xor_nI {a b : Nat} (ha : a < 2 ^ 32) (hb : b < 2 ^ 32) : nI a ^^^ nI b = nI (a ^^^ b) := by
  apply Int32.toBitVec_inj.mp
  rw [Int32.toBitVec_xor]
  apply BitVec.eq_of_toNat_eq
  rw [BitVec.toNat_xor, pk_tn ha, pk_tn hb, pk_tn (Nat.xor_lt_two_pow ha hb)]
theorem m1_nI : (-nI 1 : Int32) = nI 4294967295 := by decide +kernel
/-- what of a is not in b -/
def dif (a b : Nat) : Nat := a &&& (4294967295 ^^^ b)
theorem dif_nI {a b : Nat} (ha : a < 2 ^ 32) (hb : b < 2 ^ 32) : nI a &&& (nI b ^^^ -nI 1) = nI (dif a b) := by
  rw [m1_nI, xor_nI hb (by decide), and_nI ha (Nat.xor_lt_two_pow hb (by decide)), Nat.xor_comm]
  rfl
theorem dif_bit {a b k : Nat} (hk : k < 32) : (dif a b).testBit k = (a.testBit k && !b.testBit k) := by
  unfold dif
  have h : Nat.testBit 4294967295 k = true := (by decide +kernel : ∀ k, k < 32 → Nat.testBit 4294967295 k = true) k hk
  rw [Nat.testBit_and, Nat.testBit_xor, h]
  cases Nat.testBit b k <;> rfl
theorem dif_le {a b : Nat} : dif a b ≤ a := Nat.and_le_left
theorem GoodS.nd {s : Nat → Nat} (h : GoodS s) {i : Nat} (hi : i < s 3) : s (136 + i) < 4096 := Nat.lt_of_lt_of_le (h.2.2.2.2.1 i hi).2.2.2.2.1 (Nat.pow_le_pow_right (by omega) h.1.2.2.1 : 2 ^ s 2 ≤ 2 ^ 12)
theorem GoodS.cf {s : Nat → Nat} (h : GoodS s) {i : Nat} (hi : i < s 3) : s (148 + i) < 4096 := Nat.lt_of_lt_of_le (h.2.2.2.2.1 i hi).2.2.2.2.2.1 (Nat.pow_le_pow_right (by omega) h.1.2.2.2 : 2 ^ s 3 ≤ 2 ^ 12)
theorem GoodT.br {s t : Nat → Nat} (hS : GoodS s) (h : GoodT s t) {i : Nat} (hi : i < 12) : t (34 + i) < 64 := Nat.lt_of_lt_of_le (h.2.2.2.2.2.1 i hi) (Nat.pow_le_pow_right (by omega) hS.1.2.1 : 2 ^ s 1 ≤ 2 ^ 6)
def needN (s t : Nat → Nat) (v : Nat) : Nat := cnt (fun i => cs t i 0 == 1 && (s (136 + i)).testBit v) (s 3)
def loadN (s t : Nat → Nat) (o n : Nat) : Nat := sm (fun i => if hrg t i && cs t i 6 == o then s (100 + i) else 0) n
theorem loadN_succ {s t : Nat → Nat} {o n : Nat} : loadN s t o (n + 1) = loadN s t o n + if hrg t n && cs t n 6 == o then s (100 + n) else 0 := rfl
theorem loadN_le {s t : Nat → Nat} (h : GoodS s) (o : Nat) {n : Nat} (hn : n ≤ s 3) : loadN s t o n ≤ 48 := by
  have := sm_le' (g := fun i => if hrg t i && cs t i 6 == o then s (100 + i) else 0) (M := 4) n (fun i hi => by
    have := (h.2.2.2.2.1 i (by omega)).2.1
    try dsimp only
    split <;> omega)
  have := h.1.2.2.2
  unfold loadN
  omega
theorem x_loadOf {w : Wd} {a b : Nat} {s t : Nat → Nat} (h : HX w a b s t) {o : Nat} (ho : o < 2 ^ 31) : f_X10_loadOf (Kx X) a (nI o) w = some (nI (loadN s t o (s 3)), w) := by
  have h12 := h.2.2.2.2.1.1.2.2.2
  unfold f_X10_loadOf
  refine loop_g (fun f c => f_X10_loadOf_L4 (Kx X) a (fun v1_4 v2_4 v3_4 w1 => some (v2_4, w1)) f (nI o) (nI (loadN s t o c)) (nI c) w) (fun _ => some (nI (loadN s t o (s 3)), w)) (s 3) (fun f => ?_) (fun f c hc ih => ?_) fu 0 (by omega) (fu_lt (by omega))
  · try dsimp only
    rw [f_X10_loadOf_L4]
    simp (disch := omega) only [il, Option.bind_some, h.su, x_size h, if_le_t]
  · try dsimp only at ih ⊢
    have h2 := h.2.2.2.2.2.2.2.2.2.2.2 c (by omega)
    have h6 := h.2.2.2.2.1.1.2.1
    have hP := h.2.2.2.1.2.2.2.2 c (by omega)
    have hU := h.2.2.1.2.2.2.2.2.1 c hc
    rw [f_X10_loadOf_L4]
    rw [loadN_succ] at ih
    cases e1 : hrg t c
    · simp (disch := omega) only [il, Option.bind_some, h.su, x_size h, if_le_f, t1005 h.1 h.2.1.1, ixa_n, tpr h.1 h.2.1.1, (hP.2.2.2.2.1 e1).2.2.2, nI_add]
      rw [if_neg (neg1_eq ho)]
      simpa [e1] using ih
    · have h3 := h2.2.2.2 e1
      by_cases e : cs t c 6 = o
      · simp (disch := omega) only [il, Option.bind_some, h.su, x_size h, if_le_f, t1005 h.1 h.2.1.1, ixa_n, tpr h.1 h.2.1.1, (hP.2.2.2.1 e1).2.2.2, if_eq_t, u909 h.1 h.2.1.2.1, umt h.1 h.2.1.2.1, hU.2.1, nI_add]
        simpa [e1, e] using ih
      · simp (disch := omega) only [il, Option.bind_some, h.su, x_size h, if_le_f, t1005 h.1 h.2.1.1, ixa_n, tpr h.1 h.2.1.1, (hP.2.2.2.1 e1).2.2.2, if_eq_f, nI_add]
        simpa [e1, e] using ih

