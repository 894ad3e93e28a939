/-! doubles -/
theorem i2d_fin (a : Int32) : ∃ s c q, Jvm.FP.Core.val64 (FP.i2d a) = .fin s c q ∧ (c = 0 ↔ a.toInt = 0) := by
  have h : Jvm.FP.Core.Whole a.toInt (Jvm.FP.Core.val64 (FP.i2d a)) := Jvm.FP.Core.i2d_int a
  cases e : Jvm.FP.Core.val64 (FP.i2d a) with
  | nan => rw [e] at h; exact absurd h (by simp [Jvm.FP.Core.Whole])
  | inf s => rw [e] at h; exact absurd h (by simp [Jvm.FP.Core.Whole])
  | fin s c q => rw [e] at h; exact ⟨s, c, q, rfl, Jvm.FP.Core.whole_zero h⟩
theorem i2f_fin {a : Int32} (ha : a.toInt.natAbs ≤ 2 ^ 24) : ∃ s c q, Jvm.FP.Core.val32 (FP.i2f a) = .fin s c q ∧ (c = 0 ↔ a.toInt = 0) := by
  have h : Jvm.FP.Core.Whole a.toInt (Jvm.FP.Core.val32 (FP.i2f a)) := Jvm.FP.Core.i2f_int ha
  cases e : Jvm.FP.Core.val32 (FP.i2f a) with
  | nan => rw [e] at h; exact absurd h (by simp [Jvm.FP.Core.Whole])
  | inf s => rw [e] at h; exact absurd h (by simp [Jvm.FP.Core.Whole])
  | fin s c q => rw [e] at h; exact ⟨s, c, q, rfl, Jvm.FP.Core.whole_zero h⟩
theorem ddiv_ok (a : Int32) {b : Int32} (hb : b.toInt ≠ 0) : Jvm.FP.Core.val64 (FP.ddiv (FP.i2d a) (FP.i2d b)) ≠ .nan := by
  obtain ⟨s, c, q, h1, _⟩ := i2d_fin a
  obtain ⟨s2, c2, q2, h2, z2⟩ := i2d_fin b
  have h0 : FP.ddiv (FP.i2d a) (FP.i2d b) = Jvm.FP.Core.ddiv (FP.i2d a) (FP.i2d b) := rfl
  rw [h0, Jvm.FP.Core.val64_ddiv, h1, h2]
  unfold Jvm.FP.Core.quotient
  try dsimp only
  rw [if_neg (fun q => hb (z2.mp q))]
  exact Jvm.FP.Core.roundRatio_ne_nan _ _ _ _ _
theorem fdiv_ok {a b : Int32} (ha : a.toInt.natAbs ≤ 2 ^ 24) (hb2 : b.toInt.natAbs ≤ 2 ^ 24) (hb : b.toInt ≠ 0) : Jvm.FP.Core.val32 (FP.fdiv (FP.i2f a) (FP.i2f b)) ≠ .nan := by
  obtain ⟨s, c, q, h1, _⟩ := i2f_fin ha
  obtain ⟨s2, c2, q2, h2, z2⟩ := i2f_fin hb2
  have h0 : FP.fdiv (FP.i2f a) (FP.i2f b) = Jvm.FP.Core.fdiv (FP.i2f a) (FP.i2f b) := rfl
  rw [h0, Jvm.FP.Core.val32_fdiv, h1, h2]
  unfold Jvm.FP.Core.quotient
  try dsimp only
  rw [if_neg (fun q => hb (z2.mp q))]
  exact Jvm.FP.Core.roundRatio_ne_nan _ _ _ _ _
theorem f2d_ok {a : UInt32} (ha : Jvm.FP.Core.val32 a ≠ .nan) : Jvm.FP.Core.val64 (FP.f2d a) ≠ .nan := by
  have h1 : FP.f2d a = Jvm.FP.Core.f2d a := Jvm.FP.f2d_core ((Jvm.FP.Core.notNaN_iff32 a).mpr ha)
  rw [h1, Jvm.FP.Core.val64_f2d]
  cases e : Jvm.FP.Core.val32 a with
  | nan => exact absurd e ha
  | inf s => intro q; cases q
  | fin s c q => exact Jvm.FP.Core.roundRatio_ne_nan _ _ _ _ _
theorem n64_nn {r : UInt64} (h : Jvm.FP.Core.val64 r ≠ .nan) : n64 r = true := by
  have h1 := (Jvm.FP.Core.ne_nan r).mp h
  unfold n64
  refine decide_eq_true ?_
  rw [UInt64.le_iff_toNat_le, UInt64.toNat_and]
  have h2 : (0x7fffffffffffffff : UInt64).toNat = 2 ^ 63 - 1 := rfl
  have h3 : (0x7ff0000000000000 : UInt64).toNat = 9218868437227405312 := rfl
  rw [h2, h3, Nat.and_two_pow_sub_one_eq_mod]
  exact h1
theorem n32_nn {r : UInt32} (h : Jvm.FP.Core.val32 r ≠ .nan) : n32 r = true := by
  have h1 := (Jvm.FP.Core.ne_nan32 r).mp h
  unfold n32
  refine decide_eq_true ?_
  rw [UInt32.le_iff_toNat_le, UInt32.toNat_and]
  have h2 : (0x7fffffff : UInt32).toNat = 2 ^ 31 - 1 := rfl
  have h3 : (0x7f800000 : UInt32).toNat = 2139095040 := rfl
  rw [h2, h3, Nat.and_two_pow_sub_one_eq_mod]
  exact h1
theorem dcmp_ok {a : UInt64} (h : Jvm.FP.Core.val64 a ≠ .nan) : FP.dcmp a a = some .eq := Jvm.FP.Core.dcmp_self h
theorem d0_ok : Jvm.FP.Core.val64 FP.dconst0 ≠ .nan := by
  have h1 : FP.dconst0 = Jvm.FP.Core.dconst0 := rfl
  rw [h1, Jvm.FP.Core.val64_dconst0]
  intro q; cases q
theorem f0_ok : Jvm.FP.Core.val32 FP.fconst0 ≠ .nan := by
  have h1 : FP.fconst0 = Jvm.FP.Core.fconst0 := rfl
  rw [h1, Jvm.FP.Core.val32_fconst0]
  intro q; cases q
/-! meanSlack, usage -/
def slS (s t : Nat → Nat) : Nat → Nat := sm (fun i => if wt t i = true then wkIn t (t 0) (limD s t i + 1 - t 0) else 0)
theorem slS_succ {s t : Nat → Nat} {n : Nat} : slS s t (n + 1) = slS s t n + (if wt t n = true then wkIn t (t 0) (limD s t n + 1 - t 0) else 0) := rfl
theorem x_meanL {w : Wd} {b : Nat} {s t : Nat → Nat} (h : HX w 73 b s t) {k : Int32 → Int32 → Int32 → Wd → Option (UInt64 × Wd)} : f_X12_meanSlack_L6 Kc 0 k fu 0 0 0 w = k (nI (slS s t (s 3))) (nI (cnt (wt t) (s 3))) (nI (s 3)) w := by
  have h12 := h.gs.1.2.2.2
  refine loop_g (fun f c => f_X12_meanSlack_L6 Kc 0 k f (nI (slS s t c)) (nI (cnt (wt t) c)) (nI c) w) (fun _ => k (nI (slS s t (s 3))) (nI (cnt (wt t) (s 3))) (nI (s 3)) w) (s 3) (fun f => ?_) (fun f c hc ih => ?_) fu 0 (by omega) (fu_lt (by omega))
  · try dsimp only
    rw [f_X12_meanSlack_L6, x1205 h.1, Option.bind_some, h.su, Option.bind_some, show (3 : Int32) = nI 3 from rfl, x_size h (by omega), Option.bind_some]
    try dsimp only
    rw [if_le_t (by omega) (by omega) (Nat.le_refl _)]
  · try dsimp only at ih ⊢
    have c3 := (h.gt.c3 (i := c) (by omega)).1
    rw [f_X12_meanSlack_L6, x1205 h.1, Option.bind_some, h.su, Option.bind_some, show (3 : Int32) = nI 3 from rfl, x_size h (by omega), Option.bind_some]
    try dsimp only
    rw [if_le_f (by omega) (by omega) hc, x1205 h.1, Option.bind_some, h.pg, Option.bind_some]
    try dsimp only
    rw [ixa_n (by omega) (by omega), Option.bind_some, h.pe (by omega), Option.bind_some, h.p0 (by omega), show (0 : Int32) = nI 0 from rfl, show (1 : Int32) = nI 1 from rfl]
    rw [slS_succ, cnt_succ] at ih
    by_cases e : cs t c 0 = 0
    · have e1 : wt t c = true := by unfold wt; rw [e]; rfl
      rw [if_eq_t e, x_slackOf h hc, Option.bind_some]
      try dsimp only
      rw [nI_add, nI_add, nI_add]
      rw [e1, if_pos rfl] at ih
      exact ih
    · have e1 : wt t c = false := by unfold wt; exact beq_false_of_ne e
      rw [if_eq_f (by omega) (by omega) e, nI_add]
      rw [e1, if_neg (by decide)] at ih
      exact ih
theorem m_meanL {w : Wd} {s t : Nat → Nat} (h : HM w s t) {u : Int32} {k : Int32 → Int32 → Int32 → Wd → Option (UInt64 × Wd)} : f_X13_meanSlack_L15 Kc 415 k fu u 0 0 w = k u (nI (slS s t (s 3))) (nI (s 3)) w := by
  have h12 := h.gs.1.2.2.2
  refine loop_g (fun f c => f_X13_meanSlack_L15 Kc 415 k f u (nI (slS s t c)) (nI c) w) (fun _ => k u (nI (slS s t (s 3))) (nI (s 3)) w) (s 3) (fun f => ?_) (fun f c hc ih => ?_) fu 0 (by omega) (fu_lt (by omega))
  · try dsimp only
    rw [f_X13_meanSlack_L15, x1301 h.1, Option.bind_some]
    try dsimp only
    rw [show ixa 3 170 = some 3 from rfl, Option.bind_some, h.S (by omega), if_le_t (by omega) (by omega) (Nat.le_refl _)]
  · try dsimp only at ih ⊢
    have c3 := (h.gt.c3 (i := c) (by omega)).1
    rw [f_X13_meanSlack_L15, x1301 h.1, Option.bind_some]
    try dsimp only
    rw [show ixa 3 170 = some 3 from rfl, Option.bind_some, h.S (by omega), if_le_f (by omega) (by omega) hc, show (0 : Int32) = nI 0 from rfl, show (1 : Int32) = nI 1 from rfl, m_of h (by omega) (by omega), Option.bind_some]
    try dsimp only
    rw [slS_succ] at ih
    by_cases e : cs t c 0 = 0
    · have e1 : wt t c = true := by unfold wt; rw [e]; rfl
      rw [if_eq_t e, m_slackOf h hc, Option.bind_some]
      try dsimp only
      rw [nI_add, nI_add]
      rw [e1, if_pos rfl] at ih
      exact ih
    · have e1 : wt t c = false := by unfold wt; exact beq_false_of_ne e
      rw [if_eq_f (by omega) (by omega) e, nI_add]
      rw [e1, if_neg (by decide)] at ih
      exact ih
theorem nI_nz {n : Nat} (h : n < 2 ^ 31) (h0 : n ≠ 0) : (nI n).toInt ≠ 0 := by rw [nI_toInt h]; omega
theorem b_meanSlack {w : Wd} (h : Inv w) : ∃ a w1 w2, f_X12_meanSlack Kc 0 w = some (a, w1) ∧ f_X13_meanSlack Kc 415 w1 = some (a, w2) ∧ Inv w2 ∧ Jvm.FP.Core.val64 a ≠ .nan := by
  obtain ⟨b, s, t, ⟨hx, hm, c3, c4⟩, o⟩ := id h
  have h12 := hx.gs.1.2.2.2
  have hc := cnt_le (p := wt t) (s 3)
  by_cases e : cnt (wt t) (s 3) = 0
  · refine ⟨FP.dconst0, w, sI w 1300 415 0, ?_, ?_, h.tl, d0_ok⟩
    · unfold f_X12_meanSlack
      rw [x_meanL hx, e]
      rfl
    · unfold f_X13_meanSlack
      rw [Option.bind_some, m_manyW hm.tl, Option.bind_some]
      try dsimp only
      rw [m_meanL hm.tl, e]
      rfl
  · have nn := ddiv_ok (nI (slS s t (s 3))) (nI_nz (n := cnt (wt t) (s 3)) (by omega) e)
    have ng : grd (n64 (FP.ddiv (FP.i2d (nI (slS s t (s 3)))) (FP.i2d (nI (cnt (wt t) (s 3))))) = true) = some () := by unfold grd; rw [if_pos (n64_nn nn)]
    refine ⟨_, w, sI w 1300 415 0, ?_, ?_, h.tl, nn⟩
    · unfold f_X12_meanSlack
      rw [x_meanL hx, show (0 : Int32) = nI 0 from rfl, if_eq_f (by omega) (by omega) e, ng, Option.bind_some]
    · unfold f_X13_meanSlack
      rw [Option.bind_some, m_manyW hm.tl, Option.bind_some]
      try dsimp only
      rw [m_meanL hm.tl, show (0 : Int32) = nI 0 from rfl, if_eq_f (by omega) (by omega) e, ng, Option.bind_some]
