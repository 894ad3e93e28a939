variable {X : Kd}
theorem tld_bit {s : Nat → Nat} {k : Nat} : (tld s).testBit k = decide (k < 4 ∧ s (166 + k) = 1) := by
  unfold tld
  rw [orS_bit]
  refine Bool.eq_iff_iff.mpr ?_
  rw [anyF_iff, decide_eq_true_eq]
  constructor
  · rintro ⟨c, c1, c2, c3⟩
    by_cases e : s (166 + c) = 1
    · rw [if_pos e, Nat.testBit_two_pow] at c3
      have := of_decide_eq_true c3
      subst this
      exact ⟨by omega, e⟩
    · rw [if_neg e, Nat.zero_testBit] at c3
      cases c3
  · rintro ⟨h1, h2⟩
    exact ⟨k, by omega, by omega, by rw [if_pos h2, Nat.testBit_two_pow]; exact decide_eq_true rfl⟩
theorem tld_lt {s : Nat → Nat} : tld s < 2 ^ 4 := orS_lt 4 (fun k hk => by
  split
  · exact Nat.pow_lt_pow_right (by omega) hk
  · omega)
theorem tld_up {s : Nat → Nat} {r : Nat} (hr : r < 4) : tld (ups s (166 + r) 1) = tld s ||| 2 ^ r := Nat.eq_of_testBit_eq fun k => by
  rw [Nat.testBit_or, tld_bit, tld_bit, Nat.testBit_two_pow]
  by_cases e : r = k
  · rw [decide_eq_true e, Bool.or_true, decide_eq_true_eq, ← e, ups_eq]; exact ⟨hr, rfl⟩
  · rw [decide_eq_false e, Bool.or_false, ups_ne (by omega)]
theorem GD_len {s t : Nat → Nat} {nm : Nat → Nat → List Nat} (hg : GD s t nm) {r v : Nat} (hr : r < 4) (hv : v ≤ 30) : GD (ups (ups s (166 + r) 1) (160 + r) v) (t) (nm) := by
  obtain ⟨⟨a1, a2, a3, a4, a5, a6, a7, a8⟩, hT, hZ, hN, hO, hC, hR, hK⟩ := hg
  have hs : ∀ x, (x ≠ 166 + r ∧ x ≠ 160 + r) → (ups (ups s (166 + r) 1) (160 + r) v) x = s x := fun x z => by rw [ups_ne (by omega), ups_ne (by omega)]
  refine ⟨⟨⟨?_, ?_, ?_, ?_⟩, fun r' hr' => ?_, fun o ho => ⟨?_, fun k hk => ?_⟩, fun i hi => ?_, fun i hi => ?_, fun i j hi hj => ?_, fun k hk => ?_, ?_⟩, ?_, ?_, fun k i hk hi => ?_, fun o h1 h2 => ?_, fun i h1 h2 => ?_, fun k hk => ?_, ?_⟩
  · rw [hs 0 (by omega)]; exact a1.1
  · rw [hs 1 (by omega)]; exact a1.2.1
  · rw [hs 2 (by omega)]; exact a1.2.2.1
  · rw [hs 3 (by omega)]; exact a1.2.2.2
  · rw [hs 0 (by omega)] at hr'; rw [hs (4 + r') (by omega), hs (7 + r') (by omega)]; exact a2 r' hr'
  · rw [hs 1 (by omega)] at ho; rw [hs (10 + o) (by omega)]; exact (a3 o ho).1
  · rw [hs 1 (by omega)] at ho; have := (a3 o ho).1; rw [hs (10 + o) (by omega)] at hk; rw [hs (16 + 6 * o + 2 * k) (by omega), hs (17 + 6 * o + 2 * k) (by omega)]; exact (a3 o ho).2 k hk
  · rw [hs 2 (by omega)] at hi; rw [hs (52 + i) (by omega), hs (64 + i) (by omega), hs (76 + i) (by omega)]; exact a4 i hi
  · rw [hs 3 (by omega)] at hi; rw [hs (88 + i) (by omega), hs (100 + i) (by omega), hs (112 + i) (by omega), hs (124 + i) (by omega), hs (136 + i) (by omega), hs (148 + i) (by omega), hs 2 (by omega), hs 3 (by omega)]; exact a5 i hi
  · rw [hs 3 (by omega)] at hi hj; rw [hs (148 + i) (by omega), hs (148 + j) (by omega)]; exact a6 i j hi hj
  · by_cases e : k = r
    · rw [e, ups_eq]; exact hv
    · rw [hs (160 + k) (by omega)]; exact a7 k hk
  · rw [hs 164 (by omega)]; exact a8
  · exact GT_s hT hZ (by rw [hs 1 (by omega)]; exact Nat.le_refl _)
  · exact hZ
  · have hk' := hk; rw [hs k (by omega)] at hi; exact hN k i hk hi
  · rw [hs 1 (by omega)] at h1; rw [hs (10 + o) (by omega)]; exact hO o h1 h2
  · rw [hs 3 (by omega)] at h1; rw [hs (124 + i) (by omega), hs (136 + i) (by omega), hs (148 + i) (by omega)]; exact hC i h1 h2
  · by_cases e : k = r
    · rw [e, ups_ne (by omega), ups_eq]; exact Nat.le_refl _
    · rw [hs (166 + k) (by omega)]; exact hR k hk
  · rw [hs 165 (by omega)]; exact hK
theorem GD_cap {s t : Nat → Nat} {nm : Nat → Nat → List Nat} (hg : GD s t nm) {v : Nat} (hv : v ≤ 60) : GD (ups (ups s 165 1) 164 v) (t) (nm) := by
  obtain ⟨⟨a1, a2, a3, a4, a5, a6, a7, a8⟩, hT, hZ, hN, hO, hC, hR, hK⟩ := hg
  have hs : ∀ x, (x ≠ 165 ∧ x ≠ 164) → (ups (ups s 165 1) 164 v) x = s x := fun x z => by rw [ups_ne (by omega), ups_ne (by omega)]
  refine ⟨⟨⟨?_, ?_, ?_, ?_⟩, fun r hr => ?_, fun o ho => ⟨?_, fun k hk => ?_⟩, fun i hi => ?_, fun i hi => ?_, fun i j hi hj => ?_, fun k hk => ?_, ?_⟩, ?_, ?_, fun k i hk hi => ?_, fun o h1 h2 => ?_, fun i h1 h2 => ?_, fun k hk => ?_, ?_⟩
  · rw [hs 0 (by omega)]; exact a1.1
  · rw [hs 1 (by omega)]; exact a1.2.1
  · rw [hs 2 (by omega)]; exact a1.2.2.1
  · rw [hs 3 (by omega)]; exact a1.2.2.2
  · rw [hs 0 (by omega)] at hr; rw [hs (4 + r) (by omega), hs (7 + r) (by omega)]; exact a2 r hr
  · rw [hs 1 (by omega)] at ho; rw [hs (10 + o) (by omega)]; exact (a3 o ho).1
  · rw [hs 1 (by omega)] at ho; have := (a3 o ho).1; rw [hs (10 + o) (by omega)] at hk; rw [hs (16 + 6 * o + 2 * k) (by omega), hs (17 + 6 * o + 2 * k) (by omega)]; exact (a3 o ho).2 k hk
  · rw [hs 2 (by omega)] at hi; rw [hs (52 + i) (by omega), hs (64 + i) (by omega), hs (76 + i) (by omega)]; exact a4 i hi
  · rw [hs 3 (by omega)] at hi; rw [hs (88 + i) (by omega), hs (100 + i) (by omega), hs (112 + i) (by omega), hs (124 + i) (by omega), hs (136 + i) (by omega), hs (148 + i) (by omega), hs 2 (by omega), hs 3 (by omega)]; exact a5 i hi
  · rw [hs 3 (by omega)] at hi hj; rw [hs (148 + i) (by omega), hs (148 + j) (by omega)]; exact a6 i j hi hj
  · rw [hs (160 + k) (by omega)]; exact a7 k hk
  · rw [ups_eq]; exact hv
  · exact GT_s hT hZ (by rw [hs 1 (by omega)]; exact Nat.le_refl _)
  · exact hZ
  · have hk' := hk; rw [hs k (by omega)] at hi; exact hN k i hk hi
  · rw [hs 1 (by omega)] at h1; rw [hs (10 + o) (by omega)]; exact hO o h1 h2
  · rw [hs 3 (by omega)] at h1; rw [hs (124 + i) (by omega), hs (136 + i) (by omega), hs (148 + i) (by omega)]; exact hC i h1 h2
  · rw [hs (166 + k) (by omega)]; exact hR k hk
  · rw [ups_ne (by omega), ups_eq]; exact Nat.le_refl _
theorem u_contains {w : Wd} {b : Nat} {c s t : Nat → Nat} {nm : Nat → Nat → List Nat} (hf : FX w) (hb : b ∈ SU) (h : XD w b c s t nm) {d : Nat} (hd : d < 600) : f_X2_contains (Kx X) (b + 11) (nI d) w = some (isHol t d, w) := by
  unfold f_X2_contains
  have hbit := h.2.2.2.2.2.2.2.2.2.2.2.2.2 d hd
  simp only [il]
  simp (disch := omega) only [↓rem_nI, if_lt_f, if_le_f, Option.bind_some, u200 hf hb, div_nI, ixa_n, hbit]
  cases isHol t d <;> rfl
theorem u_add {w : Wd} {b : Nat} {c s t : Nat → Nat} {nm : Nat → Nat → List Nat} (hf : FX w) (hb : b ∈ SU) (h : XD w b c s t nm) {d : Nat} (hd : d < 600) (hh : isHol t d = false) : f_X2_add (Kx X) (b + 11) (nI d) w = some (sI (tI w (b + 12) (d / 32) (aI w (b + 12) (d / 32) ||| nI (2 ^ (d % 32)))) 201 (b + 11) (nI (t 1 + 1))) := by
  have e32 : ∀ x, x < 600 → x / 32 < 19 := fun x hx => by omega
  unfold f_X2_add
  rw [if_neg (fun q => by have := lt0.mp q; rw [nI_toInt (by omega)] at this; omega), show (600 : Int32) = nI 600 from rfl, if_le_f (by omega) (by omega) hd, u_contains hf hb h hd, Option.bind_some, hh]
  try dsimp only
  rw [ib_f, u200 hf hb, Option.bind_some, show (32 : Int32) = nI 32 from rfl, rem_nI (by omega) (by omega) (by omega), div_nI (by omega) (by omega) (by omega)]
  try dsimp only
  rw [ixa_n (e32 d hd) (by omega), Option.bind_some, Option.bind_some, Option.bind_some, Option.bind_some, show (31 : Int32) = nI 31 from rfl, show (1 : Int32) = nI 1 from rfl, shl_nI (by omega) (by rw [Nat.one_mul]; exact Nat.pow_lt_pow_right (by omega) (by omega)), Nat.one_mul, show wI (tI w (b + 12) (d / 32) (aI w (b + 12) (d / 32) ||| nI (2 ^ (d % 32)))) 201 (b + 11) = nI (t 1) from h.2.2.2.2.2.2.2.2.2.2.2.2.1, nI_add]
