/-! Reading a setup: reasons, the cap, holidays. -/
theorem n_hoL {w : Wd} (h : wI w 1331 415 ≠ 0) {u v z : Int32} {K : Int32 → Int32 → Int32 → Wd → Option Wd} : f_X13_readsHoliday_L29 Kc 415 K fu u v z w = K u v z w := by
  rw [show fu = 999999 + 1 from rfl, f_X13_readsHoliday_L29, n_fine h, Option.bind_some]
  split
  · rfl
  · rw [ib_f]
theorem tld_bit {s : Nat → Nat} {k : Nat} : (tld s).testBit k = decide (k < 4 ∧ s (166 + k) = 1) := by
  unfold tld
  rw [orS_bit]
  refine Bool.eq_iff_iff.mpr ?_
  rw [anyF_iff, decide_eq_true_eq]
  constructor
  · rintro ⟨c, c1, c2, c3⟩
    by_cases e : s (166 + c) = 1
    · rw [if_pos e, Nat.testBit_two_pow] at c3
      have := of_decide_eq_true c3
      subst this
      exact ⟨by omega, e⟩
    · rw [if_neg e, Nat.zero_testBit] at c3
      cases c3
  · rintro ⟨h1, h2⟩
    exact ⟨k, by omega, by omega, by rw [if_pos h2, Nat.testBit_two_pow]; exact decide_eq_true rfl⟩
theorem tld_lt {s : Nat → Nat} : tld s < 2 ^ 4 := orS_lt 4 (fun k hk => by
  split
  · exact Nat.pow_lt_pow_right (by omega) hk
  · omega)
theorem tld_up {s : Nat → Nat} {r : Nat} (hr : r < 4) : tld (ups s (166 + r) 1) = tld s ||| 2 ^ r := Nat.eq_of_testBit_eq fun k => by
  rw [Nat.testBit_or, tld_bit, tld_bit, Nat.testBit_two_pow]
  by_cases e : r = k
  · rw [decide_eq_true e, Bool.or_true, decide_eq_true_eq, ← e, ups_eq]; exact ⟨hr, rfl⟩
  · rw [decide_eq_false e, Bool.or_false, ups_ne (by omega)]
theorem GD_len {s t : Nat → Nat} {nm : Nat → Nat → List Nat} (hg : GD s t nm) {r v : Nat} (hr : r < 4) (hv : v ≤ 30) : GD (ups (ups s (166 + r) 1) (160 + r) v) (t) (nm) := by
  obtain ⟨⟨a1, a2, a3, a4, a5, a6, a7, a8⟩, hT, hZ, hN, hO, hC, hR, hK⟩ := hg
  have hs : ∀ x, (x ≠ 166 + r ∧ x ≠ 160 + r) → (ups (ups s (166 + r) 1) (160 + r) v) x = s x := fun x z => by rw [ups_ne (by omega), ups_ne (by omega)]
  refine ⟨⟨⟨?_, ?_, ?_, ?_⟩, fun r' hr' => ?_, fun o ho => ⟨?_, fun k hk => ?_⟩, fun i hi => ?_, fun i hi => ?_, fun i j hi hj => ?_, fun k hk => ?_, ?_⟩, ?_, ?_, fun k i hk hi => ?_, fun o h1 h2 => ?_, fun i h1 h2 => ?_, fun k hk => ?_, ?_⟩
  · rw [hs 0 (by omega)]; exact a1.1
  · rw [hs 1 (by omega)]; exact a1.2.1
  · rw [hs 2 (by omega)]; exact a1.2.2.1
  · rw [hs 3 (by omega)]; exact a1.2.2.2
  · rw [hs 0 (by omega)] at hr'; rw [hs (4 + r') (by omega), hs (7 + r') (by omega)]; exact a2 r' hr'
  · rw [hs 1 (by omega)] at ho; rw [hs (10 + o) (by omega)]; exact (a3 o ho).1
  · rw [hs 1 (by omega)] at ho; have := (a3 o ho).1; rw [hs (10 + o) (by omega)] at hk; rw [hs (16 + 6 * o + 2 * k) (by omega), hs (17 + 6 * o + 2 * k) (by omega)]; exact (a3 o ho).2 k hk
  · rw [hs 2 (by omega)] at hi; rw [hs (52 + i) (by omega), hs (64 + i) (by omega), hs (76 + i) (by omega)]; exact a4 i hi
  · rw [hs 3 (by omega)] at hi; rw [hs (88 + i) (by omega), hs (100 + i) (by omega), hs (112 + i) (by omega), hs (124 + i) (by omega), hs (136 + i) (by omega), hs (148 + i) (by omega), hs 2 (by omega), hs 3 (by omega)]; exact a5 i hi
  · rw [hs 3 (by omega)] at hi hj; rw [hs (148 + i) (by omega), hs (148 + j) (by omega)]; exact a6 i j hi hj
  · by_cases e : k = r
    · rw [e, ups_eq]; exact hv
    · rw [hs (160 + k) (by omega)]; exact a7 k hk
  · rw [hs 164 (by omega)]; exact a8
  · exact GT_s hT hZ (by rw [hs 1 (by omega)]; exact Nat.le_refl _)
  · exact hZ
  · have hk' := hk; rw [hs k (by omega)] at hi; exact hN k i hk hi
  · rw [hs 1 (by omega)] at h1; rw [hs (10 + o) (by omega)]; exact hO o h1 h2
  · rw [hs 3 (by omega)] at h1; rw [hs (124 + i) (by omega), hs (136 + i) (by omega), hs (148 + i) (by omega)]; exact hC i h1 h2
  · by_cases e : k = r
    · rw [e, ups_ne (by omega), ups_eq]; exact Nat.le_refl _
    · rw [hs (166 + k) (by omega)]; exact hR k hk
  · rw [hs 165 (by omega)]; exact hK
theorem GD_cap {s t : Nat → Nat} {nm : Nat → Nat → List Nat} (hg : GD s t nm) {v : Nat} (hv : v ≤ 60) : GD (ups (ups s 165 1) 164 v) (t) (nm) := by
  obtain ⟨⟨a1, a2, a3, a4, a5, a6, a7, a8⟩, hT, hZ, hN, hO, hC, hR, hK⟩ := hg
  have hs : ∀ x, (x ≠ 165 ∧ x ≠ 164) → (ups (ups s 165 1) 164 v) x = s x := fun x z => by rw [ups_ne (by omega), ups_ne (by omega)]
  refine ⟨⟨⟨?_, ?_, ?_, ?_⟩, fun r hr => ?_, fun o ho => ⟨?_, fun k hk => ?_⟩, fun i hi => ?_, fun i hi => ?_, fun i j hi hj => ?_, fun k hk => ?_, ?_⟩, ?_, ?_, fun k i hk hi => ?_, fun o h1 h2 => ?_, fun i h1 h2 => ?_, fun k hk => ?_, ?_⟩
  · rw [hs 0 (by omega)]; exact a1.1
  · rw [hs 1 (by omega)]; exact a1.2.1
  · rw [hs 2 (by omega)]; exact a1.2.2.1
  · rw [hs 3 (by omega)]; exact a1.2.2.2
  · rw [hs 0 (by omega)] at hr; rw [hs (4 + r) (by omega), hs (7 + r) (by omega)]; exact a2 r hr
  · rw [hs 1 (by omega)] at ho; rw [hs (10 + o) (by omega)]; exact (a3 o ho).1
  · rw [hs 1 (by omega)] at ho; have := (a3 o ho).1; rw [hs (10 + o) (by omega)] at hk; rw [hs (16 + 6 * o + 2 * k) (by omega), hs (17 + 6 * o + 2 * k) (by omega)]; exact (a3 o ho).2 k hk
  · rw [hs 2 (by omega)] at hi; rw [hs (52 + i) (by omega), hs (64 + i) (by omega), hs (76 + i) (by omega)]; exact a4 i hi
  · rw [hs 3 (by omega)] at hi; rw [hs (88 + i) (by omega), hs (100 + i) (by omega), hs (112 + i) (by omega), hs (124 + i) (by omega), hs (136 + i) (by omega), hs (148 + i) (by omega), hs 2 (by omega), hs 3 (by omega)]; exact a5 i hi
  · rw [hs 3 (by omega)] at hi hj; rw [hs (148 + i) (by omega), hs (148 + j) (by omega)]; exact a6 i j hi hj
  · rw [hs (160 + k) (by omega)]; exact a7 k hk
  · rw [ups_eq]; exact hv
  · exact GT_s hT hZ (by rw [hs 1 (by omega)]; exact Nat.le_refl _)
  · exact hZ
  · have hk' := hk; rw [hs k (by omega)] at hi; exact hN k i hk hi
  · rw [hs 1 (by omega)] at h1; rw [hs (10 + o) (by omega)]; exact hO o h1 h2
  · rw [hs 3 (by omega)] at h1; rw [hs (124 + i) (by omega), hs (136 + i) (by omega), hs (148 + i) (by omega)]; exact hC i h1 h2
  · rw [hs (166 + k) (by omega)]; exact hR k hk
  · rw [ups_ne (by omega), ups_eq]; exact Nat.le_refl _
theorem lk_lengthen {w0 m0 wx wm : Wd} {n : Nat} {bf : Nat → Int32} {b p0 p : Nat} {s t : Nat → Nat} {nm : Nat → Nat → List Nat} (hx : XQr w0 wx n bf b p0 p (cS s) s t nm) (hm : MQr m0 wm n bf p (cS s) s t nm) (hg : GD s t nm) : Lk w0 m0 n bf b p0 (f_X5_takesLengthen Kc 36 wx) (f_X13_readsLengthen Kc 415 wm) := by
  have bd := BD_of hg
  obtain ⟨wx1, ex1, hx1, rx1⟩ := hx.adv
  obtain ⟨wm1, em1, hm1⟩ := hm.go
  unfold f_X5_takesLengthen f_X13_readsLengthen
  rw [x500 hx.1.1, Option.bind_some, ex1, Option.bind_some, em1, Option.bind_some]
  refine lk_sees (la := 0) (lb := 3) hx1 hm1 (by omega) (by omega) rfl rfl rfl rfl (fun w => by
    try dsimp only
    repeat first | rw [ib_f] | rw [Option.bind_some]) (fun v w e hf => by
        have hz := hf.ne
        try dsimp only
        repeat (first | (rw [n_fine hz]; try dsimp only) | (rw [n_goOn hz]; try dsimp only) | (rw [n_known hz]; try dsimp only) | (rw [n_number hz]; try dsimp only) | (rw [n_laysDraft hz]; try dsimp only) | (rw [n_hoL hz]; try dsimp only) | (rw [ib_f]; try dsimp only) | (rw [Option.bind_some]; try dsimp only))) (fun e17 l1 l2 l3 x6 => ?_)
  generalize nuA n bf (enT n bf p) = r at *
  have q12 := hx1.2.2.2.2.2.2.2.2.2.2.2.2.1.1
  have tl := tld_lt (s := s)
  have hR := hg.2.2.2.2.2.2.1 r (by omega)
  try dsimp only
  rw [ib_t, x500 hx1.1.1, Option.bind_some, ck hx1.1.2.2.2.2.2.1 (kSU hx1.1.2.1), Option.bind_some, q12, x6, x_has (by omega) (by omega), Option.bind_some, hm1.1.fine, Option.bind_some]
  try dsimp only
  rw [shl_b (by omega)]
  first | rw [ib_t, x1302 hm1.1.1, Option.bind_some] | (rw [Option.bind_some]; try dsimp only; rw [ib_t, x1302 hm1.1.1, Option.bind_some])
  try dsimp only
  rw [show (166 : Int32) + nI r = nI (166 + r) from nI_add 166 r, show (160 : Int32) + nI r = nI (160 + r) from nI_add 160 r, ixa_n (by omega) (by omega), Option.bind_some, hm1.2.1.1 _ (by omega), tld_bit]
  by_cases c1 : s (166 + r) = 1
  · obtain ⟨wx5, ex5, hx5⟩ := x_fail hx1.1 (u := 3) (e := 3) rfl
    obtain ⟨wm5, em5, hm5⟩ := hm1.1.fail (u := 3) (e := 3) rfl (by omega) (by omega)
    rw [decide_eq_true (show r < 4 ∧ s (166 + r) = 1 from ⟨by omega, c1⟩), ib_t, ex5, Option.bind_some, if_neg (show ¬ nI (s (166 + r)) = 0 by rw [c1]; decide), em5, Option.bind_some, n_goOn hm5.ne, Option.bind_some, n_number hm5.ne, Option.bind_some, n_fine hm5.ne, Option.bind_some]
    exact Or.inl ⟨_, wx5, wm5, rfl, rfl, hx5, hm5⟩
  · have hx2 := XQr_rt hx1 bd (q := r) (by omega) (tld_up (s := s) (r := r) (by omega))
    obtain ⟨wx3, ex3, hx3, _⟩ := hx2.adv
    obtain ⟨wm3, em3, hm3⟩ := hm1.go
    have lt : tld s ||| 2 ^ r < 2 ^ 4 := Nat.or_lt_two_pow tl (Nat.pow_lt_pow_right (by omega) (by omega))
    have pr : 2 ^ r < 2 ^ 4 := Nat.pow_lt_pow_right (by omega) (by omega)
    rw [decide_eq_false (show ¬ (r < 4 ∧ s (166 + r) = 1) from fun z => c1 z.2), ib_f, if_pos (show nI (s (166 + r)) = 0 by rw [show s (166 + r) = 0 by omega]; rfl)]
    rw [ck hx1.1.2.2.2.2.2.1 (kSU hx1.1.2.1), Option.bind_some]
    try dsimp only
    rw [q12, or_nI (by omega) (by omega), Option.bind_some, x500 hx2.1.1, Option.bind_some, ex3, Option.bind_some, hm1.1.need, Option.bind_some, em3, Option.bind_some]
    refine lk_number (la := 0) (lb := 30) hx3 hm3 (by omega) (by omega) rfl rfl rfl rfl (fun w => by
    try dsimp only
    repeat first | rw [ib_f] | rw [Option.bind_some]) (fun v w e hf => by
        have hz := hf.ne
        try dsimp only
        repeat (first | (rw [n_fine hz]; try dsimp only) | (rw [n_goOn hz]; try dsimp only) | (rw [n_known hz]; try dsimp only) | (rw [n_number hz]; try dsimp only) | (rw [n_laysDraft hz]; try dsimp only) | (rw [n_hoL hz]; try dsimp only) | (rw [ib_f]; try dsimp only) | (rw [Option.bind_some]; try dsimp only))) (fun wx4 wm4 hx4 hm4 r4 k5 k4 j1 j2 j3 => ?_)
    generalize nuA n bf (enT n bf (enT n bf p)) = v at *
    have hx5 := XQr_rd hx4 (BD_u bd (by omega)) (q := r) (by omega) v
    have hm5 := (hm4.dS (166 + r) 1).dS (160 + r) v
    try dsimp only
    rw [ib_t, ck hx4.1.2.2.2.2.2.1 (kSU hx4.1.2.1), Option.bind_some, u911 hx4.1.1 hx4.1.2.1, Option.bind_some]
    try dsimp only
    rw [ixa_n (by omega) (by omega), Option.bind_some, k4, Option.bind_some, hm4.1.fine, Option.bind_some]
    try dsimp only
    rw [ib_t, x1302 hm4.1.1, Option.bind_some]
    try dsimp only
    rw [ixa_n (by omega) (by omega), Option.bind_some, Option.bind_some, x1302 hm4.1.1.tI, Option.bind_some]
    try dsimp only
    rw [ixa_n (by omega) (by omega), Option.bind_some, Option.bind_some]
    exact Lk.bd hx5 hm5 (GD_len hg (by omega) j2) (cS_e (by rw [ups_ne (by omega), ups_ne (by omega)]; rfl) (by rw [ups_ne (by omega), ups_ne (by omega)]; rfl) (by rw [ups_ne (by omega), ups_ne (by omega)]; rfl) (by rw [ups_ne (by omega), ups_ne (by omega)]; rfl) (by rw [ups_ne (by omega), ups_ne (by omega)]; rfl) (by rw [ups_ne (by omega), ups_ne (by omega)]; rfl) (by rw [ups_ne (by omega), ups_ne (by omega)]; rfl) (by rw [ups_ne (by omega), ups_ne (by omega)]; rfl))
theorem lk_cap {w0 m0 wx wm : Wd} {n : Nat} {bf : Nat → Int32} {b p0 p : Nat} {s t : Nat → Nat} {nm : Nat → Nat → List Nat} (hx : XQr w0 wx n bf b p0 p (cS s) s t nm) (hm : MQr m0 wm n bf p (cS s) s t nm) (hg : GD s t nm) : Lk w0 m0 n bf b p0 (f_X5_takesCap Kc 36 wx) (f_X13_readsCap Kc 415 wm) := by
  have bd := BD_of hg
  have q14 := hx.2.2.2.2.2.2.2.2.2.2.2.2.1.2.2
  have hK := hg.2.2.2.2.2.2.2
  unfold f_X5_takesCap f_X13_readsCap
  rw [ck hx.1.2.2.2.2.2.1 (kSU hx.1.2.1), Option.bind_some, q14, x1302 hm.1.1, Option.bind_some, Option.bind_some]
  try dsimp only
  rw [show ixa 165 170 = some 165 from rfl, Option.bind_some, hm.2.1.1 165 (by omega)]
  by_cases c1 : s 165 = 1
  · obtain ⟨wx5, ex5, hx5⟩ := x_fail hx.1 (u := 3) (e := 3) rfl
    obtain ⟨wm5, em5, hm5⟩ := hm.1.fail (u := 3) (e := 3) rfl (by omega) (by omega)
    rw [show (s 165 == 1) = true by rw [c1]; rfl, ib_t, ex5, Option.bind_some, if_neg (show ¬ nI (s 165) = 0 by rw [c1]; decide), em5, Option.bind_some, n_goOn hm5.ne, Option.bind_some, n_laysDraft hm5.ne, Option.bind_some, n_number hm5.ne, Option.bind_some]
    try dsimp only
    rw [n_laysDraft hm5.ne, Option.bind_some]
    exact Or.inl ⟨_, wx5, wm5, rfl, rfl, hx5, hm5⟩
  · have hx2 := XQr_kt hx bd
    obtain ⟨wx3, ex3, hx3, _⟩ := hx2.adv
    obtain ⟨wm3, em3, hm3⟩ := hm.go
    obtain ⟨el, hm4⟩ := m_lays hm3 (a := 165) (v := 1) (by omega)
    rw [show (s 165 == 1) = false by rw [show s 165 = 0 by omega]; rfl, ib_f, if_pos (show nI (s 165) = 0 by rw [show s 165 = 0 by omega]; rfl), x500 hx2.1.1, Option.bind_some, ex3, Option.bind_some, hm.1.need, Option.bind_some, em3, Option.bind_some, show f_X13_laysDraft Kc 415 165 1 wm3 = _ from el, Option.bind_some]
    refine lk_number (la := 0) (lb := 60) hx3 hm4 (by omega) (by omega) rfl rfl rfl rfl (fun w => by
    try dsimp only
    repeat first | rw [ib_f] | rw [Option.bind_some]) (fun v w e hf => by
        have hz := hf.ne
        try dsimp only
        repeat (first | (rw [n_fine hz]; try dsimp only) | (rw [n_goOn hz]; try dsimp only) | (rw [n_known hz]; try dsimp only) | (rw [n_number hz]; try dsimp only) | (rw [n_laysDraft hz]; try dsimp only) | (rw [n_hoL hz]; try dsimp only) | (rw [ib_f]; try dsimp only) | (rw [Option.bind_some]; try dsimp only))) (fun wx4 wm5 hx4 hm5 r4 k5 k4 j1 j2 j3 => ?_)
    generalize nuA n bf (enT n bf p) = v at *
    have hx5 := XQr_kv hx4 (BD_u bd (by omega)) v
    obtain ⟨el2, hm6⟩ := m_lays hm5 (a := 164) (v := v) (by omega)
    try dsimp only
    rw [ib_t, ck hx4.1.2.2.2.2.2.1 (kSU hx4.1.2.1), Option.bind_some, k4, Option.bind_some, show f_X13_laysDraft Kc 415 164 (nI v) wm5 = _ from el2, Option.bind_some]
    exact Lk.bd hx5 hm6 (GD_cap hg j2) (cS_e (by rw [ups_ne (by omega), ups_ne (by omega)]; rfl) (by rw [ups_ne (by omega), ups_ne (by omega)]; rfl) (by rw [ups_ne (by omega), ups_ne (by omega)]; rfl) (by rw [ups_ne (by omega), ups_ne (by omega)]; rfl) (by rw [ups_ne (by omega), ups_ne (by omega)]; rfl) (by rw [ups_ne (by omega), ups_ne (by omega)]; rfl) (by rw [ups_ne (by omega), ups_ne (by omega)]; rfl) (by rw [ups_ne (by omega), ups_ne (by omega)]; rfl))
theorem u_contains {w : Wd} {b : Nat} {c s t : Nat → Nat} {nm : Nat → Nat → List Nat} (hf : FX w) (hb : b ∈ SU) (h : XD w b c s t nm) {d : Nat} (hd : d < 600) : f_X2_contains Kc (b + 11) (nI d) w = some (isHol t d, w) := by
  unfold f_X2_contains
  have hbit := h.2.2.2.2.2.2.2.2.2.2.2.2.2 d hd
  simp only [il]
  simp (disch := omega) only [↓rem_nI, if_lt_f, if_le_f, Option.bind_some, u200 hf hb, div_nI, ixa_n, hbit]
  cases isHol t d <;> rfl
theorem u_add {w : Wd} {b : Nat} {c s t : Nat → Nat} {nm : Nat → Nat → List Nat} (hf : FX w) (hb : b ∈ SU) (h : XD w b c s t nm) {d : Nat} (hd : d < 600) (hh : isHol t d = false) : f_X2_add Kc (b + 11) (nI d) w = some (sI (tI w (b + 12) (d / 32) (aI w (b + 12) (d / 32) ||| nI (2 ^ (d % 32)))) 201 (b + 11) (nI (t 1 + 1))) := by
  have e32 : ∀ x, x < 600 → x / 32 < 19 := fun x hx => by omega
  unfold f_X2_add
  rw [if_neg (fun q => by have := lt0.mp q; rw [nI_toInt (by omega)] at this; omega), show (600 : Int32) = nI 600 from rfl, if_le_f (by omega) (by omega) hd, u_contains hf hb h hd, Option.bind_some, hh]
  try dsimp only
  rw [ib_f, u200 hf hb, Option.bind_some, show (32 : Int32) = nI 32 from rfl, rem_nI (by omega) (by omega) (by omega), div_nI (by omega) (by omega) (by omega)]
  try dsimp only
  rw [ixa_n (e32 d hd) (by omega), Option.bind_some, Option.bind_some, Option.bind_some, Option.bind_some, show (31 : Int32) = nI 31 from rfl, show (1 : Int32) = nI 1 from rfl, shl_nI (by omega) (by rw [Nat.one_mul]; exact Nat.pow_lt_pow_right (by omega) (by omega)), Nat.one_mul, show wI (tI w (b + 12) (d / 32) (aI w (b + 12) (d / 32) ||| nI (2 ^ (d % 32)))) 201 (b + 11) = nI (t 1) from h.2.2.2.2.2.2.2.2.2.2.2.2.1, nI_add]
theorem m_hoL {m0 wm : Wd} {n : Nat} {bf : Nat → Int32} {p : Nat} {c s t : Nat → Nat} {nm : Nat → Nat → List Nat} (hm : MQr m0 wm n bf p c s t nm) (ht : t 1 ≤ 20) (hb : ∀ k, k < t 1 → t (2 + k) < 600) {d : Nat} (hd : d < 600) {K : Int32 → Int32 → Int32 → Wd → Option Wd} : (isHol t d = false ∧ f_X13_readsHoliday_L29 Kc 415 K fu (nI (t 1)) (nI d) (nI 0) wm = K (nI (t 1)) (nI d) (nI (t 1)) wm) ∨ (isHol t d = true ∧ ∃ z wm', f_X13_readsHoliday_L29 Kc 415 K fu (nI (t 1)) (nI d) (nI 0) wm = K (nI (t 1)) (nI d) z wm' ∧ MFl m0 wm' (3, skT n bf p)) := by
  have key : ∀ r k f, k + r = t 1 → r + 1 < f → (∀ j, j < k → t (2 + j) ≠ d) → (isHol t d = false ∧ f_X13_readsHoliday_L29 Kc 415 K f (nI (t 1)) (nI d) (nI k) wm = K (nI (t 1)) (nI d) (nI (t 1)) wm) ∨ (isHol t d = true ∧ ∃ z wm', f_X13_readsHoliday_L29 Kc 415 K f (nI (t 1)) (nI d) (nI k) wm = K (nI (t 1)) (nI d) z wm' ∧ MFl m0 wm' (3, skT n bf p)) := by
    intro r
    induction r with
    | zero =>
      intro k f hk hf hj
      obtain ⟨f, rfl⟩ : ∃ g, f = g + 1 := ⟨f - 1, by omega⟩
      refine Or.inl ⟨?_, ?_⟩
      · cases e : isHol t d with
        | false => rfl
        | true =>
          obtain ⟨j, j1, j2, j3⟩ := (anyF_iff _ _).mp e
          exact absurd (by simpa using j3) (hj j (by omega))
      · rw [f_X13_readsHoliday_L29, if_le_t (by omega) (by omega) (by omega), show k = t 1 by omega]
    | succ r ih =>
      intro k f hk hf hj
      obtain ⟨f, rfl⟩ : ∃ g, f = g + 2 := ⟨f - 2, by omega⟩
      have hbk := hb k (by omega)
      rw [f_X13_readsHoliday_L29, if_le_f (by omega) (by omega) (by omega), hm.1.fine, Option.bind_some, ib_t, x1304 hm.1.1, Option.bind_some]
      try dsimp only
      rw [show (2 : Int32) + nI k = nI (2 + k) from nI_add 2 k, ixa_n (by omega) (by omega), Option.bind_some, hm.2.1.2 _ (by omega), if_neg (show ¬ (22 ≤ 2 + k ∧ 2 + k < 34) by omega), show nI k + 1 = nI (k + 1) from nI_add k 1]
      by_cases e : t (2 + k) = d
      · obtain ⟨wm5, em5, hm5⟩ := hm.1.fail (u := 3) (e := 3) rfl (by omega) (by omega)
        refine Or.inr ⟨(anyF_iff _ _).mpr ⟨k, by omega, by omega, by simp [e]⟩, nI (k + 1), wm5, ?_, hm5⟩
        rw [if_pos (show nI (t (2 + k)) = nI d by rw [e]), em5, Option.bind_some, f_X13_readsHoliday_L29, n_fine hm5.ne, Option.bind_some]
        split
        · rfl
        · rw [ib_f]
      · rw [if_neg (fun z => e ((nI_eq (by omega) (by omega)).mp z)), hm.1.need, Option.bind_some]
        exact ih (k + 1) (f + 1) (by omega) (by omega) (fun j hj2 => by
          by_cases ej : j = k
          · rw [ej]; exact e
          · exact hj j (by omega))
  exact key (t 1) 0 fu (by omega) (fu_lt (by omega)) (fun j hj => by omega)
theorem lk_holiday {w0 m0 wx wm : Wd} {n : Nat} {bf : Nat → Int32} {b p0 p : Nat} {s t : Nat → Nat} {nm : Nat → Nat → List Nat} (hx : XQr w0 wx n bf b p0 p (cS s) s t nm) (hm : MQr m0 wm n bf p (cS s) s t nm) (hg : GD s t nm) : Lk w0 m0 n bf b p0 (f_X5_takesHoliday Kc 36 wx) (f_X13_readsHoliday Kc 415 wm) := by
  have bd := BD_of hg
  have h20 := hg.2.1.2.1
  have ub := hx.1.2.1
  have q1 := hx.2.2.2.2.2.2.2.2.2.2.2.2.2.1
  unfold f_X5_takesHoliday f_X13_readsHoliday
  rw [ck hx.1.2.2.2.2.2.1 (kSU ub), Option.bind_some, u910 hx.1.1 ub, Option.bind_some, q1, x1304 hm.1.1, Option.bind_some]
  try dsimp only
  rw [show ixa 1 370 = some 1 from rfl, Option.bind_some, hm.2.1.2 1 (by omega), if_neg (show ¬ (22 ≤ 1 ∧ 1 < 34) by omega)]
  by_cases c1 : t 1 < 20
  · obtain ⟨wx1, ex1, hx1, rx1⟩ := hx.adv
    obtain ⟨wm1, em1, hm1⟩ := (m_begins hm (v := t 1) (cap := 20) (by omega) (by omega) rfl (z := 20) rfl).1 c1
    rw [if_pos (show nI (t 1) < 20 from (nI_ltI (b := 20) (by omega) (by omega)).mpr c1), x500 hx.1.1, Option.bind_some, ex1, Option.bind_some, em1, Option.bind_some]
    try dsimp only
    rw [ib_t]
    refine lk_sees (la := 0) (lb := 599) hx1 hm1 (by omega) (by omega) rfl rfl rfl rfl (fun w => by
    try dsimp only
    repeat first | rw [ib_f] | rw [Option.bind_some]) (fun v w e hf => by
        have hz := hf.ne
        try dsimp only
        repeat (first | (rw [n_fine hz]; try dsimp only) | (rw [n_goOn hz]; try dsimp only) | (rw [n_known hz]; try dsimp only) | (rw [n_number hz]; try dsimp only) | (rw [n_laysDraft hz]; try dsimp only) | (rw [n_hoL hz]; try dsimp only) | (rw [ib_f]; try dsimp only) | (rw [Option.bind_some]; try dsimp only))) (fun e17 l1 l2 l3 x6 => ?_)
    generalize nuA n bf (enT n bf p) = d at *
    try dsimp only
    rw [ib_t, ck hx1.1.2.2.2.2.2.1 (kSU ub), Option.bind_some, x500 hx1.1.1, Option.bind_some, u910 hx1.1.1 ub, Option.bind_some, x6, u_contains hx1.1.1 ub hx1.2 (by omega), Option.bind_some]
    try dsimp only
    rcases m_hoL (K := fun v1_29 v2_29 v3_29 w6 => (f_X13_goOn Kc 415 w6).bind fun q15 => (f_X13_fine Kc 415 q15).bind fun q16 => if b2i q16.1 = 0 then some q16.2 else (cha Kc 20 (wR q16.2 1304 415)).bind fun a18 => (ixa (2 + v1_29) a18.2).bind fun j19 => (some (tI q16.2 a18.1 j19 v2_29)).bind fun w20 => (cha Kc 20 (wR w20 1304 415)).bind fun a21 => (ixa 1 a21.2).bind fun j22 => (some (tI w20 a21.1 j22 (v1_29 + 1))).bind fun w23 => some w23) hm1 h20 hg.2.1.2.2.1 (d := d) (by omega) with ⟨hh, em⟩ | ⟨hh, z, wm5, em, hm5⟩
    · have hx2 := XQr_ho hx1 bd (d := d) (by omega) c1
      obtain ⟨wx3, ex3, hx3, _⟩ := hx2.adv
      obtain ⟨wm3, em3, hm3⟩ := hm1.go
      have hm4 := (hm3.dT (2 + t 1) d (z := nI d) (by rw [if_neg (by omega)])).dT 1 (t 1 + 1) (z := nI (t 1 + 1)) (by rw [if_neg (by omega)])
      rw [show f_X13_readsHoliday_L29 Kc 415 _ fu (nI (t 1)) (nI d) 0 wm1 = _ from em]
      try dsimp only
      rw [hh, ib_f, ck hx1.1.2.2.2.2.2.1 (kSU ub), Option.bind_some, x500 hx1.1.1, Option.bind_some, u910 hx1.1.1 ub, Option.bind_some, x6, u_add hx1.1.1 ub hx1.2 (by omega) hh, Option.bind_some, x500 hx2.1.1, Option.bind_some, ex3, Option.bind_some, em3, Option.bind_some, hm3.1.fine, Option.bind_some]
      try dsimp only
      rw [ib_t, x1304 hm3.1.1, Option.bind_some]
      try dsimp only
      rw [show (2 : Int32) + nI (t 1) = nI (2 + t 1) from nI_add 2 (t 1), ixa_n (by omega) (by omega), Option.bind_some, Option.bind_some, x1304 hm3.1.1.tI, Option.bind_some]
      try dsimp only
      rw [show ixa 1 370 = some 1 from rfl, Option.bind_some, Option.bind_some, show nI (t 1) + 1 = nI (t 1 + 1) from nI_add (t 1) 1]
      have nz : ∀ k, k ≠ 1 → (k < 2 ∨ 22 ≤ k) → hoT t d k = t k := fun k k1 k2 => hoT_ne k1 (by omega)
      exact Lk.bd hx3 hm4 ⟨hg.1, hoT_good hg.2.1 (by omega) c1 hh, ⟨by rw [nz 0 (by omega) (by omega)]; exact hg.2.2.1.1, fun k k1 k2 => by rw [nz k (by omega) (by omega)]; exact hg.2.2.1.2 k k1 k2⟩, hg.2.2.2⟩ (fun _ _ => rfl)
    · obtain ⟨wx5, ex5, hx5⟩ := x_fail hx1.1 (u := 3) (e := 3) rfl
      rw [show f_X13_readsHoliday_L29 Kc 415 _ fu (nI (t 1)) (nI d) 0 wm1 = _ from em]
      try dsimp only
      rw [hh, ib_t, ex5, Option.bind_some, n_goOn hm5.ne, Option.bind_some, n_fine hm5.ne, Option.bind_some]
      try dsimp only
      rw [ib_f]
      exact Or.inl ⟨_, wx5, wm5, rfl, rfl, hx5, hm5⟩
  · obtain ⟨wx5, ex5, hx5⟩ := x_fail hx.1 (u := 4) (e := 4) rfl
    obtain ⟨wm5, em5, hm5⟩ := (m_begins hm (v := t 1) (cap := 20) (by omega) (by omega) rfl (z := 20) rfl).2 c1
    rw [if_neg (show ¬ nI (t 1) < 20 from fun z => c1 ((nI_ltI (b := 20) (by omega) (by omega)).mp z)), ex5, Option.bind_some, em5, Option.bind_some]
    try dsimp only
    rw [ib_f]
    exact Or.inl ⟨_, wx5, wm5, rfl, rfl, hx5, hm5⟩
