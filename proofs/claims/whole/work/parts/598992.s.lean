/-! Reading a setup: cases. -/
def NDI (s0 : Nat → Nat) (k : Nat) (s : Nat → Nat) : Prop := (∀ x, x ≠ 136 + k → s x = s0 x) ∧ s (136 + k) < 2 ^ s0 2
theorem n_ndL {w : Wd} (h : wI w 1331 415 ≠ 0) {f : Nat} {v : Int32} {K : Int32 → Wd → Option Wd} : f_X13_readsCase_L108 Kc 415 K (f + 1) v w = K v w := by
  rw [f_X13_readsCase_L108, n_isWord h, Option.bind_some, ib_f]
theorem n_ndF {w : Wd} (h : wI w 1331 415 ≠ 0) {v : Int32} {K : Int32 → Wd → Option Wd} : f_X13_readsCase_L108 Kc 415 K fu v w = K v w := n_ndL h (f := 999999)
theorem pop_ins {u i : Nat} (h : u.testBit i = false) (hi : i < 31) : popN (u ||| 2 ^ i) = popN u + 1 := by
  have e1 : (u ||| 2 ^ i).testBit i = true := by rw [Nat.testBit_or, Nat.testBit_two_pow, decide_eq_true (rfl : i = i), Bool.or_true]
  rw [← pop_rm e1 hi]
  refine congrArg (fun z => popN z + 1) (Nat.eq_of_testBit_eq fun k => ?_)
  rw [dfN_bit, Nat.testBit_or, Nat.testBit_two_pow]
  by_cases e : i = k
  · rw [decide_eq_true e, ← e, h]; rfl
  · rw [decide_eq_false e, Bool.or_false, Bool.not_false, Bool.and_true]
theorem lk_ndL {w0 m0 : Wd} {n : Nat} {bf : Nat → Int32} {b p0 k : Nat} {s0 c1 t : Nat → Nat} {nm : Nat → Nat → List Nat} (hk : k < 12) (hc2 : c1 2 = s0 2) (g : (s0 0 ≤ 3 ∧ s0 1 ≤ 6 ∧ s0 2 ≤ 12 ∧ s0 3 ≤ 12) ∧ (∀ o, o < 6 → s0 (10 + o) ≤ 3) ∧ c1 4 ≤ 12) (hN : ∀ i, i < c1 2 → NmOK (nm 2 i)) {mt : Option Nat} (hmt : chk Kc 2 mt = some (b + 22 + k)) (FIN : ∀ s wx wm p, XQr w0 wx n bf b p0 p c1 s t nm → MQr m0 wm n bf p c1 s t nm → NDI s0 k s → Lk w0 m0 n bf b p0 (some (true, wx)) ((f_X13_laysDraft Kc 415 3 (nI k + 1) wm).bind fun q19 => some q19)) : ∀ d s p wx wm f1 f2, popN (s (136 + k)) + d = 4 → d < f1 → d + 1 < f2 → NDI s0 k s → XQr w0 wx n bf b p0 p c1 s t nm → MQr m0 wm n bf p c1 s t nm → Lk w0 m0 n bf b p0 (f_X5_takesNeeds_L2 Kc 36 (fun _ _ w1 => some (true, w1)) f1 mt (nI (popN (s (136 + k)))) wx) (f_X13_readsCase_L108 Kc 415 (fun v1_108 w16 => (f_X13_laysDraft Kc 415 3 (v1_108 + 1) w16).bind fun q20 => some q20) f2 (nI k) wm) := by
  intro d
  have p12 : 2 ^ s0 2 ≤ 2 ^ 12 := Nat.pow_le_pow_right (by omega) (by omega)
  induction d with
  | zero =>
    intro s p wx wm f1 f2 hd hf1 hf2 ho hx hm
    obtain ⟨f1, rfl⟩ : ∃ q, f1 = q + 1 := ⟨f1 - 1, by omega⟩
    obtain ⟨f2, rfl⟩ : ∃ q, f2 = q + 2 := ⟨f2 - 2, by omega⟩
    have hu := ho.2
    have mw : f_X13_isWord Kc 415 11 wm = some (decide (ktT n bf p = 11), wm) := m_isWord hm.1 (i := 11) (by omega)
    rw [f_X5_takesNeeds_L2, x500 hx.1.1, Option.bind_some, hx.1.2.2.2.2.1.2.2.1, tk_B, Option.bind_some, f_X13_readsCase_L108, mw, Option.bind_some]
    try dsimp only
    by_cases e : ktT n bf p = 11
    · obtain ⟨wx2, ex2, hx2⟩ := x_fail hx.1 (u := 4) (e := 4) rfl
      obtain ⟨wm2, em2, hm2⟩ := (m_begins hm (v := popN (s (136 + k))) (cap := 4) (by omega) (by omega) rfl (z := 4) rfl).2 (by omega)
      rw [if_pos (show some (ktT n bf p) = some 11 by rw [e]), show (4 : Int32) = nI 4 from rfl, if_lt_f (by omega) (by omega) (by omega), show nI 4 = (4 : Int32) from rfl, ex2, Option.bind_some, decide_eq_true e, ib_t]
      unfold f_X13_readsNeeds
      rw [x1302 hm.1.1, Option.bind_some]
      try dsimp only
      rw [show (136 : Int32) + nI k = nI (136 + k) from nI_add 136 k, ixa_n (by omega) (by omega), Option.bind_some, hm.2.1.1 _ (by omega), m_bits (by omega), Option.bind_some]
      try dsimp only
      rw [em2, Option.bind_some]
      try dsimp only
      rw [ib_f, Option.bind_some, n_ndL hm2.ne]
      try dsimp only
      rw [n_laysDraft hm2.ne, Option.bind_some]
      exact Or.inl ⟨_, wx2, wm2, rfl, rfl, hx2, hm2⟩
    · rw [if_neg (show ¬ some (ktT n bf p) = some 11 from fun z => e (by injection z)), decide_eq_false e, ib_f]
      exact FIN s wx wm p hx hm ho
  | succ d ih =>
    intro s p wx wm f1 f2 hd hf1 hf2 ho hx hm
    obtain ⟨f1, rfl⟩ : ∃ q, f1 = q + 1 := ⟨f1 - 1, by omega⟩
    obtain ⟨f2, rfl⟩ : ∃ q, f2 = q + 2 := ⟨f2 - 2, by omega⟩
    have hu := ho.2
    have mw : f_X13_isWord Kc 415 11 wm = some (decide (ktT n bf p = 11), wm) := m_isWord hm.1 (i := 11) (by omega)
    rw [f_X5_takesNeeds_L2, x500 hx.1.1, Option.bind_some, hx.1.2.2.2.2.1.2.2.1, tk_B, Option.bind_some, f_X13_readsCase_L108, mw, Option.bind_some]
    try dsimp only
    by_cases e : ktT n bf p = 11
    · obtain ⟨wx2, ex2, hx2, rx2⟩ := hx.adv
      obtain ⟨wm2, em2, hm2⟩ := (m_begins hm (v := popN (s (136 + k))) (cap := 4) (by omega) (by omega) rfl (z := 4) rfl).1 (by omega)
      rw [if_pos (show some (ktT n bf p) = some 11 by rw [e]), show (4 : Int32) = nI 4 from rfl, if_lt_t (by omega) (by omega) (by omega), ex2, Option.bind_some, decide_eq_true e, ib_t]
      unfold f_X13_readsNeeds
      rw [x1302 hm.1.1, Option.bind_some]
      try dsimp only
      rw [show (136 : Int32) + nI k = nI (136 + k) from nI_add 136 k, ixa_n (by omega) (by omega), Option.bind_some, hm.2.1.1 _ (by omega), m_bits (by omega), Option.bind_some]
      try dsimp only
      rw [em2, Option.bind_some]
      try dsimp only
      rw [ib_t, x1302 hm2.1.1, Option.bind_some]
      try dsimp only
      rw [show ixa 2 170 = some 2 from rfl, Option.bind_some, hm2.2.1.1 2 (by omega), Option.bind_assoc]
      refine lk_known (q := 2) (by omega) hx2 hm2 (by rw [hc2]; exact g.1.2.2.1) hN rfl (by rw [hc2, ho.1 2 (by omega)]) rfl (fun w => by
    try dsimp only
    repeat first | rw [ib_f] | rw [Option.bind_some]) (fun v w e hf => by
        have hz := hf.ne
        try dsimp only
        repeat (first | (rw [n_fine hz]; try dsimp only) | (rw [n_goOn hz]; try dsimp only) | (rw [n_ndL hz]; try dsimp only) | (rw [n_laysDraft hz]; try dsimp only) | (rw [ib_f]; try dsimp only) | (rw [Option.bind_some]; try dsimp only))) (fun wx3 i hi e16 hx3 k4 => ?_)
      rw [hc2] at hi
      have q3 := (hx3.2.2.2.2.2.2.2.2.2.2.1 k hk).2.1
      have i12 : i < 12 := by omega
      try dsimp only
      rw [ib_t, hmt, Option.bind_some, q3, k4, x_has (by omega) (by omega), Option.bind_some, hm2.1.fine, Option.bind_some, Option.bind_some]
      try dsimp only
      rw [ib_t, x1302 hm2.1.1, Option.bind_some]
      try dsimp only
      rw [ixa_n (by omega) (by omega), Option.bind_some, hm2.2.1.1 _ (by omega), m_has (by omega) (by omega), Option.bind_some]
      try dsimp only
      have pi : 2 ^ i < 2 ^ s0 2 := Nat.pow_lt_pow_right (by omega) hi
      have shl1 : (1 : Int32) <<< (nI i &&& 31) = nI (2 ^ i) := by
        rw [show (1 : Int32) = nI 1 from rfl, show (31 : Int32) = nI 31 from rfl, shl_nI (by omega) (by omega), Nat.one_mul]
      cases eb : (s (136 + k)).testBit i with
      | true =>
        obtain ⟨wx4, ex4, hx4⟩ := x_fail hx3.1 (u := 3) (e := 3) rfl
        obtain ⟨wm4, em4, hm4⟩ := hm2.1.fail (u := 3) (e := 3) rfl (by omega) (by omega)
        rw [ib_t, ib_t, ex4, Option.bind_some, em4, Option.bind_some, n_goOn hm4.ne, Option.bind_some, n_fine hm4.ne, Option.bind_some]
        try dsimp only
        rw [ib_f, Option.bind_some, n_ndL hm4.ne]
        try dsimp only
        rw [n_laysDraft hm4.ne, Option.bind_some]
        exact Or.inl ⟨_, wx4, wm4, rfl, rfl, hx4, hm4⟩
      | false =>
        have bs : BD c1 s := ⟨⟨by rw [ho.1 0 (by omega)]; omega, by rw [ho.1 1 (by omega)]; omega, by rw [ho.1 2 (by omega)]; omega, by rw [ho.1 3 (by omega)]; omega⟩, fun o h6 => by rw [ho.1 (10 + o) (by omega)]; exact g.2.1 o h6, g.2.2⟩
        have hx5 := XQr_cn hx3 bs hk (s (136 + k) ||| 2 ^ i)
        obtain ⟨wx6, ex6, hx6, _⟩ := hx5.adv
        obtain ⟨wm5, em5, hm5⟩ := hm2.go
        have hm6 := hm5.dS (136 + k) (s (136 + k) ||| 2 ^ i)
        have lt : s (136 + k) ||| 2 ^ i < 2 ^ s0 2 := Nat.or_lt_two_pow hu pi
        rw [ib_f, ib_f, q3, k4, shl1, or_nI (by omega) (by omega), x500 hx5.1.1, Option.bind_some, ex6, Option.bind_some, hm2.1.need, Option.bind_some, em5, Option.bind_some, hm5.1.fine, Option.bind_some]
        try dsimp only
        rw [ib_t, x1302 hm5.1.1, Option.bind_some]
        try dsimp only
        rw [ixa_n (by omega) (by omega), Option.bind_some, Option.bind_some, hm5.2.1.1 _ (by omega), or_nI (by omega) (by omega), Option.bind_some, Option.bind_some, show nI (popN (s (136 + k))) + 1 = nI (popN (s (136 + k)) + 1) from nI_add _ 1]
        have r1 : ups s (136 + k) (s (136 + k) ||| 2 ^ i) (136 + k) = s (136 + k) ||| 2 ^ i := ups_eq
        have pn := pop_ins eb (by omega)
        have := ih (ups s (136 + k) (s (136 + k) ||| 2 ^ i)) _ _ _ f1 (f2 + 1) (by rw [r1, pn]; omega) (by omega) (by omega) ⟨fun x x1 => by rw [ups_ne x1]; exact ho.1 x x1, by rw [r1]; exact lt⟩ hx6 hm6
        rw [r1, pn] at this
        exact this
    · rw [if_neg (show ¬ some (ktT n bf p) = some 11 from fun z => e (by injection z)), decide_eq_false e, ib_f]
      exact FIN s wx wm p hx hm ho
theorem GD_cas {s t : Nat → Nat} {nm : Nat → Nat → List Nat} (hg : GD s t nm) (h0 : s 3 < 12) {v1 v2 v3 v4 : Nat} (l1 : v1 ≤ 99) (l2 : 1 ≤ v2 ∧ v2 ≤ 4) (l3 : 1 ≤ v3 ∧ v3 ≤ 60) (l4 : v4 ≤ 1) {s' : Nat → Nat} (hof : NDI (ups (ups (ups (ups s (88 + s 3) v1) (100 + s 3) v2) (112 + s 3) v3) (124 + s 3) v4) (s 3) s') {l : List Nat} (hl : NmOK l) : GD (ups s' 3 (s 3 + 1)) (t) (nmU nm 3 (s 3) l) := by
  obtain ⟨⟨a1, a2, a3, a4, a5, a6, a7, a8⟩, hT, hZ, hN, hO, hC, hR, hK⟩ := hg
  have hs : ∀ x, (x ≠ 3 ∧ x ≠ 88 + s 3 ∧ x ≠ 100 + s 3 ∧ x ≠ 112 + s 3 ∧ x ≠ 124 + s 3 ∧ x ≠ 136 + s 3) → (ups s' 3 (s 3 + 1)) x = s x := fun x z => by rw [ups_ne (by omega), hof.1 x (by omega), ups_ne (by omega), ups_ne (by omega), ups_ne (by omega), ups_ne (by omega)]
  refine ⟨⟨⟨?_, ?_, ?_, ?_⟩, fun r hr => ?_, fun o ho => ⟨?_, fun k hk => ?_⟩, fun i hi => ?_, fun i hi => ?_, fun i j hi hj => ?_, fun k hk => ?_, ?_⟩, ?_, ?_, fun k i hk hi => ?_, fun o h1 h2 => ?_, fun i h1 h2 => ?_, fun k hk => ?_, ?_⟩
  · rw [hs 0 (by omega)]; exact a1.1
  · rw [hs 1 (by omega)]; exact a1.2.1
  · rw [hs 2 (by omega)]; exact a1.2.2.1
  · rw [ups_eq]; omega
  · rw [hs 0 (by omega)] at hr; rw [hs (4 + r) (by omega), hs (7 + r) (by omega)]; exact a2 r hr
  · rw [hs 1 (by omega)] at ho; rw [hs (10 + o) (by omega)]; exact (a3 o ho).1
  · rw [hs 1 (by omega)] at ho; have := (a3 o ho).1; rw [hs (10 + o) (by omega)] at hk; rw [hs (16 + 6 * o + 2 * k) (by omega), hs (17 + 6 * o + 2 * k) (by omega)]; exact (a3 o ho).2 k hk
  · rw [hs 2 (by omega)] at hi; rw [hs (52 + i) (by omega), hs (64 + i) (by omega), hs (76 + i) (by omega)]; exact a4 i hi
  · rw [ups_eq] at hi
    rw [hs 2 (by omega), ups_eq]
    by_cases e : i = s 3
    · have h5 := hof.2
      rw [ups_ne (by omega), ups_ne (by omega), ups_ne (by omega), ups_ne (by omega)] at h5
      have cz := (hC (s 3) (Nat.le_refl _) h0).2.2
      have e1 : ups s' 3 (s 3 + 1) (88 + s 3) = v1 := by rw [ups_ne (by omega), hof.1 _ (by omega), ups_ne (by omega), ups_ne (by omega), ups_ne (by omega), ups_eq]
      have e2 : ups s' 3 (s 3 + 1) (100 + s 3) = v2 := by rw [ups_ne (by omega), hof.1 _ (by omega), ups_ne (by omega), ups_ne (by omega), ups_eq]
      have e3 : ups s' 3 (s 3 + 1) (112 + s 3) = v3 := by rw [ups_ne (by omega), hof.1 _ (by omega), ups_ne (by omega), ups_eq]
      have e4 : ups s' 3 (s 3 + 1) (124 + s 3) = v4 := by rw [ups_ne (by omega), hof.1 _ (by omega), ups_eq]
      rw [e, e1, e2, e3, e4, ups_ne (by omega), hs (148 + s 3) (by omega), cz]
      exact ⟨l1, l2, l3, l4, h5, Nat.two_pow_pos _, Nat.zero_testBit _⟩
    · rw [hs (88 + i) (by omega), hs (100 + i) (by omega), hs (112 + i) (by omega), hs (124 + i) (by omega), hs (136 + i) (by omega), hs (148 + i) (by omega)]
      obtain ⟨q1, q2, q3, q4, q5, q6, q7⟩ := a5 i (by omega)
      exact ⟨q1, q2, q3, q4, q5, Nat.lt_of_lt_of_le q6 (Nat.pow_le_pow_right (by omega) (by omega)), q7⟩
  · rw [ups_eq] at hi hj
    rw [hs (148 + i) (by omega), hs (148 + j) (by omega)]
    have cz := (hC (s 3) (Nat.le_refl _) h0).2.2
    have hb : ∀ x, x < s 3 → (s (148 + x)).testBit (s 3) = false := fun x hx => by
      cases q : (s (148 + x)).testBit (s 3) with
      | false => rfl
      | true => exact absurd (bit12 (a5 x hx).2.2.2.2.2.1 q) (Nat.lt_irrefl _)
    by_cases e : i = s 3
    · by_cases e2 : j = s 3
      · rw [e, e2]
      · rw [e, cz, Nat.zero_testBit, hb j (by omega)]
    · by_cases e2 : j = s 3
      · rw [e2, cz, Nat.zero_testBit, hb i (by omega)]
      · exact a6 i j (by omega) (by omega)
  · rw [hs (160 + k) (by omega)]; exact a7 k hk
  · rw [hs 164 (by omega)]; exact a8
  · exact GT_s hT hZ (by rw [hs 1 (by omega)]; exact Nat.le_refl _)
  · exact hZ
  · by_cases e : k = 3
    · rw [e, ups_eq] at hi
      by_cases e2 : i = s 3
      · rw [e, e2, nmU_eq]; exact hl
      · rw [nmU_ne (fun z => e2 z.2), e]; exact hN 3 i (by omega) (by omega)
    · rw [hs k (by omega)] at hi
      rw [nmU_ne (fun z => e z.1)]; exact hN k i hk hi
  · rw [hs 1 (by omega)] at h1; rw [hs (10 + o) (by omega)]; exact hO o h1 h2
  · rw [ups_eq] at h1; rw [hs (124 + i) (by omega), hs (136 + i) (by omega), hs (148 + i) (by omega)]; exact hC i (by omega) h2
  · rw [hs (166 + k) (by omega)]; exact hR k hk
  · rw [hs 165 (by omega)]; exact hK
theorem BD_u {c s : Nat → Nat} {a v : Nat} (h : BD c s) (ha : 4 ≤ a ∧ (a < 10 ∨ 16 ≤ a)) : BD c (ups s a v) := ⟨by rw [ups_ne (show 0 ≠ a by omega), ups_ne (show 1 ≠ a by omega), ups_ne (show 2 ≠ a by omega), ups_ne (show 3 ≠ a by omega)]; exact h.1, fun o ho => by rw [ups_ne (by omega)]; exact h.2.1 o ho, h.2.2⟩
theorem BD_c {c c2 s : Nat → Nat} (h : BD c s) (h4 : c2 4 ≤ 12) : BD c2 s := ⟨h.1, h.2.1, h4⟩
theorem bind_pr {r : Option (Bool × Wd)} : (r.bind fun q => some (q.1, q.2)) = r := by
  cases r <;> rfl
theorem lk_case {w0 m0 wx wm : Wd} {n : Nat} {bf : Nat → Int32} {b p0 p : Nat} {s t : Nat → Nat} {nm : Nat → Nat → List Nat} (hx : XQr w0 wx n bf b p0 p (cS s) s t nm) (hm : MQr m0 wm n bf p (cS s) s t nm) (hg : GD s t nm) : Lk w0 m0 n bf b p0 (f_X5_takesCase Kc 36 wx) (f_X13_readsCase Kc 415 wm) := by
  have bd := BD_of hg
  have g3 := hg.1.1.2.2.2
  unfold f_X5_takesCase f_X13_readsCase f_X13_numberBehind
  rw [x1302 hm.1.1, Option.bind_some]
  try dsimp only
  rw [show ixa 3 170 = some 3 from rfl, Option.bind_some, hm.2.1.1 3 (by omega)]
  refine lk_newName (q := 3) (by omega) hx hm bd g3 (fun i hi => hg.2.2.2.1 3 i (by omega) hi) rfl rfl rfl rfl (fun w => by
    try dsimp only
    repeat first | rw [ib_f] | rw [Option.bind_some]) (fun w e hf => by
        have hz := hf.ne
        try dsimp only
        repeat (first | (rw [n_numberBehind hz]; try dsimp only) | (rw [n_number hz]; try dsimp only) | (rw [n_passesWord hz]; try dsimp only) | (rw [n_laysDraft hz]; try dsimp only) | (rw [n_takes hz]; try dsimp only) | (rw [n_ndF hz]; try dsimp only) | (rw [ib_f]; try dsimp only) | (rw [Option.bind_some]; try dsimp only))) (fun wx1 wm1 l hl h0 hx1 hm1 => ?_)
  try dsimp only
  have h0' : s 3 < 12 := h0
  have cz := hg.2.2.2.2.2.1 (s 3) (Nat.le_refl _) h0'
  have mt := umt hx1.1.1 hx1.1.2.1 h0'
  rw [ib_t, ck hx1.1.2.2.2.2.2.1 (kSU hx1.1.2.1), Option.bind_some, show f_X9_size Kc b 3 wx1 = _ from x_sizeQ hx1 (k := 3) (by omega), Option.bind_some, u909 hx1.1.1 hx1.1.2.1, Option.bind_some]
  try dsimp only
  rw [show ups (cS s) 3 (cS s 3 + 1) 3 = s 3 + 1 from ups_eq, show nI (s 3 + 1) - 1 = nI (s 3) from by rw [show (1 : Int32) = nI 1 from rfl, sub_nI (by omega), Nat.add_sub_cancel], ixa_n (by omega) (by omega), Option.bind_some, Option.bind_assoc]
  generalize aR wx1 (b + 10) (s 3) = mr at *
  refine lk_takes (i := 8) (by omega) hx1 hm1 rfl (fun w => by
    try dsimp only
    repeat first | rw [ib_f] | rw [Option.bind_some]) (fun w e hf => by
        have hz := hf.ne
        try dsimp only
        repeat (first | (rw [n_numberBehind hz]; try dsimp only) | (rw [n_number hz]; try dsimp only) | (rw [n_passesWord hz]; try dsimp only) | (rw [n_laysDraft hz]; try dsimp only) | (rw [n_takes hz]; try dsimp only) | (rw [n_ndF hz]; try dsimp only) | (rw [ib_f]; try dsimp only) | (rw [Option.bind_some]; try dsimp only))) (fun wx2 wm2 hx2 hm2 r2 => ?_)
  try dsimp only
  rw [ib_t, Option.bind_assoc]
  refine lk_number (la := 0) (lb := 99) hx2 hm2 (by omega) (by omega) rfl rfl rfl rfl (fun w => by
    try dsimp only
    repeat first | rw [ib_f] | rw [Option.bind_some]) (fun v w e hf => by
        have hz := hf.ne
        try dsimp only
        repeat (first | (rw [n_numberBehind hz]; try dsimp only) | (rw [n_number hz]; try dsimp only) | (rw [n_passesWord hz]; try dsimp only) | (rw [n_laysDraft hz]; try dsimp only) | (rw [n_takes hz]; try dsimp only) | (rw [n_ndF hz]; try dsimp only) | (rw [ib_f]; try dsimp only) | (rw [Option.bind_some]; try dsimp only))) (fun wx3 wm3 hx3 hm3 r3 k5 k4 l1 l2 l3 => ?_)
  generalize nuA n bf (enT n bf (enT n bf (enT n bf p))) = v1 at *
  have c5 : ups (cS s) 3 (cS s 3 + 1) 5 = s 3 := by rw [ups_ne (by omega)]; rfl
  have c6 : ups (cS s) 3 (cS s 3 + 1) 6 = s 3 := by rw [ups_ne (by omega)]; rfl
  have c7 : ups (cS s) 3 (cS s 3 + 1) 7 = s 3 := by rw [ups_ne (by omega)]; rfl
  have c4 : ups (cS s) 3 (cS s 3 + 1) 4 = s 2 := by rw [ups_ne (by omega)]; rfl
  have b1 : BD (ups (cS s) 3 (cS s 3 + 1)) s := ⟨bd.1, bd.2.1, by rw [c4]; exact hg.1.1.2.2.1⟩
  generalize hc1 : ups (cS s) 3 (cS s 3 + 1) = c1 at *
  have hx3' := XQr_cf hx3 b1 c5 h0' v1
  obtain ⟨el3, hm3'⟩ := m_lays hm3 (a := 88 + s 3) (v := v1) (by omega)
  try dsimp only
  rw [ib_t, mt, Option.bind_some, k4, Option.bind_some, Option.bind_some]
  try dsimp only
  rw [show (88 : Int32) + nI (s 3) = nI (88 + s 3) from nI_add 88 (s 3), el3, Option.bind_some, Option.bind_assoc]
  refine lk_takes (i := 2) (by omega) hx3' hm3' rfl (fun w => by
    try dsimp only
    repeat first | rw [ib_f] | rw [Option.bind_some]) (fun w e hf => by
        have hz := hf.ne
        try dsimp only
        repeat (first | (rw [n_numberBehind hz]; try dsimp only) | (rw [n_number hz]; try dsimp only) | (rw [n_passesWord hz]; try dsimp only) | (rw [n_laysDraft hz]; try dsimp only) | (rw [n_takes hz]; try dsimp only) | (rw [n_ndF hz]; try dsimp only) | (rw [ib_f]; try dsimp only) | (rw [Option.bind_some]; try dsimp only))) (fun wx4 wm4 hx4 hm4 r4 => ?_)
  try dsimp only
  rw [ib_t, Option.bind_assoc]
  refine lk_number (la := 1) (lb := 4) hx4 hm4 (by omega) (by omega) rfl rfl rfl rfl (fun w => by
    try dsimp only
    repeat first | rw [ib_f] | rw [Option.bind_some]) (fun v w e hf => by
        have hz := hf.ne
        try dsimp only
        repeat (first | (rw [n_numberBehind hz]; try dsimp only) | (rw [n_number hz]; try dsimp only) | (rw [n_passesWord hz]; try dsimp only) | (rw [n_laysDraft hz]; try dsimp only) | (rw [n_takes hz]; try dsimp only) | (rw [n_ndF hz]; try dsimp only) | (rw [ib_f]; try dsimp only) | (rw [Option.bind_some]; try dsimp only))) (fun wx5 wm5 hx5 hm5 r5 i5 i4 j1 j2 j3 => ?_)
  generalize nuA n bf (enT n bf (enT n bf (enT n bf (enT n bf (enT n bf p))))) = v2 at *
  have b2 : BD (ups c1 5 (s 3 + 1)) (ups s (88 + s 3) v1) := BD_c (BD_u b1 (by omega)) (by rw [ups_ne (by omega)]; exact b1.2.2)
  have hx5' := XQr_cs hx5 b2 (q := s 3) (by rw [ups_ne (by omega)]; exact c6) h0' v2
  obtain ⟨el5, hm5'⟩ := m_lays hm5 (a := 100 + s 3) (v := v2) (by omega)
  try dsimp only
  rw [ib_t, i4, Option.bind_some, Option.bind_some]
  try dsimp only
  rw [show (100 : Int32) + nI (s 3) = nI (100 + s 3) from nI_add 100 (s 3), el5, Option.bind_some, Option.bind_assoc]
  refine lk_takes (i := 9) (by omega) hx5' hm5' rfl (fun w => by
    try dsimp only
    repeat first | rw [ib_f] | rw [Option.bind_some]) (fun w e hf => by
        have hz := hf.ne
        try dsimp only
        repeat (first | (rw [n_numberBehind hz]; try dsimp only) | (rw [n_number hz]; try dsimp only) | (rw [n_passesWord hz]; try dsimp only) | (rw [n_laysDraft hz]; try dsimp only) | (rw [n_takes hz]; try dsimp only) | (rw [n_ndF hz]; try dsimp only) | (rw [ib_f]; try dsimp only) | (rw [Option.bind_some]; try dsimp only))) (fun wx6 wm6 hx6 hm6 r6 => ?_)
  try dsimp only
  rw [ib_t, Option.bind_assoc]
  refine lk_number (la := 1) (lb := 60) hx6 hm6 (by omega) (by omega) rfl rfl rfl rfl (fun w => by
    try dsimp only
    repeat first | rw [ib_f] | rw [Option.bind_some]) (fun v w e hf => by
        have hz := hf.ne
        try dsimp only
        repeat (first | (rw [n_numberBehind hz]; try dsimp only) | (rw [n_number hz]; try dsimp only) | (rw [n_passesWord hz]; try dsimp only) | (rw [n_laysDraft hz]; try dsimp only) | (rw [n_takes hz]; try dsimp only) | (rw [n_ndF hz]; try dsimp only) | (rw [ib_f]; try dsimp only) | (rw [Option.bind_some]; try dsimp only))) (fun wx7 wm7 hx7 hm7 r7 i7 i6 j4 j5 j6 => ?_)
  generalize nuA n bf (enT n bf (enT n bf (enT n bf (enT n bf (enT n bf (enT n bf (enT n bf p))))))) = v3 at *
  have b3 : BD (ups (ups c1 5 (s 3 + 1)) 6 (s 3 + 1)) (ups (ups s (88 + s 3) v1) (100 + s 3) v2) := BD_c (BD_u b2 (by omega)) (by rw [ups_ne (by omega)]; exact b2.2.2)
  have hx7' := XQr_cl hx7 b3 (q := s 3) (by rw [ups_ne (by omega), ups_ne (by omega)]; exact c7) h0' v3
  have b4 : BD (ups (ups (ups c1 5 (s 3 + 1)) 6 (s 3 + 1)) 7 (s 3 + 1)) (ups (ups (ups s (88 + s 3) v1) (100 + s 3) v2) (112 + s 3) v3) := BD_c (BD_u b3 (by omega)) (by rw [ups_ne (by omega)]; exact b3.2.2)
  obtain ⟨el7, hm7'⟩ := m_lays hm7 (a := 112 + s 3) (v := v3) (by omega)
  try dsimp only
  rw [ib_t, i6, Option.bind_some, Option.bind_some]
  try dsimp only
  rw [show (112 : Int32) + nI (s 3) = nI (112 + s 3) from nI_add 112 (s 3)]
  first | rw [el7] | (rw [Option.bind_some]; try dsimp only; rw [el7])
  rw [Option.bind_some, x500 hx7'.1.1, Option.bind_some, hx7'.1.2.2.2.2.1.2.2.1, tk_B, Option.bind_some]
  unfold f_X13_takes f_X5_takesNeeds
  rw [show f_X13_isWord Kc 415 10 _ = _ from m_isWord hm7'.1 (i := 10) (by omega), Option.bind_some]
  try dsimp only
  have hm8 : ∀ {p wm8} {v4 : Nat}, MQr m0 wm8 n bf p c1 (ups (ups (ups s (88 + s 3) v1) (100 + s 3) v2) (112 + s 3) v3) t (nmU nm 3 (s 3) l) → f_X13_laysDraft Kc 415 (nI (124 + s 3)) (nI v4) wm8 = some (tI wm8 417 (124 + s 3) (nI v4)) ∧ f_X13_laysDraft Kc 415 (nI (136 + s 3)) (nI 0) (tI wm8 417 (124 + s 3) (nI v4)) = some (tI (tI wm8 417 (124 + s 3) (nI v4)) 417 (136 + s 3) (nI 0)) ∧ MQr m0 (tI (tI wm8 417 (124 + s 3) (nI v4)) 417 (136 + s 3) (nI 0)) n bf p c1 (ups (ups (ups (ups s (88 + s 3) v1) (100 + s 3) v2) (112 + s 3) v3) (124 + s 3) v4) t (nmU nm 3 (s 3) l) := fun {p wm8 v4} h => by
    obtain ⟨ea, ha⟩ := m_lays h (a := 124 + s 3) (v := v4) (by omega)
    obtain ⟨eb, hb⟩ := m_lays ha (a := 136 + s 3) (v := 0) (by omega)
    refine ⟨ea, eb, ?_⟩
    have : ups (ups (ups (ups (ups s (88 + s 3) v1) (100 + s 3) v2) (112 + s 3) v3) (124 + s 3) v4) (136 + s 3) 0 = ups (ups (ups (ups s (88 + s 3) v1) (100 + s 3) v2) (112 + s 3) v3) (124 + s 3) v4 := funext fun x => by
      by_cases e : x = 136 + s 3
      · rw [e, ups_eq, ups_ne (by omega), ups_ne (by omega), ups_ne (by omega), ups_ne (by omega), cz.2.1]
      · rw [ups_ne e]
    rw [this] at hb
    exact hb
  have main : ∀ (v4 : Nat) wx8 wm8 p8, v4 ≤ 1 → XQr w0 wx8 n bf b p0 p8 (ups (ups (ups c1 5 (s 3 + 1)) 6 (s 3 + 1)) 7 (s 3 + 1)) (ups (ups (ups (ups s (88 + s 3) v1) (100 + s 3) v2) (112 + s 3) v3) (124 + s 3) v4) t (nmU nm 3 (s 3) l) → MQr m0 wm8 n bf p8 c1 (ups (ups (ups (ups s (88 + s 3) v1) (100 + s 3) v2) (112 + s 3) v3) (124 + s 3) v4) t (nmU nm 3 (s 3) l) → Lk w0 m0 n bf b p0 (f_X5_takesNeeds_L2 Kc 36 (fun _ _ w1 => some (true, w1)) fu mr 0 wx8) (f_X13_readsCase_L108 Kc 415 (fun v1_108 w16 => (f_X13_laysDraft Kc 415 3 (v1_108 + 1) w16).bind fun q20 => some q20) fu (nI (s 3)) wm8) := fun v4 wx8 wm8 p8 hv4 hx8 hm9 => by
    have z : (ups (ups (ups (ups s (88 + s 3) v1) (100 + s 3) v2) (112 + s 3) v3) (124 + s 3) v4) (136 + s 3) = 0 := by rw [ups_ne (by omega), ups_ne (by omega), ups_ne (by omega), ups_ne (by omega), cz.2.1]
    have s2e : (ups (ups (ups (ups s (88 + s 3) v1) (100 + s 3) v2) (112 + s 3) v3) (124 + s 3) v4) 2 = s 2 := by rw [ups_ne (by omega), ups_ne (by omega), ups_ne (by omega), ups_ne (by omega)]
    have C2 : ups (ups (ups c1 5 (s 3 + 1)) 6 (s 3 + 1)) 7 (s 3 + 1) 2 = s 2 := by rw [ups_ne (by omega), ups_ne (by omega), ups_ne (by omega), ← hc1, ups_ne (by omega)]; rfl
    have := lk_ndL (w0 := w0) (m0 := m0) (n := n) (bf := bf) (b := b) (p0 := p0) (k := s 3) (s0 := ups (ups (ups (ups s (88 + s 3) v1) (100 + s 3) v2) (112 + s 3) v3) (124 + s 3) v4) (c1 := ups (ups (ups c1 5 (s 3 + 1)) 6 (s 3 + 1)) 7 (s 3 + 1)) (t := t) (nm := nmU nm 3 (s 3) l) h0' (by rw [s2e]; exact C2) (BD_u b4 (by omega)) (fun i hi => by rw [nmU_ne (by omega)]; rw [C2] at hi; exact hg.2.2.2.1 2 i (by omega) hi) mt (fun s' wx9 wm9 p9 hx9 hm9 ho => by
      obtain ⟨el, hm10⟩ := m_lays hm9 (a := 3) (v := s 3 + 1) (by omega)
      rw [show nI (s 3) + 1 = nI (s 3 + 1) from nI_add (s 3) 1, show f_X13_laysDraft Kc 415 3 (nI (s 3 + 1)) wm9 = _ from el, Option.bind_some]
      have o1 : ∀ x, x < 4 → s' x = s x := fun x hx => by rw [ho.1 x (by omega), ups_ne (by omega), ups_ne (by omega), ups_ne (by omega), ups_ne (by omega)]
      have hx10 : XQr w0 wx9 n bf b p0 p9 (ups (ups (ups c1 5 (s 3 + 1)) 6 (s 3 + 1)) 7 (s 3 + 1)) (ups s' 3 (s 3 + 1)) t (nmU nm 3 (s 3) l) := ⟨hx9.1, XD_cg hx9.2 (fun _ _ => rfl) (fun x _ x3 => ups_ne x3) (by rw [o1 0 (by omega)]; exact bd.1.1)⟩
      refine Lk.bd hx10 hm10 (GD_cas hg h0' l2 ⟨j1, j2⟩ ⟨j4, j5⟩ hv4 ho hl) (cS_e ?_ ?_ ?_ ?_ ?_ ?_ ?_ ?_)
      · rw [ups_ne (by omega), ups_ne (by omega), ups_ne (by omega), ← hc1, ups_ne (by omega), ups_ne (by omega), o1 0 (by omega)]; rfl
      · rw [ups_ne (by omega), ups_ne (by omega), ups_ne (by omega), ← hc1, ups_ne (by omega), ups_ne (by omega), o1 1 (by omega)]; rfl
      · rw [C2, ups_ne (by omega), o1 2 (by omega)]
      · rw [ups_ne (by omega), ups_ne (by omega), ups_ne (by omega), ← hc1, ups_eq, ups_eq]; rfl
      · rw [ups_ne (by omega), ups_ne (by omega), ups_ne (by omega), c4, ups_ne (by omega), o1 2 (by omega)]
      · rw [ups_ne (by omega), ups_ne (by omega), ups_eq, ups_eq]
      · rw [ups_ne (by omega), ups_eq, ups_eq]
      · rw [ups_eq, ups_eq]) 4 (ups (ups (ups (ups s (88 + s 3) v1) (100 + s 3) v2) (112 + s 3) v3) (124 + s 3) v4) p8 wx8 wm8 fu fu (by rw [z]; rfl) (fu_lt (by omega)) (fu_lt (by omega)) ⟨fun _ _ => rfl, by rw [z]; exact Nat.two_pow_pos _⟩ hx8 (hm9.cc (fun k hk => by rw [ups_ne (by omega), ups_ne (by omega), ups_ne (by omega)]))
    rw [z] at this
    exact this
  by_cases e : ktT n bf (enT n bf (enT n bf (enT n bf (enT n bf (enT n bf (enT n bf (enT n bf (enT n bf p)))))))) = 10
  · have hx8 := XQr_cc hx7' b4 h0'
    obtain ⟨wx9, ex9, hx9, rx9⟩ := hx8.adv
    obtain ⟨wm8, em8, hm8', _⟩ := hm7'.nxt
    obtain ⟨e1, e2, e3⟩ := hm8 hm8' (v4 := 1)
    rw [if_pos (show some (ktT n bf (enT n bf (enT n bf (enT n bf (enT n bf (enT n bf (enT n bf (enT n bf (enT n bf p))))))))) = some 10 by rw [e]), decide_eq_true e, ib_t]
    try rw [Option.bind_some]
    rw [x500 hx8.1.1, Option.bind_some, ex9, Option.bind_some, em8, Option.bind_some, Option.bind_some]
    try dsimp only
    rw [ib_t, show (124 : Int32) + nI (s 3) = nI (124 + s 3) from nI_add 124 (s 3), show (136 : Int32) + nI (s 3) = nI (136 + s 3) from nI_add 136 (s 3), show f_X13_laysDraft Kc 415 (nI (124 + s 3)) 1 wm8 = _ from e1, Option.bind_some, show f_X13_laysDraft Kc 415 (nI (136 + s 3)) 0 (tI wm8 417 (124 + s 3) (nI 1)) = _ from e2, Option.bind_some]
    rw [bind_pr]
    exact main 1 _ _ _ (by omega) hx9 e3
  · have e124 : ups (ups (ups (ups s (88 + s 3) v1) (100 + s 3) v2) (112 + s 3) v3) (124 + s 3) 0 = ups (ups (ups s (88 + s 3) v1) (100 + s 3) v2) (112 + s 3) v3 := funext fun x => by
      by_cases e : x = 124 + s 3
      · rw [e, ups_eq, ups_ne (by omega), ups_ne (by omega), ups_ne (by omega), cz.1]
      · rw [ups_ne e]
    obtain ⟨e1, e2, e3⟩ := hm8 hm7' (v4 := 0)
    rw [if_neg (show ¬ some (ktT n bf (enT n bf (enT n bf (enT n bf (enT n bf (enT n bf (enT n bf (enT n bf (enT n bf p))))))))) = some 10 from fun z => e (by injection z)), decide_eq_false e, ib_f, Option.bind_some]
    try dsimp only
    rw [ib_f, show (124 : Int32) + nI (s 3) = nI (124 + s 3) from nI_add 124 (s 3), show (136 : Int32) + nI (s 3) = nI (136 + s 3) from nI_add 136 (s 3), show f_X13_laysDraft Kc 415 (nI (124 + s 3)) 0 (tI wm7 417 (112 + s 3) (nI v3)) = _ from e1, Option.bind_some, show f_X13_laysDraft Kc 415 (nI (136 + s 3)) 0 (tI (tI wm7 417 (112 + s 3) (nI v3)) 417 (124 + s 3) (nI 0)) = _ from e2, Option.bind_some]
    rw [bind_pr]
    exact main 0 _ _ _ (by omega) (by rw [e124]; exact hx7') e3
