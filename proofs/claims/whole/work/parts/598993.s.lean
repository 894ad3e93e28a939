/-! Reading a setup: bars, conflicts, reasons, the cap, holidays. -/
theorem shl_b {i : Nat} (hi : i < 12) : (1 : Int32) <<< (nI i &&& 31) = nI (2 ^ i) := by
  have pi : 2 ^ i < 2 ^ 12 := Nat.pow_lt_pow_right (by omega) hi
  rw [show (1 : Int32) = nI 1 from rfl, show (31 : Int32) = nI 31 from rfl, shl_nI (by omega) (by omega), Nat.one_mul]
theorem GT_34 {s t : Nat → Nat} {q v : Nat} (hT : GoodT s t) (hZ : t 0 = 0 ∧ ∀ k, 46 ≤ k → k < 370 → t k = 0) (hq : q < 12) (hv : v < 2 ^ s 1) : GoodT s (ups t (34 + q) v) ∧ (ups t (34 + q) v 0 = 0 ∧ ∀ k, 46 ≤ k → k < 370 → ups t (34 + q) v k = 0) := by
  obtain ⟨g1, g2, g3, g4, g5, g6, g7⟩ := hT
  have hz2 : ups t (34 + q) v 0 = 0 ∧ ∀ k, 46 ≤ k → k < 370 → ups t (34 + q) v k = 0 := ⟨by rw [ups_ne (by omega)]; exact hZ.1, fun k k1 k2 => by rw [ups_ne (by omega)]; exact hZ.2 k k1 k2⟩
  refine ⟨⟨by rw [ups_ne (by omega)]; exact g1, by rw [ups_ne (by omega)]; exact g2, fun k hk => ?_, fun j k hj hk e => ?_, fun i hi => by rw [ups_ne (by omega)]; exact g5 i hi, fun i hi => ?_, fun i hi => ?_⟩, hz2⟩
  · rw [ups_ne (by omega)] at hk
    rw [ups_ne (by omega)]; exact g3 k hk
  · rw [ups_ne (by omega)] at hj hk
    rw [ups_ne (by omega), ups_ne (by omega)] at e
    exact g4 j k hj hk e
  · by_cases e : i = q
    · rw [e, ups_eq]; exact hv
    · rw [ups_ne (by omega)]; exact g6 i hi
  · have z : ∀ k, k < 27 → cs (ups t (34 + q) v) i k = 0 := fun k hk => hz2.2 _ (by omega) (by omega)
    refine ⟨by rw [z 0 (by omega)]; omega, by rw [z 1 (by omega)]; omega, by rw [z 2 (by omega)]; omega, fun z2 => ?_⟩
    unfold hrg at z2
    rw [z 0 (by omega)] at z2
    cases z2
theorem lk_bar {w0 m0 wx wm : Wd} {n : Nat} {bf : Nat → Int32} {b p0 p : Nat} {s t : Nat → Nat} {nm : Nat → Nat → List Nat} (hx : XQr w0 wx n bf b p0 p (cS s) s t nm) (hm : MQr m0 wm n bf p (cS s) s t nm) (hg : GD s t nm) : Lk w0 m0 n bf b p0 (f_X5_takesBar Kc 36 wx) (f_X13_readsBar Kc 415 wm) := by
  have bd := BD_of hg
  have h6 := hg.1.1.2.1
  have h12 := hg.1.1.2.2.2
  have p6 : 2 ^ s 1 ≤ 2 ^ 6 := Nat.pow_le_pow_right (by omega) h6
  obtain ⟨wx1, ex1, hx1, rx1⟩ := hx.adv
  obtain ⟨wm1, em1, hm1⟩ := hm.go
  unfold f_X5_takesBar f_X13_readsBar
  rw [x500 hx.1.1, Option.bind_some, ex1, Option.bind_some, em1, Option.bind_some, x1302 hm1.1.1, Option.bind_some]
  try dsimp only
  rw [show ixa 1 170 = some 1 from rfl, Option.bind_some, hm1.2.1.1 1 (by omega)]
  refine lk_known (q := 1) (by omega) hx1 hm1 h6 (fun i hi => hg.2.2.2.1 1 i (by omega) hi) rfl rfl rfl (fun w => by
    try dsimp only
    repeat first | rw [ib_f] | rw [Option.bind_some]) (fun v w e hf => by
        have hz := hf.ne
        try dsimp only
        repeat (first | (rw [n_fine hz]; try dsimp only) | (rw [n_goOn hz]; try dsimp only) | (rw [n_known hz]; try dsimp only) | (rw [n_number hz]; try dsimp only) | (rw [n_laysDraft hz]; try dsimp only) | (rw [x1302 hf.1]; try dsimp only) | (rw [show ixa 3 170 = some 3 from rfl]; try dsimp only) | (rw [ib_f]; try dsimp only) | (rw [Option.bind_some]; try dsimp only))) (fun wx2 i hi ei hx2 k2 => ?_)
  have hi' : i < s 1 := hi
  obtain ⟨wx3, ex3, hx3, rx3⟩ := hx2.adv
  obtain ⟨wm3, em3, hm3⟩ := hm1.go
  try dsimp only
  rw [ib_t, x500 hx2.1.1, Option.bind_some, ex3, Option.bind_some, em3, Option.bind_some, x1302 hm3.1.1, Option.bind_some]
  try dsimp only
  rw [show ixa 3 170 = some 3 from rfl, Option.bind_some, hm3.2.1.1 3 (by omega)]
  refine lk_known (q := 3) (by omega) hx3 hm3 h12 (fun i hi => hg.2.2.2.1 3 i (by omega) hi) rfl rfl rfl (fun w => by
    try dsimp only
    repeat first | rw [ib_f] | rw [Option.bind_some]) (fun v w e hf => by
        have hz := hf.ne
        try dsimp only
        repeat (first | (rw [n_fine hz]; try dsimp only) | (rw [n_goOn hz]; try dsimp only) | (rw [n_known hz]; try dsimp only) | (rw [n_number hz]; try dsimp only) | (rw [n_laysDraft hz]; try dsimp only) | (rw [x1302 hf.1]; try dsimp only) | (rw [show ixa 3 170 = some 3 from rfl]; try dsimp only) | (rw [ib_f]; try dsimp only) | (rw [Option.bind_some]; try dsimp only))) (fun wx4 j hj ej hx4 k4 => ?_)
  have hj' : j < s 3 := hj
  have q6 := (hx4.2.2.2.2.2.2.2.2.2.2.1 j (by omega)).2.2.2
  have tl := hg.2.1.2.2.2.2.2.1 j (by omega)
  try dsimp only
  rw [ib_t, ck hx4.1.2.2.2.2.2.1 (kSU hx4.1.2.1), Option.bind_some, u909 hx4.1.1 hx4.1.2.1, Option.bind_some, k4, k2]
  try dsimp only
  rw [ixa_n (by omega) (by omega), Option.bind_some, umt hx4.1.1 hx4.1.2.1 (by omega), Option.bind_some, q6, x_has (by omega) (by omega), Option.bind_some, hm3.1.fine, Option.bind_some]
  try dsimp only
  rw [q6, shl_b (by omega), show (34 : Int32) + nI j = nI (34 + j) from nI_add 34 j]
  first | rw [ib_t, x1304 hm3.1.1, Option.bind_some] | (rw [Option.bind_some]; try dsimp only; rw [ib_t, x1304 hm3.1.1, Option.bind_some])
  try dsimp only
  rw [ixa_n (by omega) (by omega), Option.bind_some, hm3.2.1.2 _ (by omega), if_neg (show ¬ (22 ≤ 34 + j ∧ 34 + j < 34) by omega), m_has (by omega) (by omega), Option.bind_some]
  try dsimp only
  cases eb : (t (34 + j)).testBit i with
  | true =>
    obtain ⟨wx5, ex5, hx5⟩ := x_fail hx4.1 (u := 3) (e := 3) rfl
    obtain ⟨wm5, em5, hm5⟩ := hm3.1.fail (u := 3) (e := 3) rfl (by omega) (by omega)
    rw [ib_t, ib_t, ex5, Option.bind_some, em5, Option.bind_some, n_goOn hm5.ne, Option.bind_some, n_fine hm5.ne, Option.bind_some]
    exact Or.inl ⟨_, wx5, wm5, rfl, rfl, hx5, hm5⟩
  | false =>
    have pi : 2 ^ i < 2 ^ s 1 := Nat.pow_lt_pow_right (by omega) hi'
    have lt : t (34 + j) ||| 2 ^ i < 2 ^ s 1 := Nat.or_lt_two_pow tl pi
    have hx5 := XQr_cb hx4 bd (q := j) (by omega) hg.2.1.2.1 (t (34 + j) ||| 2 ^ i)
    obtain ⟨wx6, ex6, hx6, _⟩ := hx5.adv
    obtain ⟨wm5, em5, hm5⟩ := hm3.go
    have hm6 := hm5.dT (34 + j) (t (34 + j) ||| 2 ^ i) (z := nI (t (34 + j) ||| 2 ^ i)) (by rw [if_neg (by omega)])
    rw [ib_f, ib_f, or_nI (by omega) (by omega)]
    try rw [Option.bind_some]
    rw [x500 hx5.1.1, Option.bind_some, ex6, Option.bind_some, hm3.1.need, Option.bind_some, em5, Option.bind_some, hm5.1.fine, Option.bind_some]
    try dsimp only
    rw [ib_t, x1304 hm5.1.1, Option.bind_some]
    try dsimp only
    rw [ixa_n (by omega) (by omega), Option.bind_some, Option.bind_some, hm5.2.1.2 _ (by omega), if_neg (show ¬ (22 ≤ 34 + j ∧ 34 + j < 34) by omega), or_nI (by omega) (by omega), Option.bind_some]
    have gt := GT_34 hg.2.1 hg.2.2.1 (q := j) (by omega) lt
    exact Lk.bd hx6 hm6 ⟨hg.1, gt.1, gt.2, hg.2.2.2⟩ (fun _ _ => rfl)
theorem con_bit {s : Nat → Nat} {i j x y : Nat} (hij : i ≠ j) : (ups (ups s (148 + i) (s (148 + i) ||| 2 ^ j)) (148 + j) (s (148 + j) ||| 2 ^ i) (148 + x)).testBit y = ((s (148 + x)).testBit y || (decide (x = i ∧ y = j) || decide (x = j ∧ y = i))) := by
  by_cases e1 : x = j
  · subst e1
    rw [ups_eq, Nat.testBit_or, Nat.testBit_two_pow]
    refine congrArg (fun z => (s (148 + x)).testBit y || z) ?_
    rw [decide_eq_false (show ¬ (x = i ∧ y = x) by omega), Bool.false_or]
    exact decide_eq_decide.mpr ⟨fun q => ⟨rfl, q.symm⟩, fun q => q.2.symm⟩
  · rw [ups_ne (by omega)]
    by_cases e2 : x = i
    · subst e2
      rw [ups_eq, Nat.testBit_or, Nat.testBit_two_pow]
      refine congrArg (fun z => (s (148 + x)).testBit y || z) ?_
      rw [decide_eq_false (show ¬ (x = j ∧ y = x) by omega), Bool.or_false]
      exact decide_eq_decide.mpr ⟨fun q => ⟨rfl, q.symm⟩, fun q => q.2.symm⟩
    · rw [ups_ne (by omega), decide_eq_false (show ¬ (x = i ∧ y = j) by omega), decide_eq_false (show ¬ (x = j ∧ y = i) by omega), Bool.or_false, Bool.or_false]
theorem GD_con {s t : Nat → Nat} {nm : Nat → Nat → List Nat} (hg : GD s t nm) {p q : Nat} (hi0 : p < s 3) (hj0 : q < s 3) (hpq : p ≠ q) : GD (ups (ups s (148 + p) (s (148 + p) ||| 2 ^ q)) (148 + q) (s (148 + q) ||| 2 ^ p)) (t) (nm) := by
  obtain ⟨⟨a1, a2, a3, a4, a5, a6, a7, a8⟩, hT, hZ, hN, hO, hC, hR, hK⟩ := hg
  have hs : ∀ x, (x ≠ 148 + p ∧ x ≠ 148 + q) → (ups (ups s (148 + p) (s (148 + p) ||| 2 ^ q)) (148 + q) (s (148 + q) ||| 2 ^ p)) x = s x := fun x z => by rw [ups_ne (by omega), ups_ne (by omega)]
  refine ⟨⟨⟨?_, ?_, ?_, ?_⟩, fun r hr => ?_, fun o ho => ⟨?_, fun k hk => ?_⟩, fun i hi => ?_, fun i hi => ?_, fun i j hi hj => ?_, fun k hk => ?_, ?_⟩, ?_, ?_, fun k i hk hi => ?_, fun o h1 h2 => ?_, fun i h1 h2 => ?_, fun k hk => ?_, ?_⟩
  · rw [hs 0 (by omega)]; exact a1.1
  · rw [hs 1 (by omega)]; exact a1.2.1
  · rw [hs 2 (by omega)]; exact a1.2.2.1
  · rw [hs 3 (by omega)]; exact a1.2.2.2
  · rw [hs 0 (by omega)] at hr; rw [hs (4 + r) (by omega), hs (7 + r) (by omega)]; exact a2 r hr
  · rw [hs 1 (by omega)] at ho; rw [hs (10 + o) (by omega)]; exact (a3 o ho).1
  · rw [hs 1 (by omega)] at ho; have := (a3 o ho).1; rw [hs (10 + o) (by omega)] at hk; rw [hs (16 + 6 * o + 2 * k) (by omega), hs (17 + 6 * o + 2 * k) (by omega)]; exact (a3 o ho).2 k hk
  · rw [hs 2 (by omega)] at hi; rw [hs (52 + i) (by omega), hs (64 + i) (by omega), hs (76 + i) (by omega)]; exact a4 i hi
  · rw [hs 3 (by omega)] at hi
    rw [hs (88 + i) (by omega), hs (100 + i) (by omega), hs (112 + i) (by omega), hs (124 + i) (by omega), hs (136 + i) (by omega), hs 2 (by omega), hs 3 (by omega)]
    obtain ⟨q1, q2, q3, q4, q5, q6, q7⟩ := a5 i hi
    refine ⟨q1, q2, q3, q4, q5, ?_, ?_⟩
    · by_cases e : i = q
      · rw [e, ups_eq]; exact Nat.or_lt_two_pow (a5 q hj0).2.2.2.2.2.1 (Nat.pow_lt_pow_right (by omega) hi0)
      · rw [ups_ne (by omega)]
        by_cases e2 : i = p
        · rw [e2, ups_eq]; exact Nat.or_lt_two_pow (a5 p hi0).2.2.2.2.2.1 (Nat.pow_lt_pow_right (by omega) hj0)
        · rw [ups_ne (by omega)]; exact q6
    · rw [con_bit hpq, q7, decide_eq_false (show ¬ (i = p ∧ i = q) by omega), decide_eq_false (show ¬ (i = q ∧ i = p) by omega)]; rfl
  · rw [hs 3 (by omega)] at hi hj
    rw [con_bit hpq, con_bit hpq, a6 i j hi hj]
    refine congrArg (fun z => (s (148 + j)).testBit i || z) ?_
    rw [Bool.or_comm]
    exact congr (congrArg or (decide_eq_decide.mpr ⟨fun z => ⟨z.2, z.1⟩, fun z => ⟨z.2, z.1⟩⟩)) (decide_eq_decide.mpr ⟨fun z => ⟨z.2, z.1⟩, fun z => ⟨z.2, z.1⟩⟩)
  · rw [hs (160 + k) (by omega)]; exact a7 k hk
  · rw [hs 164 (by omega)]; exact a8
  · exact GT_s hT hZ (by rw [hs 1 (by omega)]; exact Nat.le_refl _)
  · exact hZ
  · have hk' := hk; rw [hs k (by omega)] at hi; exact hN k i hk hi
  · rw [hs 1 (by omega)] at h1; rw [hs (10 + o) (by omega)]; exact hO o h1 h2
  · rw [hs 3 (by omega)] at h1; rw [hs (124 + i) (by omega), hs (136 + i) (by omega), hs (148 + i) (by omega)]; exact hC i h1 h2
  · rw [hs (166 + k) (by omega)]; exact hR k hk
  · rw [hs 165 (by omega)]; exact hK
theorem lk_conflict {w0 m0 wx wm : Wd} {n : Nat} {bf : Nat → Int32} {b p0 p : Nat} {s t : Nat → Nat} {nm : Nat → Nat → List Nat} (hx : XQr w0 wx n bf b p0 p (cS s) s t nm) (hm : MQr m0 wm n bf p (cS s) s t nm) (hg : GD s t nm) : Lk w0 m0 n bf b p0 (f_X5_takesConflict Kc 36 wx) (f_X13_readsConflict Kc 415 wm) := by
  have bd := BD_of hg
  have h12 := hg.1.1.2.2.2
  have p12 : 2 ^ s 3 ≤ 2 ^ 12 := Nat.pow_le_pow_right (by omega) h12
  obtain ⟨wx1, ex1, hx1, rx1⟩ := hx.adv
  obtain ⟨wm1, em1, hm1⟩ := hm.go
  unfold f_X5_takesConflict f_X13_readsConflict
  rw [x500 hx.1.1, Option.bind_some, ex1, Option.bind_some, em1, Option.bind_some, x1302 hm1.1.1, Option.bind_some]
  try dsimp only
  rw [show ixa 3 170 = some 3 from rfl, Option.bind_some, hm1.2.1.1 3 (by omega)]
  refine lk_known (q := 3) (by omega) hx1 hm1 h12 (fun i hi => hg.2.2.2.1 3 i (by omega) hi) rfl rfl rfl (fun w => by
    try dsimp only
    repeat first | rw [ib_f] | rw [Option.bind_some]) (fun v w e hf => by
        have hz := hf.ne
        try dsimp only
        repeat (first | (rw [n_fine hz]; try dsimp only) | (rw [n_goOn hz]; try dsimp only) | (rw [n_known hz]; try dsimp only) | (rw [n_number hz]; try dsimp only) | (rw [n_laysDraft hz]; try dsimp only) | (rw [x1302 hf.1]; try dsimp only) | (rw [show ixa 3 170 = some 3 from rfl]; try dsimp only) | (rw [ib_f]; try dsimp only) | (rw [Option.bind_some]; try dsimp only))) (fun wx2 i hi ei hx2 k2 => ?_)
  have hi' : i < s 3 := hi
  obtain ⟨wx3, ex3, hx3, rx3⟩ := hx2.adv
  obtain ⟨wm3, em3, hm3⟩ := hm1.go
  try dsimp only
  rw [ib_t, x500 hx2.1.1, Option.bind_some, ex3, Option.bind_some, em3, Option.bind_some, x1302 hm3.1.1, Option.bind_some]
  try dsimp only
  rw [show ixa 3 170 = some 3 from rfl, Option.bind_some, hm3.2.1.1 3 (by omega)]
  refine lk_known (q := 3) (by omega) hx3 hm3 h12 (fun i hi => hg.2.2.2.1 3 i (by omega) hi) rfl rfl rfl (fun w => by
    try dsimp only
    repeat first | rw [ib_f] | rw [Option.bind_some]) (fun v w e hf => by
        have hz := hf.ne
        try dsimp only
        repeat (first | (rw [n_fine hz]; try dsimp only) | (rw [n_goOn hz]; try dsimp only) | (rw [n_known hz]; try dsimp only) | (rw [n_number hz]; try dsimp only) | (rw [n_laysDraft hz]; try dsimp only) | (rw [x1302 hf.1]; try dsimp only) | (rw [show ixa 3 170 = some 3 from rfl]; try dsimp only) | (rw [ib_f]; try dsimp only) | (rw [Option.bind_some]; try dsimp only))) (fun wx4 j hj ej hx4 k4 => ?_)
  have hj' : j < s 3 := hj
  try dsimp only
  rw [ib_t, k4, k2, hm3.1.fine, Option.bind_some]
  try dsimp only
  rw [ib_t]
  by_cases eij : i = j
  · obtain ⟨wx5, ex5, hx5⟩ := x_fail hx4.1 (u := 3) (e := 3) rfl
    obtain ⟨wm5, em5, hm5⟩ := hm3.1.fail (u := 3) (e := 3) rfl (by omega) (by omega)
    rw [if_pos (show nI j = nI i by rw [eij]), ex5, Option.bind_some, if_pos (show nI i = nI j by rw [eij]), em5, Option.bind_some, n_goOn hm5.ne, Option.bind_some, n_fine hm5.ne, Option.bind_some]
    exact Or.inl ⟨_, wx5, wm5, rfl, rfl, hx5, hm5⟩
  · have q5 := (hx4.2.2.2.2.2.2.2.2.2.2.1 i (by omega)).2.2.1
    have q6 := (hx4.2.2.2.2.2.2.2.2.2.2.1 j (by omega)).2.2.1
    have ti := (hg.1.2.2.2.2.1 i hi').2.2.2.2.2.1
    have tj := (hg.1.2.2.2.2.1 j hj').2.2.2.2.2.1
    have pi : 2 ^ i < 2 ^ s 3 := Nat.pow_lt_pow_right (by omega) hi'
    have pj : 2 ^ j < 2 ^ s 3 := Nat.pow_lt_pow_right (by omega) hj'
    have li : s (148 + i) ||| 2 ^ j < 2 ^ s 3 := Nat.or_lt_two_pow ti pj
    have lj : s (148 + j) ||| 2 ^ i < 2 ^ s 3 := Nat.or_lt_two_pow tj pi
    rw [if_neg (show ¬ nI j = nI i from fun z => eij ((nI_eq (by omega) (by omega)).mp z).symm), if_neg (show ¬ nI i = nI j from fun z => eij ((nI_eq (by omega) (by omega)).mp z)), ck hx4.1.2.2.2.2.2.1 (kSU hx4.1.2.1), Option.bind_some, u909 hx4.1.1 hx4.1.2.1, Option.bind_some]
    try dsimp only
    rw [ixa_n (by omega) (by omega), Option.bind_some, umt hx4.1.1 hx4.1.2.1 (by omega), Option.bind_some, q5, x_has (by omega) (by omega), Option.bind_some, x1302 hm3.1.1, Option.bind_some]
    try dsimp only
    rw [show (148 : Int32) + nI i = nI (148 + i) from nI_add 148 i, show (148 : Int32) + nI j = nI (148 + j) from nI_add 148 j, ixa_n (by omega) (by omega), Option.bind_some, hm3.2.1.1 _ (by omega), m_has (by omega) (by omega), Option.bind_some]
    try dsimp only
    cases eb : (s (148 + i)).testBit j with
    | true =>
      obtain ⟨wx5, ex5, hx5⟩ := x_fail hx4.1 (u := 3) (e := 3) rfl
      obtain ⟨wm5, em5, hm5⟩ := hm3.1.fail (u := 3) (e := 3) rfl (by omega) (by omega)
      rw [ib_t, ib_t, ex5, Option.bind_some, em5, Option.bind_some, n_goOn hm5.ne, Option.bind_some, n_fine hm5.ne, Option.bind_some]
      exact Or.inl ⟨_, wx5, wm5, rfl, rfl, hx5, hm5⟩
    | false =>
      have hx5 := XQr_cx hx4 bd (q := i) (by omega) (s (148 + i) ||| 2 ^ j)
      have hx6 := XQr_cx hx5 (BD_u bd (by omega)) (q := j) (by omega) (s (148 + j) ||| 2 ^ i)
      obtain ⟨wx7, ex7, hx7, _⟩ := hx6.adv
      obtain ⟨wm5, em5, hm5⟩ := hm3.go
      have hm6 := (hm5.dS (148 + i) (s (148 + i) ||| 2 ^ j)).dS (148 + j) (s (148 + j) ||| 2 ^ i)
      have w6 : wI (sI wx4 305 (b + 22 + i) (nI (s (148 + i) ||| 2 ^ j))) 305 (b + 22 + j) = nI (s (148 + j)) := by rw [wI_sI, if_neg (by omega)]; exact q6
      rw [ib_f, ib_f, ck hx4.1.2.2.2.2.2.1 (kSU hx4.1.2.1), Option.bind_some, u909 hx4.1.1 hx4.1.2.1, Option.bind_some]
      try dsimp only
      rw [ixa_n (by omega) (by omega), Option.bind_some, umt hx4.1.1 hx4.1.2.1 (by omega), Option.bind_some, q5, shl_b (i := j) (by omega), or_nI (by omega) (by omega), Option.bind_some, ck hx5.1.2.2.2.2.2.1 (kSU hx5.1.2.1), Option.bind_some, u909 hx5.1.1 hx5.1.2.1, Option.bind_some]
      try dsimp only
      rw [ixa_n (by omega) (by omega), Option.bind_some, umt hx5.1.1 hx5.1.2.1 (by omega), Option.bind_some, w6, shl_b (i := i) (by omega), or_nI (by omega) (by omega), Option.bind_some, x500 hx6.1.1, Option.bind_some, ex7, Option.bind_some, hm3.1.need, Option.bind_some, em5, Option.bind_some, hm5.1.fine, Option.bind_some]
      try dsimp only
      rw [ib_t, x1302 hm5.1.1, Option.bind_some]
      try dsimp only
      rw [ixa_n (by omega) (by omega), Option.bind_some, Option.bind_some, hm5.2.1.1 _ (by omega), or_nI (by omega) (by omega), Option.bind_some, x1302 hm5.1.1.tI, Option.bind_some]
      try dsimp only
      rw [ixa_n (by omega) (by omega), Option.bind_some, Option.bind_some, aI_tI, if_neg (by omega), hm5.2.1.1 _ (by omega), or_nI (by omega) (by omega), Option.bind_some]
      exact Lk.bd hx7 hm6 (GD_con hg hi' hj' eij) (cS_e (by rw [ups_ne (by omega), ups_ne (by omega)]; rfl) (by rw [ups_ne (by omega), ups_ne (by omega)]; rfl) (by rw [ups_ne (by omega), ups_ne (by omega)]; rfl) (by rw [ups_ne (by omega), ups_ne (by omega)]; rfl) (by rw [ups_ne (by omega), ups_ne (by omega)]; rfl) (by rw [ups_ne (by omega), ups_ne (by omega)]; rfl) (by rw [ups_ne (by omega), ups_ne (by omega)]; rfl) (by rw [ups_ne (by omega), ups_ne (by omega)]; rfl))
