/-! Reading a setup: witnesses. -/
theorem ups_4 {s : Nat → Nat} {a b u v x y : Nat} (h : a ≠ b) : ups (ups (ups (ups s a u) b v) a x) b y = ups (ups s a x) b y := funext fun k => by
  by_cases e : k = b
  · rw [e, ups_eq, ups_eq]
  · rw [ups_ne e, ups_ne e]
    by_cases e2 : k = a
    · rw [e2, ups_eq, ups_eq]
    · rw [ups_ne e2, ups_ne e, ups_ne e2, ups_ne e2]
theorem GT_22 {s s2 t : Nat → Nat} {q v : Nat} (hT : GoodT s t) (hZ : t 0 = 0 ∧ ∀ k, 46 ≤ k → k < 370 → t k = 0) (h : s 1 ≤ s2 1) (hq : q < 12) (hv : v ≤ 600) : GoodT s2 (ups t (22 + q) v) ∧ (ups t (22 + q) v 0 = 0 ∧ ∀ k, 46 ≤ k → k < 370 → ups t (22 + q) v k = 0) := by
  obtain ⟨g1, g2, g3, g4, g5, g6, g7⟩ := hT
  have hz2 : ups t (22 + q) v 0 = 0 ∧ ∀ k, 46 ≤ k → k < 370 → ups t (22 + q) v k = 0 := ⟨by rw [ups_ne (by omega)]; exact hZ.1, fun k k1 k2 => by rw [ups_ne (by omega)]; exact hZ.2 k k1 k2⟩
  refine ⟨GT_s (s := s) ⟨by rw [ups_ne (by omega)]; exact g1, by rw [ups_ne (by omega)]; exact g2, fun k hk => ?_, fun j k hj hk e => ?_, fun i hi => ?_, fun i hi => by rw [ups_ne (by omega)]; exact g6 i hi, fun i hi => ?_⟩ hz2 h, hz2⟩
  · rw [ups_ne (by omega)] at hk
    rw [ups_ne (by omega)]; exact g3 k hk
  · rw [ups_ne (by omega)] at hj hk
    rw [ups_ne (by omega), ups_ne (by omega)] at e
    exact g4 j k hj hk e
  · by_cases e : i = q
    · rw [e, ups_eq]; exact hv
    · rw [ups_ne (by omega)]; exact g5 i hi
  · have z : ∀ k, k < 27 → cs (ups t (22 + q) v) i k = 0 := fun k hk => hz2.2 _ (by omega) (by omega)
    refine ⟨by rw [z 0 (by omega)]; omega, by rw [z 1 (by omega)]; omega, by rw [z 2 (by omega)]; omega, fun z2 => ?_⟩
    unfold hrg at z2
    rw [z 0 (by omega)] at z2
    cases z2
theorem GD_wit {s t : Nat → Nat} {nm : Nat → Nat → List Nat} (hg : GD s t nm) (h0 : s 2 < 12) {lo hi a1 b1 : Nat} (h1 : lo ≤ hi) (h2 : hi ≤ 599) (h3 : a1 ≤ b1) (h4 : b1 ≤ 7) {l : List Nat} (hl : NmOK l) : GD (ups (ups (ups (ups s (52 + s 2) lo) (64 + s 2) a1) (76 + s 2) b1) 2 (s 2 + 1)) (ups t (22 + s 2) (hi + 1)) (nmU nm 2 (s 2) l) := by
  obtain ⟨⟨c1, a2, a3, a4, a5, a6, a7, a8⟩, hT, hZ, hN, hO, hC, hR, hK⟩ := hg
  have hs : ∀ x, (x ≠ 2 ∧ x ≠ 52 + s 2 ∧ x ≠ 64 + s 2 ∧ x ≠ 76 + s 2) → (ups (ups (ups (ups s (52 + s 2) lo) (64 + s 2) a1) (76 + s 2) b1) 2 (s 2 + 1)) x = s x := fun x z => by rw [ups_ne (by omega), ups_ne (by omega), ups_ne (by omega), ups_ne (by omega)]
  refine ⟨⟨⟨?_, ?_, ?_, ?_⟩, fun r hr => ?_, fun o ho => ⟨?_, fun k hk => ?_⟩, fun i hi' => ?_, fun i hi => ?_, fun i j hi hj => ?_, fun k hk => ?_, ?_⟩, ?_, ?_, fun k i hk hi => ?_, fun o h1 h2 => ?_, fun i h1 h2 => ?_, fun k hk => ?_, ?_⟩
  · rw [hs 0 (by omega)]; exact c1.1
  · rw [hs 1 (by omega)]; exact c1.2.1
  · rw [ups_eq]; omega
  · rw [hs 3 (by omega)]; exact c1.2.2.2
  · rw [hs 0 (by omega)] at hr; rw [hs (4 + r) (by omega), hs (7 + r) (by omega)]; exact a2 r hr
  · rw [hs 1 (by omega)] at ho; rw [hs (10 + o) (by omega)]; exact (a3 o ho).1
  · rw [hs 1 (by omega)] at ho; have := (a3 o ho).1; rw [hs (10 + o) (by omega)] at hk; rw [hs (16 + 6 * o + 2 * k) (by omega), hs (17 + 6 * o + 2 * k) (by omega)]; exact (a3 o ho).2 k hk
  · rw [ups_eq] at hi'
    by_cases e : i = s 2
    · rw [e, ups_ne (by omega), ups_ne (by omega), ups_ne (by omega), ups_eq, ups_ne (by omega), ups_ne (by omega), ups_eq, ups_ne (by omega), ups_eq]; exact ⟨by omega, h3, h4⟩
    · rw [hs (52 + i) (by omega), hs (64 + i) (by omega), hs (76 + i) (by omega)]; exact a4 i (by omega)
  · rw [hs 3 (by omega)] at hi; rw [hs (88 + i) (by omega), hs (100 + i) (by omega), hs (112 + i) (by omega), hs (124 + i) (by omega), hs (136 + i) (by omega), hs (148 + i) (by omega), ups_eq, hs 3 (by omega)]
    obtain ⟨q1, q2, q3, q4, q5, q6⟩ := a5 i hi
    exact ⟨q1, q2, q3, q4, Nat.lt_of_lt_of_le q5 (Nat.pow_le_pow_right (by omega) (by omega)), q6⟩
  · rw [hs 3 (by omega)] at hi hj; rw [hs (148 + i) (by omega), hs (148 + j) (by omega)]; exact a6 i j hi hj
  · rw [hs (160 + k) (by omega)]; exact a7 k hk
  · rw [hs 164 (by omega)]; exact a8
  · exact (GT_22 hT hZ (by rw [hs 1 (by omega)]; exact Nat.le_refl _) h0 (by omega)).1
  · exact (GT_22 hT hZ (s2 := s) (Nat.le_refl _) h0 (by omega)).2
  · by_cases e : k = 2
    · rw [e, ups_eq] at hi
      by_cases e2 : i = s 2
      · rw [e, e2, nmU_eq]; exact hl
      · rw [nmU_ne (fun z => e2 z.2), e]; exact hN 2 i (by omega) (by omega)
    · rw [hs k (by omega)] at hi
      rw [nmU_ne (fun z => e z.1)]; exact hN k i hk hi
  · rw [hs 1 (by omega)] at h1; rw [hs (10 + o) (by omega)]; exact hO o h1 h2
  · rw [hs 3 (by omega)] at h1; rw [hs (124 + i) (by omega), hs (136 + i) (by omega), hs (148 + i) (by omega)]; exact hC i h1 h2
  · rw [hs (166 + k) (by omega)]; exact hR k hk
  · rw [hs 165 (by omega)]; exact hK
theorem lk_witness {w0 m0 wx wm : Wd} {n : Nat} {bf : Nat → Int32} {b p0 p : Nat} {s t : Nat → Nat} {nm : Nat → Nat → List Nat} (hx : XQr w0 wx n bf b p0 p (cS s) s t nm) (hm : MQr m0 wm n bf p (cS s) s t nm) (hg : GD s t nm) : Lk w0 m0 n bf b p0 (f_X5_takesWitness Kc 36 wx) (f_X13_readsWitness Kc 415 wm) := by
  have bd := BD_of hg
  have g3 := hg.1.1.2.2.1
  unfold f_X5_takesWitness f_X13_readsWitness f_X13_numberBehind f_X5_takesSpan
  rw [x1302 hm.1.1, Option.bind_some]
  try dsimp only
  rw [show ixa 2 170 = some 2 from rfl, Option.bind_some, hm.2.1.1 2 (by omega)]
  refine lk_newName (q := 2) (by omega) hx hm bd g3 (fun i hi => hg.2.2.2.1 2 i (by omega) hi) rfl rfl rfl rfl (fun w => by
    try dsimp only
    repeat first | rw [ib_f] | rw [Option.bind_some]) (fun w e hf => by
    have hz := hf.ne
    try dsimp only
    repeat (first | (rw [n_laysDraft hz]; try dsimp only) | (rw [n_number hz]; try dsimp only) | (rw [n_numberBehind hz]; try dsimp only) | (rw [n_passesWord hz]; try dsimp only) | (rw [n_takes hz]; try dsimp only) | (rw [n_goOn hz]; try dsimp only) | (rw [n_fine hz]; try dsimp only) | (rw [n_look hz]; try dsimp only) | (rw [n_known hz]; try dsimp only) | (rw [n_newName hz]; try dsimp only) | (rw [n_begins hz]; try dsimp only) | (rw [n_isWord hz]; try dsimp only) | (rw [n_needs hz]; try dsimp only) | (rw [ib_f]; try dsimp only) | (rw [Option.bind_some]; try dsimp only))) (fun wx1 wm1 l hl h0 hx1 hm1 => ?_)
  try dsimp only
  have h0' : s 2 < 12 := h0
  rw [ib_t, Option.bind_assoc]
  refine lk_takes (i := 6) (by omega) hx1 hm1 rfl (fun w => by
    try dsimp only
    repeat first | rw [ib_f] | rw [Option.bind_some]) (fun w e hf => by
    have hz := hf.ne
    try dsimp only
    repeat (first | (rw [n_laysDraft hz]; try dsimp only) | (rw [n_number hz]; try dsimp only) | (rw [n_numberBehind hz]; try dsimp only) | (rw [n_passesWord hz]; try dsimp only) | (rw [n_takes hz]; try dsimp only) | (rw [n_goOn hz]; try dsimp only) | (rw [n_fine hz]; try dsimp only) | (rw [n_look hz]; try dsimp only) | (rw [n_known hz]; try dsimp only) | (rw [n_newName hz]; try dsimp only) | (rw [n_begins hz]; try dsimp only) | (rw [n_isWord hz]; try dsimp only) | (rw [n_needs hz]; try dsimp only) | (rw [ib_f]; try dsimp only) | (rw [Option.bind_some]; try dsimp only))) (fun wx2 wm2 hx2 hm2 r2 => ?_)
  try dsimp only
  rw [ib_t, Option.bind_assoc, Option.bind_assoc]
  refine lk_number (la := 0) (lb := 599) hx2 hm2 (by omega) (by omega) rfl rfl rfl rfl (fun w => by
    try dsimp only
    repeat first | rw [ib_f] | rw [Option.bind_some]) (fun v w e hf => by
    have hz := hf.ne
    try dsimp only
    repeat (first | (rw [n_laysDraft hz]; try dsimp only) | (rw [n_number hz]; try dsimp only) | (rw [n_numberBehind hz]; try dsimp only) | (rw [n_passesWord hz]; try dsimp only) | (rw [n_takes hz]; try dsimp only) | (rw [n_goOn hz]; try dsimp only) | (rw [n_fine hz]; try dsimp only) | (rw [n_look hz]; try dsimp only) | (rw [n_known hz]; try dsimp only) | (rw [n_newName hz]; try dsimp only) | (rw [n_begins hz]; try dsimp only) | (rw [n_isWord hz]; try dsimp only) | (rw [n_needs hz]; try dsimp only) | (rw [ib_f]; try dsimp only) | (rw [Option.bind_some]; try dsimp only))) (fun wx3 wm3 hx3 hm3 r3 k5 k4 l1 l2 l3 => ?_)
  generalize nuA n bf (enT n bf (enT n bf (enT n bf p))) = lo at *
  have hx3' := hx3.t36 (f := 505) (v := nI lo) (by omega) (by omega)
  have w5 : wI (sI wx3 505 36 (nI lo)) 505 36 = nI lo := by rw [wI_sI, if_pos ⟨rfl, rfl⟩]
  obtain ⟨el, hm3'⟩ := m_lays hm3 (a := 52 + s 2) (v := lo) (by omega)
  try dsimp only
  rw [ib_t, Option.bind_some, k4, w5, Option.bind_some]
  try dsimp only
  rw [show (52 : Int32) + nI (s 2) = nI (52 + s 2) from nI_add 52 (s 2), el, Option.bind_some, Option.bind_assoc]
  refine lk_number (la := lo) (lb := 599) hx3' hm3' (by omega) (by omega) rfl rfl rfl rfl (fun w => by
    try dsimp only
    repeat first | rw [ib_f] | rw [Option.bind_some]) (fun v w e hf => by
    have hz := hf.ne
    try dsimp only
    repeat (first | (rw [n_laysDraft hz]; try dsimp only) | (rw [n_number hz]; try dsimp only) | (rw [n_numberBehind hz]; try dsimp only) | (rw [n_passesWord hz]; try dsimp only) | (rw [n_takes hz]; try dsimp only) | (rw [n_goOn hz]; try dsimp only) | (rw [n_fine hz]; try dsimp only) | (rw [n_look hz]; try dsimp only) | (rw [n_known hz]; try dsimp only) | (rw [n_newName hz]; try dsimp only) | (rw [n_begins hz]; try dsimp only) | (rw [n_isWord hz]; try dsimp only) | (rw [n_needs hz]; try dsimp only) | (rw [ib_f]; try dsimp only) | (rw [Option.bind_some]; try dsimp only))) (fun wx4 wm4 hx4 hm4 r4 k5' k4' l1' l2' l3' => ?_)
  generalize nuA n bf (enT n bf (enT n bf (enT n bf (enT n bf p)))) = hi at *
  rw [w5] at k5'
  have hx4' := hx4.t36 (f := 506) (v := nI hi) (by omega) (by omega)
  have w6 : wI (sI wx4 506 36 (nI hi)) 506 36 = nI hi := by rw [wI_sI, if_pos ⟨rfl, rfl⟩]
  have w7 : wI (sI wx4 506 36 (nI hi)) 505 36 = nI lo := by rw [wI_sI, if_neg (by omega)]; exact k5'
  have c4 : ups (cS s) 2 (cS s 2 + 1) 4 = s 2 := by rw [ups_ne (by omega)]; rfl
  have b1 : BD (ups (cS s) 2 (cS s 2 + 1)) s := ⟨bd.1, bd.2.1, by rw [c4]; omega⟩
  have hx5 := XQr_wd hx4' b1 c4 hg.2.1.2.1 h0' lo hi
  have e2 : ups s (52 + s 2) lo 2 = s 2 := ups_ne (by omega)
  have b2 : BD (ups (ups (cS s) 2 (cS s 2 + 1)) 4 (s 2 + 1)) (ups s (52 + s 2) lo) := ⟨by rw [ups_ne (by omega), ups_ne (by omega), ups_ne (by omega), ups_ne (by omega)]; exact bd.1, fun o ho => by rw [ups_ne (by omega)]; exact bd.2.1 o ho, by rw [ups_eq]; omega⟩
  have hm4' := hm4.dT (22 + s 2) (hi + 1) (z := nI hi) (by rw [if_pos (by omega), sub_nI (by omega), Nat.add_sub_cancel])
  obtain ⟨el5, hm5⟩ := m_lays hm4' (a := 64 + s 2) (v := 0) (by omega)
  obtain ⟨el6, hm6⟩ := m_lays hm5 (a := 76 + s 2) (v := 7) (by omega)
  try dsimp only
  rw [ib_t, k4', Option.bind_some, Option.bind_some]
  try dsimp only
  rw [ib_t, ck hx4'.1.2.2.2.2.2.1 (kSU hx4'.1.2.1), Option.bind_some, show f_X9_size Kc b 2 (sI wx4 506 36 (nI hi)) = _ from x_sizeQ hx4' (k := 2) (by omega), Option.bind_some]
  try dsimp only
  rw [ck hx4'.1.2.2.2.2.2.1 (kSU hx4'.1.2.1), Option.bind_some, u905 hx4'.1.1 hx4'.1.2.1, Option.bind_some, show ups (cS s) 2 (cS s 2 + 1) 2 = s 2 + 1 from ups_eq, show nI (s 2 + 1) - 1 = nI (s 2) from by rw [show (1 : Int32) = nI 1 from rfl, sub_nI (by omega), Nat.add_sub_cancel]]
  try dsimp only
  rw [ixa_n (by omega) (by omega), Option.bind_some, Option.bind_some, w7]
  have f8 : FX (tI (sI wx4 506 36 (nI hi)) (b + 6) (s 2) (nI lo)) := hx4'.1.1.tI
  rw [ck (show wR (tI (sI wx4 506 36 (nI hi)) (b + 6) (s 2) (nI lo)) 501 36 = some b from hx4'.1.2.2.2.2.2.1) (kSU hx4'.1.2.1), Option.bind_some, u906 f8 hx4'.1.2.1, Option.bind_some]
  try dsimp only
  rw [ixa_n (by omega) (by omega), Option.bind_some, show wI (tI (sI wx4 506 36 (nI hi)) (b + 6) (s 2) (nI lo)) 506 36 = nI hi from w6, Option.bind_some, Option.bind_some, Option.bind_some]
  rw [hm4.1.fine, Option.bind_some]
  try dsimp only
  rw [ib_t, x1304 hm4.1.1, Option.bind_some]
  try dsimp only
  rw [show (22 : Int32) + nI (s 2) = nI (22 + s 2) from nI_add 22 (s 2), ixa_n (by omega) (by omega), Option.bind_some, Option.bind_some, show (64 : Int32) + nI (s 2) = nI (64 + s 2) from nI_add 64 (s 2), show (76 : Int32) + nI (s 2) = nI (76 + s 2) from nI_add 76 (s 2), show f_X13_laysDraft Kc 415 (nI (64 + s 2)) 0 (tI wm4 419 (22 + s 2) (nI hi)) = _ from el5, Option.bind_some, show f_X13_laysDraft Kc 415 (nI (76 + s 2)) 7 (tI (tI wm4 419 (22 + s 2) (nI hi)) 417 (64 + s 2) (nI 0)) = _ from el6, Option.bind_some]
  have hx6 := (hx5.t36 (f := 505) (v := nI 0) (by omega) (by omega)).t36 (f := 506) (v := nI 7) (by omega) (by omega)
  have v6 : wI (sI (sI (tI (tI (sI wx4 506 36 (nI hi)) (b + 6) (s 2) (nI lo)) (b + 7) (s 2) (nI hi)) 505 36 (nI 0)) 506 36 (nI 7)) 506 36 = nI 7 := by rw [wI_sI, if_pos ⟨rfl, rfl⟩]
  have v5 : wI (sI (sI (tI (tI (sI wx4 506 36 (nI hi)) (b + 6) (s 2) (nI lo)) (b + 7) (s 2) (nI hi)) 505 36 (nI 0)) 506 36 (nI 7)) 505 36 = nI 0 := by rw [wI_sI, if_neg (by omega), wI_sI, if_pos ⟨rfl, rfl⟩]
  generalize tI (tI (tI wm4 419 (22 + s 2) (nI hi)) 417 (64 + s 2) (nI 0)) 417 (76 + s 2) (nI 7) = wm5 at *
  rw [show sI (sI (tI (tI (sI wx4 506 36 (nI hi)) (b + 6) (s 2) (nI lo)) (b + 7) (s 2) (nI hi)) 505 36 0) 506 36 7 = sI (sI (tI (tI (sI wx4 506 36 (nI hi)) (b + 6) (s 2) (nI lo)) (b + 7) (s 2) (nI hi)) 505 36 (nI 0)) 506 36 (nI 7) from rfl]
  generalize sI (sI (tI (tI (sI wx4 506 36 (nI hi)) (b + 6) (s 2) (nI lo)) (b + 7) (s 2) (nI hi)) 505 36 (nI 0)) 506 36 (nI 7) = wx5 at *
  have en : ∀ (a1 b1 : Nat) (c : Nat → Nat), (∀ k, k < 8 → c k = ups (ups (cS s) 2 (cS s 2 + 1)) 4 (s 2 + 1) k) → ∀ k, k < 8 → cS (ups (ups (ups (ups s (52 + s 2) lo) (64 + s 2) a1) (76 + s 2) b1) 2 (s 2 + 1)) k = c k := fun a1 b1 c hc => by
    have o1 : ∀ x, x < 4 → x ≠ 2 → ups (ups (ups (ups s (52 + s 2) lo) (64 + s 2) a1) (76 + s 2) b1) 2 (s 2 + 1) x = s x := fun x hx hx1 => by rw [ups_ne hx1, ups_ne (by omega), ups_ne (by omega), ups_ne (by omega)]
    have o2 : ups (ups (ups (ups s (52 + s 2) lo) (64 + s 2) a1) (76 + s 2) b1) 2 (s 2 + 1) 2 = s 2 + 1 := ups_eq
    refine cS_e ?_ ?_ ?_ ?_ ?_ ?_ ?_ ?_
    · rw [hc 0 (by omega), o1 0 (by omega) (by omega), ups_ne (by omega), ups_ne (by omega)]; rfl
    · rw [hc 1 (by omega), o1 1 (by omega) (by omega), ups_ne (by omega), ups_ne (by omega)]; rfl
    · rw [hc 2 (by omega), o2, ups_ne (by omega), ups_eq]; rfl
    · rw [hc 3 (by omega), o1 3 (by omega) (by omega), ups_ne (by omega), ups_ne (by omega)]; rfl
    · rw [hc 4 (by omega), o2, ups_eq]
    · rw [hc 5 (by omega), o1 3 (by omega) (by omega), ups_ne (by omega), ups_ne (by omega)]; rfl
    · rw [hc 6 (by omega), o1 3 (by omega) (by omega), ups_ne (by omega), ups_ne (by omega)]; rfl
    · rw [hc 7 (by omega), o1 3 (by omega) (by omega), ups_ne (by omega), ups_ne (by omega)]; rfl
  rw [x500 hx6.1.1, Option.bind_some, hx6.1.2.2.2.2.1.2.2.1, tk_B, Option.bind_some]
  unfold f_X13_takes
  rw [show f_X13_isWord Kc 415 2 wm5 = _ from m_isWord hm6.1 (i := 2) (by omega), Option.bind_some]
  try dsimp only
  by_cases e : ktT n bf (enT n bf (enT n bf (enT n bf (enT n bf (enT n bf p))))) = 2
  · obtain ⟨wx7, ex7, hx7, rx7⟩ := hx6.adv
    obtain ⟨wm7, em7, hm7, _⟩ := hm6.nxt
    rw [if_pos (show some (ktT n bf (enT n bf (enT n bf (enT n bf (enT n bf (enT n bf p)))))) = some 2 by rw [e]), decide_eq_true e, ib_t, ex7, Option.bind_some, em7, Option.bind_some, Option.bind_some]
    try dsimp only
    rw [ib_t, Option.bind_assoc]
    refine lk_number (la := 0) (lb := 7) hx7 hm7 (by omega) (by omega) rfl rfl rfl rfl (fun w => by
    try dsimp only
    repeat first | rw [ib_f] | rw [Option.bind_some]) (fun v w e hf => by
    have hz := hf.ne
    try dsimp only
    repeat (first | (rw [n_laysDraft hz]; try dsimp only) | (rw [n_number hz]; try dsimp only) | (rw [n_numberBehind hz]; try dsimp only) | (rw [n_passesWord hz]; try dsimp only) | (rw [n_takes hz]; try dsimp only) | (rw [n_goOn hz]; try dsimp only) | (rw [n_fine hz]; try dsimp only) | (rw [n_look hz]; try dsimp only) | (rw [n_known hz]; try dsimp only) | (rw [n_newName hz]; try dsimp only) | (rw [n_begins hz]; try dsimp only) | (rw [n_isWord hz]; try dsimp only) | (rw [n_needs hz]; try dsimp only) | (rw [ib_f]; try dsimp only) | (rw [Option.bind_some]; try dsimp only))) (fun wx8 wm8 hx8 hm8 r8 i5 i4 j1 j2 j3 => ?_)
    generalize nuA n bf (enT n bf (enT n bf (enT n bf (enT n bf (enT n bf (enT n bf p)))))) = q1 at *
    have hx8' := hx8.t36 (f := 505) (v := nI q1) (by omega) (by omega)
    have z5 : wI (sI wx8 505 36 (nI q1)) 505 36 = nI q1 := by rw [wI_sI, if_pos ⟨rfl, rfl⟩]
    obtain ⟨el8, hm8'⟩ := m_lays hm8 (a := 64 + s 2) (v := q1) (by omega)
    try dsimp only
    rw [ib_t, Option.bind_some, i4, z5, el8, Option.bind_some, Option.bind_assoc]
    refine lk_number (la := q1) (lb := 7) hx8' hm8' (by omega) (by omega) rfl rfl rfl rfl (fun w => by
    try dsimp only
    repeat first | rw [ib_f] | rw [Option.bind_some]) (fun v w e hf => by
    have hz := hf.ne
    try dsimp only
    repeat (first | (rw [n_laysDraft hz]; try dsimp only) | (rw [n_number hz]; try dsimp only) | (rw [n_numberBehind hz]; try dsimp only) | (rw [n_passesWord hz]; try dsimp only) | (rw [n_takes hz]; try dsimp only) | (rw [n_goOn hz]; try dsimp only) | (rw [n_fine hz]; try dsimp only) | (rw [n_look hz]; try dsimp only) | (rw [n_known hz]; try dsimp only) | (rw [n_newName hz]; try dsimp only) | (rw [n_begins hz]; try dsimp only) | (rw [n_isWord hz]; try dsimp only) | (rw [n_needs hz]; try dsimp only) | (rw [ib_f]; try dsimp only) | (rw [Option.bind_some]; try dsimp only))) (fun wx9 wm9 hx9 hm9 r9 i5' i4' j1' j2' j3' => ?_)
    generalize nuA n bf (enT n bf (enT n bf (enT n bf (enT n bf (enT n bf (enT n bf (enT n bf p))))))) = q2 at *
    rw [z5] at i5'
    have hx9' := hx9.t36 (f := 506) (v := nI q2) (by omega) (by omega)
    have z6 : wI (sI wx9 506 36 (nI q2)) 506 36 = nI q2 := by rw [wI_sI, if_pos ⟨rfl, rfl⟩]
    have z7 : wI (sI wx9 506 36 (nI q2)) 505 36 = nI q1 := by rw [wI_sI, if_neg (by omega)]; exact i5'
    obtain ⟨el9, hm9'⟩ := m_lays hm9 (a := 76 + s 2) (v := q2) (by omega)
    obtain ⟨el10, hm10⟩ := m_lays hm9' (a := 2) (v := s 2 + 1) (by omega)
    have fin := XQr_ws hx9' b2 (by rw [e2]; exact h0') q1 q2
    rw [e2] at fin
    rw [ups_4 (by omega)] at hm10
    try dsimp only
    rw [ib_t, i4', Option.bind_some, Option.bind_some]
    try dsimp only
    rw [ib_t, ck hx9'.1.2.2.2.2.2.1 (kSU hx9'.1.2.1), Option.bind_some, u907 hx9'.1.1 hx9'.1.2.1, Option.bind_some]
    try dsimp only
    rw [ixa_n (by omega) (by omega), Option.bind_some, Option.bind_some, z7]
    have f9 : FX (tI (sI wx9 506 36 (nI q2)) (b + 8) (s 2) (nI q1)) := hx9'.1.1.tI
    rw [ck (show wR (tI (sI wx9 506 36 (nI q2)) (b + 8) (s 2) (nI q1)) 501 36 = some b from hx9'.1.2.2.2.2.2.1) (kSU hx9'.1.2.1), Option.bind_some, u908 f9 hx9'.1.2.1, Option.bind_some]
    try dsimp only
    rw [ixa_n (by omega) (by omega), Option.bind_some, show wI (tI (sI wx9 506 36 (nI q2)) (b + 8) (s 2) (nI q1)) 506 36 = nI q2 from z6, Option.bind_some, el9, Option.bind_some, show nI (s 2) + 1 = nI (s 2 + 1) from nI_add (s 2) 1, show f_X13_laysDraft Kc 415 2 (nI (s 2 + 1)) (tI wm9 417 (76 + s 2) (nI q2)) = _ from el10, Option.bind_some]
    exact Lk.bd fin (hm10.cc (c2 := ups (ups (cS s) 2 (cS s 2 + 1)) 4 (s 2 + 1)) (fun k hk => ups_ne (by omega))) (GD_wit hg h0' l1' l2' j1' j2' hl) (en q1 q2 _ (fun _ _ => rfl))
  · have fin := XQr_ws hx6 b2 (by rw [e2]; exact h0') 0 7
    rw [e2] at fin
    obtain ⟨el10, hm10⟩ := m_lays hm6 (a := 2) (v := s 2 + 1) (by omega)
    rw [if_neg (show ¬ some (ktT n bf (enT n bf (enT n bf (enT n bf (enT n bf (enT n bf p)))))) = some 2 from fun z => e (by injection z)), decide_eq_false e, ib_f, Option.bind_some]
    try dsimp only
    rw [ib_f, ck hx6.1.2.2.2.2.2.1 (kSU hx6.1.2.1), Option.bind_some, u907 hx6.1.1 hx6.1.2.1, Option.bind_some]
    try dsimp only
    rw [ixa_n (by omega) (by omega), Option.bind_some, Option.bind_some, v5]
    have f9 : FX (tI wx5 (b + 8) (s 2) (nI 0)) := hx6.1.1.tI
    rw [ck (show wR (tI wx5 (b + 8) (s 2) (nI 0)) 501 36 = some b from hx6.1.2.2.2.2.2.1) (kSU hx6.1.2.1), Option.bind_some, u908 f9 hx6.1.2.1, Option.bind_some]
    try dsimp only
    rw [ixa_n (by omega) (by omega), Option.bind_some, show wI (tI wx5 (b + 8) (s 2) (nI 0)) 506 36 = nI 7 from v6, Option.bind_some, show nI (s 2) + 1 = nI (s 2 + 1) from nI_add (s 2) 1, show f_X13_laysDraft Kc 415 2 (nI (s 2 + 1)) wm5 = _ from el10, Option.bind_some]
    exact Lk.bd fin (hm10.cc (c2 := ups (ups (cS s) 2 (cS s 2 + 1)) 4 (s 2 + 1)) (fun k hk => ups_ne (by omega))) (GD_wit hg h0' l1' l2' (by omega) (by omega) hl) (en 0 7 _ (fun _ _ => rfl))
