/-! Reading a setup: rooms. -/
theorem GT_s {s s2 t : Nat → Nat} (hT : GoodT s t) (hZ : t 0 = 0 ∧ ∀ k, 46 ≤ k → k < 370 → t k = 0) (h : s 1 ≤ s2 1) : GoodT s2 t := by
  obtain ⟨g1, g2, g3, g4, g5, g6, g7⟩ := hT
  refine ⟨g1, g2, g3, g4, g5, fun i hi => Nat.lt_of_lt_of_le (g6 i hi) (Nat.pow_le_pow_right (by omega) h), fun i hi => ?_⟩
  have z : ∀ k, k < 27 → cs t i k = 0 := fun k hk => hZ.2 _ (by omega) (by omega)
  refine ⟨(g7 i hi).1, (g7 i hi).2.1, (g7 i hi).2.2.1, fun q => ?_⟩
  unfold hrg at q
  rw [z 0 (by omega)] at q
  cases q
theorem BD_of {s t : Nat → Nat} {nm : Nat → Nat → List Nat} (hg : GD s t nm) : BD (cS s) s := ⟨hg.1.1, fun o ho => by
  by_cases e : o < s 1
  · exact (hg.1.2.2.1 o e).1
  · rw [hg.2.2.2.2.1 o (by omega) ho]; omega, hg.1.1.2.2.1⟩
theorem x_sizeQ {w0 wx : Wd} {n : Nat} {bf : Nat → Int32} {b p0 p : Nat} {c s t : Nat → Nat} {nm : Nat → Nat → List Nat} (hx : XQr w0 wx n bf b p0 p c s t nm) {k : Nat} (hk : k < 4) : f_X9_size Kc b (nI k) wx = some (nI (c k), wx) := by
  unfold f_X9_size
  rw [u900 hx.1.1 hx.1.2.1, Option.bind_some]
  try dsimp only
  rw [ixa_n (by omega) (by omega), Option.bind_some, unm hx.1.1 hx.1.2.1 hk, Option.bind_some, hx.2.1 k hk]
theorem cS_e {c s : Nat → Nat} (h0 : c 0 = s 0) (h1 : c 1 = s 1) (h2 : c 2 = s 2) (h3 : c 3 = s 3) (h4 : c 4 = s 2) (h5 : c 5 = s 3) (h6 : c 6 = s 3) (h7 : c 7 = s 3) : ∀ k, k < 8 → cS s k = c k := fun k hk => by
  have hcase : k = 0 ∨ k = 1 ∨ k = 2 ∨ k = 3 ∨ k = 4 ∨ k = 5 ∨ k = 6 ∨ k = 7 := by omega
  rcases hcase with rfl | rfl | rfl | rfl | rfl | rfl | rfl | rfl
  · exact h0.symm
  · exact h1.symm
  · exact h2.symm
  · exact h3.symm
  · exact h4.symm
  · exact h5.symm
  · exact h6.symm
  · exact h7.symm
theorem slot_d : ∀ lo, lo < 8 → ∀ hi, hi < 8 → lo ≤ hi → ((((1 : Int32) <<< (((nI hi - nI lo) + 1) &&& 31)) - 1) <<< (nI lo &&& 31)) = nI (msk lo hi) := by decide +kernel
theorem Lk.bd {w0 m0 : Wd} {n : Nat} {bf : Nat → Int32} {b p0 p : Nat} {c s t : Nat → Nat} {nm : Nat → Nat → List Nat} {wx wm : Wd} (hx : XQr w0 wx n bf b p0 p c s t nm) (hm : MQr m0 wm n bf p c s t nm) (hg : GD s t nm) (hc : ∀ k, k < 8 → cS s k = c k) : Lk w0 m0 n bf b p0 (some (true, wx)) (some wm) := Or.inr ⟨p, s, t, nm, wx, wm, rfl, rfl, ⟨hx.1, XD_cg hx.2 hc (fun _ _ _ => rfl) hg.1.1.1⟩, hm.cc (fun k hk => hc k (by omega)), hg⟩
theorem GD_room {s t : Nat → Nat} {nm : Nat → Nat → List Nat} (hg : GD s t nm) (h0 : s 0 < 3) {lo hi : Nat} (h1 : lo ≤ hi) (h2 : hi ≤ 7) {l : List Nat} (hl : NmOK l) : GD (ups (ups (ups s (4 + s 0) lo) (7 + s 0) hi) 0 (s 0 + 1)) (t) (nmU nm 0 (s 0) l) := by
  obtain ⟨⟨a1, a2, a3, a4, a5, a6, a7, a8⟩, hT, hZ, hN, hO, hC, hR, hK⟩ := hg
  have hs : ∀ x, (x ≠ 0 ∧ x ≠ 4 + s 0 ∧ x ≠ 7 + s 0) → (ups (ups (ups s (4 + s 0) lo) (7 + s 0) hi) 0 (s 0 + 1)) x = s x := fun x z => by rw [ups_ne (by omega), ups_ne (by omega), ups_ne (by omega)]
  refine ⟨⟨⟨?_, ?_, ?_, ?_⟩, fun r hr => ?_, fun o ho => ⟨?_, fun k hk => ?_⟩, fun i hi => ?_, fun i hi => ?_, fun i j hi hj => ?_, fun k hk => ?_, ?_⟩, ?_, ?_, fun k i hk hi => ?_, fun o h1 h2 => ?_, fun i h1 h2 => ?_, fun k hk => ?_, ?_⟩
  · rw [ups_eq]; omega
  · rw [hs 1 (by omega)]; exact a1.2.1
  · rw [hs 2 (by omega)]; exact a1.2.2.1
  · rw [hs 3 (by omega)]; exact a1.2.2.2
  · rw [ups_eq] at hr
    by_cases e : r = s 0
    · rw [e, ups_ne (by omega), ups_ne (by omega), ups_eq, ups_ne (by omega), ups_eq]; exact ⟨h1, h2⟩
    · rw [hs (4 + r) (by omega), hs (7 + r) (by omega)]; exact a2 r (by omega)
  · rw [hs 1 (by omega)] at ho; rw [hs (10 + o) (by omega)]; exact (a3 o ho).1
  · rw [hs 1 (by omega)] at ho; have := (a3 o ho).1; rw [hs (10 + o) (by omega)] at hk; rw [hs (16 + 6 * o + 2 * k) (by omega), hs (17 + 6 * o + 2 * k) (by omega)]; exact (a3 o ho).2 k hk
  · rw [hs 2 (by omega)] at hi; rw [hs (52 + i) (by omega), hs (64 + i) (by omega), hs (76 + i) (by omega)]; exact a4 i hi
  · rw [hs 3 (by omega)] at hi; rw [hs (88 + i) (by omega), hs (100 + i) (by omega), hs (112 + i) (by omega), hs (124 + i) (by omega), hs (136 + i) (by omega), hs (148 + i) (by omega), hs 2 (by omega), hs 3 (by omega)]; exact a5 i hi
  · rw [hs 3 (by omega)] at hi hj; rw [hs (148 + i) (by omega), hs (148 + j) (by omega)]; exact a6 i j hi hj
  · rw [hs (160 + k) (by omega)]; exact a7 k hk
  · rw [hs 164 (by omega)]; exact a8
  · exact GT_s hT hZ (by rw [hs 1 (by omega)]; exact Nat.le_refl _)
  · exact hZ
  · by_cases e : k = 0
    · rw [e, ups_eq] at hi
      by_cases e2 : i = s 0
      · rw [e, e2, nmU_eq]; exact hl
      · rw [nmU_ne (fun z => e2 z.2), e]; exact hN 0 i (by omega) (by omega)
    · rw [hs k (by omega)] at hi
      rw [nmU_ne (fun z => e z.1)]; exact hN k i hk hi
  · rw [hs 1 (by omega)] at h1; rw [hs (10 + o) (by omega)]; exact hO o h1 h2
  · rw [hs 3 (by omega)] at h1; rw [hs (124 + i) (by omega), hs (136 + i) (by omega), hs (148 + i) (by omega)]; exact hC i h1 h2
  · rw [hs (166 + k) (by omega)]; exact hR k hk
  · rw [hs 165 (by omega)]; exact hK
theorem lk_room {w0 m0 wx wm : Wd} {n : Nat} {bf : Nat → Int32} {b p0 p : Nat} {s t : Nat → Nat} {nm : Nat → Nat → List Nat} (hx : XQr w0 wx n bf b p0 p (cS s) s t nm) (hm : MQr m0 wm n bf p (cS s) s t nm) (hg : GD s t nm) : Lk w0 m0 n bf b p0 (f_X5_takesRoom Kc 36 wx) (f_X13_readsRoom Kc 415 wm) := by
  have bd := BD_of hg
  have g3 := hg.1.1.1
  unfold f_X5_takesRoom f_X13_readsRoom f_X13_numberBehind f_X5_takesSpan
  rw [x1302 hm.1.1, Option.bind_some]
  try dsimp only
  rw [show ixa 0 170 = some 0 from rfl, Option.bind_some, hm.2.1.1 0 (by omega)]
  refine lk_newName (q := 0) (by omega) hx hm bd g3 (fun i hi => hg.2.2.2.1 0 i (by omega) hi) rfl rfl rfl rfl (fun w => by
    try dsimp only
    repeat first | rw [ib_f] | rw [Option.bind_some]) (fun w e hf => by
    have hz := hf.ne
    try dsimp only
    repeat (first | (rw [n_laysDraft hz]; try dsimp only) | (rw [n_number hz]; try dsimp only) | (rw [n_numberBehind hz]; try dsimp only) | (rw [n_passesWord hz]; try dsimp only) | (rw [n_takes hz]; try dsimp only) | (rw [n_goOn hz]; try dsimp only) | (rw [n_fine hz]; try dsimp only) | (rw [n_look hz]; try dsimp only) | (rw [n_known hz]; try dsimp only) | (rw [n_newName hz]; try dsimp only) | (rw [n_begins hz]; try dsimp only) | (rw [n_isWord hz]; try dsimp only) | (rw [n_needs hz]; try dsimp only) | (rw [ib_f]; try dsimp only) | (rw [Option.bind_some]; try dsimp only))) (fun wx1 wm1 l hl h0 hx1 hm1 => ?_)
  try dsimp only
  have h0' : s 0 < 3 := h0
  rw [ib_t, Option.bind_assoc]
  refine lk_takes (i := 2) (by omega) hx1 hm1 rfl (fun w => by
    try dsimp only
    repeat first | rw [ib_f] | rw [Option.bind_some]) (fun w e hf => by
    have hz := hf.ne
    try dsimp only
    repeat (first | (rw [n_laysDraft hz]; try dsimp only) | (rw [n_number hz]; try dsimp only) | (rw [n_numberBehind hz]; try dsimp only) | (rw [n_passesWord hz]; try dsimp only) | (rw [n_takes hz]; try dsimp only) | (rw [n_goOn hz]; try dsimp only) | (rw [n_fine hz]; try dsimp only) | (rw [n_look hz]; try dsimp only) | (rw [n_known hz]; try dsimp only) | (rw [n_newName hz]; try dsimp only) | (rw [n_begins hz]; try dsimp only) | (rw [n_isWord hz]; try dsimp only) | (rw [n_needs hz]; try dsimp only) | (rw [ib_f]; try dsimp only) | (rw [Option.bind_some]; try dsimp only))) (fun wx2 wm2 hx2 hm2 r2 => ?_)
  try dsimp only
  rw [ib_t, Option.bind_assoc, Option.bind_assoc]
  refine lk_number (la := 0) (lb := 7) hx2 hm2 (by omega) (by omega) rfl rfl rfl rfl (fun w => by
    try dsimp only
    repeat first | rw [ib_f] | rw [Option.bind_some]) (fun v w e hf => by
    have hz := hf.ne
    try dsimp only
    repeat (first | (rw [n_laysDraft hz]; try dsimp only) | (rw [n_number hz]; try dsimp only) | (rw [n_numberBehind hz]; try dsimp only) | (rw [n_passesWord hz]; try dsimp only) | (rw [n_takes hz]; try dsimp only) | (rw [n_goOn hz]; try dsimp only) | (rw [n_fine hz]; try dsimp only) | (rw [n_look hz]; try dsimp only) | (rw [n_known hz]; try dsimp only) | (rw [n_newName hz]; try dsimp only) | (rw [n_begins hz]; try dsimp only) | (rw [n_isWord hz]; try dsimp only) | (rw [n_needs hz]; try dsimp only) | (rw [ib_f]; try dsimp only) | (rw [Option.bind_some]; try dsimp only))) (fun wx3 wm3 hx3 hm3 r3 k5 k4 l1 l2 l3 => ?_)
  generalize nuA n bf (enT n bf (enT n bf (enT n bf p))) = lo at *
  have hx3' := hx3.t36 (f := 505) (v := nI lo) (by omega) (by omega)
  have w5 : wI (sI wx3 505 36 (nI lo)) 505 36 = nI lo := by rw [wI_sI, if_pos ⟨rfl, rfl⟩]
  obtain ⟨el, hm3'⟩ := m_lays hm3 (a := 4 + s 0) (v := lo) (by omega)
  try dsimp only
  rw [ib_t, Option.bind_some, k4, w5, Option.bind_some]
  try dsimp only
  rw [show (4 : Int32) + nI (s 0) = nI (4 + s 0) from nI_add 4 (s 0), el, Option.bind_some, Option.bind_assoc]
  refine lk_number (la := lo) (lb := 7) hx3' hm3' (by omega) (by omega) rfl rfl rfl rfl (fun w => by
    try dsimp only
    repeat first | rw [ib_f] | rw [Option.bind_some]) (fun v w e hf => by
    have hz := hf.ne
    try dsimp only
    repeat (first | (rw [n_laysDraft hz]; try dsimp only) | (rw [n_number hz]; try dsimp only) | (rw [n_numberBehind hz]; try dsimp only) | (rw [n_passesWord hz]; try dsimp only) | (rw [n_takes hz]; try dsimp only) | (rw [n_goOn hz]; try dsimp only) | (rw [n_fine hz]; try dsimp only) | (rw [n_look hz]; try dsimp only) | (rw [n_known hz]; try dsimp only) | (rw [n_newName hz]; try dsimp only) | (rw [n_begins hz]; try dsimp only) | (rw [n_isWord hz]; try dsimp only) | (rw [n_needs hz]; try dsimp only) | (rw [ib_f]; try dsimp only) | (rw [Option.bind_some]; try dsimp only))) (fun wx4 wm4 hx4 hm4 r4 k5' k4' l1' l2' l3' => ?_)
  generalize nuA n bf (enT n bf (enT n bf (enT n bf (enT n bf p)))) = hi at *
  rw [w5] at k5'
  have hx4' := hx4.t36 (f := 506) (v := nI hi) (by omega) (by omega)
  have w6 : wI (sI wx4 506 36 (nI hi)) 506 36 = nI hi := by rw [wI_sI, if_pos ⟨rfl, rfl⟩]
  have w7 : wI (sI wx4 506 36 (nI hi)) 505 36 = nI lo := by rw [wI_sI, if_neg (by omega)]; exact k5'
  obtain ⟨el2, hm4'⟩ := m_lays hm4 (a := 7 + s 0) (v := hi) (by omega)
  obtain ⟨el3, hm5⟩ := m_lays hm4' (a := 0) (v := s 0 + 1) (by omega)
  have fin := XQr_room hx4' (c := ups (cS s) 0 (cS s 0 + 1)) ⟨bd.1, bd.2.1, by rw [ups_ne (by omega)]; exact bd.2.2⟩ h0' lo hi
  try dsimp only
  rw [ib_t, k4', Option.bind_some, Option.bind_some]
  try dsimp only
  rw [ib_t, ck hx4'.1.2.2.2.2.2.1 (kSU hx4'.1.2.1), Option.bind_some, show (0 : Int32) = nI 0 from rfl, x_sizeQ hx4' (by omega), Option.bind_some, w6, w7]
  unfold f_X12_slotSet
  rw [slot_d lo (by omega) hi (by omega) l1', Option.bind_some, u901 hx4'.1.1 hx4'.1.2.1, Option.bind_some]
  try dsimp only
  rw [show ups (cS s) 0 (cS s 0 + 1) 0 = s 0 + 1 from ups_eq, show (1 : Int32) = nI 1 from rfl, sub_nI (by omega), Nat.add_sub_cancel, ixa_n (by omega) (by omega), Option.bind_some, Option.bind_some, show (7 : Int32) + nI (s 0) = nI (7 + s 0) from nI_add 7 (s 0), el2, Option.bind_some, nI_add, el3, Option.bind_some]
  refine Lk.bd fin hm5 (GD_room hg h0' l1' l2' hl) (cS_e (by rw [ups_eq, ups_eq]; rfl) (by rw [ups_ne (by omega), ups_ne (by omega), ups_ne (by omega), ups_ne (by omega)]; rfl) (by rw [ups_ne (by omega), ups_ne (by omega), ups_ne (by omega), ups_ne (by omega)]; rfl) (by rw [ups_ne (by omega), ups_ne (by omega), ups_ne (by omega), ups_ne (by omega)]; rfl) (by rw [ups_ne (by omega), ups_ne (by omega), ups_ne (by omega), ups_ne (by omega)]; rfl) (by rw [ups_ne (by omega), ups_ne (by omega), ups_ne (by omega), ups_ne (by omega)]; rfl) (by rw [ups_ne (by omega), ups_ne (by omega), ups_ne (by omega), ups_ne (by omega)]; rfl) (by rw [ups_ne (by omega), ups_ne (by omega), ups_ne (by omega), ups_ne (by omega)]; rfl))
