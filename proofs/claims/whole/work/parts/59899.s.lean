/-! Reading a setup: officers. -/
def OFI (s0 : Nat → Nat) (k : Nat) (s : Nat → Nat) : Prop := (∀ x, x ≠ 10 + k → (x < 16 + 6 * k ∨ 22 + 6 * k ≤ x) → s x = s0 x) ∧ s (10 + k) ≤ 3 ∧ ∀ j, j < s (10 + k) → s (16 + 6 * k + 2 * j) ≤ s (17 + 6 * k + 2 * j) ∧ s (17 + 6 * k + 2 * j) ≤ 599
theorem m_begins {m0 wm : Wd} {n : Nat} {bf : Nat → Int32} {p : Nat} {c s t : Nat → Nat} {nm : Nat → Nat → List Nat} (hm : MQr m0 wm n bf p c s t nm) {v cap : Nat} (hv : v < 2 ^ 31) (hc : cap < 2 ^ 31) {u z : Int32} (hu : u = nI v) (hz : z = nI cap) : (v < cap → ∃ wm', f_X13_begins Kc 415 u z wm = some (true, wm') ∧ MQr m0 wm' n bf (enT n bf p) c s t nm) ∧ (¬ v < cap → ∃ wm', f_X13_begins Kc 415 u z wm = some (false, wm') ∧ MFl m0 wm' (4, skT n bf p)) := by
  subst hu hz
  unfold f_X13_begins
  refine ⟨fun q => ?_, fun q => ?_⟩
  · obtain ⟨wm1, em1, hm1⟩ := hm.go
    rw [if_le_f (by omega) (by omega) q, hm.1.need, Option.bind_some, em1, Option.bind_some, hm1.1.fine, Option.bind_some]
    exact ⟨wm1, rfl, hm1⟩
  · obtain ⟨wm2, em2, hm2⟩ := hm.1.fail (u := 4) (e := 4) rfl (by omega) (by omega)
    rw [if_le_t (by omega) (by omega) (by omega), em2, Option.bind_some, n_goOn hm2.ne, Option.bind_some, n_fine hm2.ne, Option.bind_some]
    exact ⟨wm2, rfl, hm2⟩
theorem n_off {w : Wd} (h : wI w 1331 415 ≠ 0) {f : Nat} {v : Int32} {K : Int32 → Wd → Option Wd} : f_X13_readsOfficer_L36 Kc 415 K (f + 1) v w = K v w := by
  rw [f_X13_readsOfficer_L36, n_isWord h, Option.bind_some, ib_f]
theorem lk_offL {w0 m0 : Wd} {n : Nat} {bf : Nat → Int32} {b p0 k : Nat} {s0 c1 t : Nat → Nat} {nm : Nat → Nat → List Nat} (hk : k < 6) (hc1 : c1 1 = k + 1) (g : (s0 0 ≤ 3 ∧ s0 1 ≤ 6 ∧ s0 2 ≤ 12 ∧ s0 3 ≤ 12) ∧ (∀ o, o < 6 → s0 (10 + o) ≤ 3) ∧ c1 4 ≤ 12) (FIN : ∀ s wx wm p, XQr w0 wx n bf b p0 p c1 s t nm → MQr m0 wm n bf p c1 s t nm → OFI s0 k s → Lk w0 m0 n bf b p0 (some (true, wx)) ((f_X13_laysDraft Kc 415 1 (nI k + 1) wm).bind fun q19 => some q19)) : ∀ d s p wx wm f1 f2, s (10 + k) + d = 3 → d < f1 → d + 1 < f2 → OFI s0 k s → XQr w0 wx n bf b p0 p c1 s t nm → MQr m0 wm n bf p c1 s t nm → Lk w0 m0 n bf b p0 (f_X5_takesOfficer_L12 Kc 36 (fun _ w3 => some (true, w3)) f1 (nI (s (10 + k))) wx) (f_X13_readsOfficer_L36 Kc 415 (fun v1_36 w7 => (f_X13_laysDraft Kc 415 1 (v1_36 + 1) w7).bind fun q19 => some q19) f2 (nI k) wm) := by
  intro d
  induction d with
  | zero =>
    intro s p wx wm f1 f2 hd hf1 hf2 ho hx hm
    obtain ⟨f1, rfl⟩ : ∃ q, f1 = q + 1 := ⟨f1 - 1, by omega⟩
    obtain ⟨f2, rfl⟩ : ∃ q, f2 = q + 1 := ⟨f2 - 1, by omega⟩
    have mw : f_X13_isWord Kc 415 4 wm = some (decide (ktT n bf p = 4), wm) := m_isWord hm.1 (i := 4) (by omega)
    rw [f_X5_takesOfficer_L12, x500 hx.1.1, Option.bind_some, hx.1.2.2.2.2.1.2.2.1, tk_B, Option.bind_some, f_X13_readsOfficer_L36, mw, Option.bind_some]
    try dsimp only
    by_cases e : ktT n bf p = 4
    · obtain ⟨wx2, ex2, hx2⟩ := x_fail hx.1 (u := 4) (e := 4) rfl
      obtain ⟨wm2, em2, hm2⟩ := (m_begins hm (v := s (10 + k)) (cap := 3) (by omega) (by omega) rfl (z := 3) rfl).2 (by omega)
      rw [if_pos (show some (ktT n bf p) = some 4 by rw [e]), show (3 : Int32) = nI 3 from rfl, if_lt_f (by omega) (by omega) (by omega), ex2, Option.bind_some, decide_eq_true e, ib_t, x1302 hm.1.1, Option.bind_some]
      try dsimp only
      rw [show (10 : Int32) + nI k = nI (10 + k) from nI_add 10 k, ixa_n (by omega) (by omega), Option.bind_some, hm.2.1.1 _ (by omega), show nI 3 = (3 : Int32) from rfl, em2, Option.bind_some]
      try dsimp only
      rw [ib_f]
      exact Or.inl ⟨_, wx2, wm2, rfl, rfl, hx2, hm2⟩
    · rw [if_neg (show ¬ some (ktT n bf p) = some 4 from fun z => e (by injection z)), decide_eq_false e, ib_f]
      exact FIN s wx wm p hx hm ho
  | succ d ih =>
    intro s p wx wm f1 f2 hd hf1 hf2 ho hx hm
    obtain ⟨f1, rfl⟩ : ∃ q, f1 = q + 1 := ⟨f1 - 1, by omega⟩
    obtain ⟨f2, rfl⟩ : ∃ q, f2 = q + 2 := ⟨f2 - 2, by omega⟩
    have mw : f_X13_isWord Kc 415 4 wm = some (decide (ktT n bf p = 4), wm) := m_isWord hm.1 (i := 4) (by omega)
    rw [f_X5_takesOfficer_L12, x500 hx.1.1, Option.bind_some, hx.1.2.2.2.2.1.2.2.1, tk_B, Option.bind_some, f_X13_readsOfficer_L36, mw, Option.bind_some]
    try dsimp only
    by_cases e : ktT n bf p = 4
    · obtain ⟨wx2, ex2, hx2, rx2⟩ := hx.adv
      obtain ⟨wm2, em2, hm2⟩ := (m_begins hm (v := s (10 + k)) (cap := 3) (by omega) (by omega) rfl (z := 3) rfl).1 (by omega)
      rw [if_pos (show some (ktT n bf p) = some 4 by rw [e]), show (3 : Int32) = nI 3 from rfl, if_lt_t (by omega) (by omega) (by omega), ex2, Option.bind_some, decide_eq_true e, ib_t, x1302 hm.1.1, Option.bind_some]
      try dsimp only
      rw [show (10 : Int32) + nI k = nI (10 + k) from nI_add 10 k, ixa_n (by omega) (by omega), Option.bind_some, hm.2.1.1 _ (by omega), show nI 3 = (3 : Int32) from rfl, em2, Option.bind_some]
      try dsimp only
      rw [ib_t]
      unfold f_X5_takesSpan
      rw [Option.bind_assoc]
      refine lk_number (la := 0) (lb := 599) hx2 hm2 (by omega) (by omega) rfl rfl rfl rfl (fun w => by
    try dsimp only
    repeat first | rw [ib_f] | rw [Option.bind_some]) (fun v w e hf => by
        have hz := hf.ne
        try dsimp only
        repeat (first | (rw [n_laysDraft hz]; try dsimp only) | (rw [n_number hz]; try dsimp only) | (rw [n_off hz]; try dsimp only) | (rw [Option.bind_some]; try dsimp only))) (fun wx3 wm3 hx3 hm3 r3 k5 k4 l1 l2 l3 => ?_)
      generalize nuA n bf (enT n bf p) = lo at *
      have hx3' := hx3.t36 (f := 505) (v := nI lo) (by omega) (by omega)
      have w5 : wI (sI wx3 505 36 (nI lo)) 505 36 = nI lo := by rw [wI_sI, if_pos ⟨rfl, rfl⟩]
      obtain ⟨el, hm3'⟩ := m_lays hm3 (a := 16 + 6 * k + 2 * s (10 + k)) (v := lo) (by omega)
      have ia : (16 : Int32) + 6 * nI k + 2 * nI (s (10 + k)) = nI (16 + 6 * k + 2 * s (10 + k)) := by
        rw [show (6 : Int32) * nI k = nI (6 * k) from pk_mul 6 k, show (2 : Int32) * nI (s (10 + k)) = nI (2 * s (10 + k)) from pk_mul 2 _, show (16 : Int32) + nI (6 * k) = nI (16 + 6 * k) from nI_add 16 _, nI_add]
      try dsimp only
      rw [ib_t, Option.bind_some, k4, w5, ia, el, Option.bind_some, Option.bind_assoc]
      refine lk_number (la := lo) (lb := 599) hx3' hm3' (by omega) (by omega) rfl rfl rfl rfl (fun w => by
    try dsimp only
    repeat first | rw [ib_f] | rw [Option.bind_some]) (fun v w e hf => by
        have hz := hf.ne
        try dsimp only
        repeat (first | (rw [n_laysDraft hz]; try dsimp only) | (rw [n_number hz]; try dsimp only) | (rw [n_off hz]; try dsimp only) | (rw [Option.bind_some]; try dsimp only))) (fun wx4 wm4 hx4 hm4 r4 k5' k4' l1' l2' l3' => ?_)
      generalize nuA n bf (enT n bf (enT n bf p)) = hi at *
      rw [w5] at k5'
      have hx4' := hx4.t36 (f := 506) (v := nI hi) (by omega) (by omega)
      have w6 : wI (sI wx4 506 36 (nI hi)) 506 36 = nI hi := by rw [wI_sI, if_pos ⟨rfl, rfl⟩]
      have w7 : wI (sI wx4 506 36 (nI hi)) 505 36 = nI lo := by rw [wI_sI, if_neg (by omega)]; exact k5'
      obtain ⟨el2, hm4'⟩ := m_lays hm4 (a := 16 + 6 * k + 2 * s (10 + k) + 1) (v := hi) (by omega)
      obtain ⟨el3, hm5⟩ := m_lays hm4' (a := 10 + k) (v := s (10 + k) + 1) (by omega)
      have bs : BD c1 s := ⟨⟨by rw [ho.1 0 (by omega) (by omega)]; omega, by rw [ho.1 1 (by omega) (by omega)]; omega, by rw [ho.1 2 (by omega) (by omega)]; omega, by rw [ho.1 3 (by omega) (by omega)]; omega⟩, fun o h6 => by
        by_cases eo : o = k
        · rw [eo]; exact ho.2.1
        · rw [ho.1 (10 + o) (by omega) (by omega)]; exact g.2.1 o h6, g.2.2⟩
      have fin := XQr_off hx4' bs hk (by omega) lo hi
      have q4 := (hx4'.2.2.2.2.1 k hk).1
      try dsimp only
      rw [ib_t, k4', Option.bind_some, Option.bind_some]
      try dsimp only
      rw [ib_t, ck hx4'.1.2.2.2.2.2.1 (kSU hx4'.1.2.1), Option.bind_some, show (1 : Int32) = nI 1 from rfl, x_sizeQ hx4' (by omega), Option.bind_some, w6, w7, hc1]
      unfold f_X9_addOff
      try dsimp only
      rw [sub_nI (by omega), Nat.add_sub_cancel, u902 hx4'.1.1 hx4'.1.2.1, Option.bind_some]
      try dsimp only
      rw [ixa_n (by omega) (by omega), Option.bind_some, q4, show (3 : Int32) = nI 3 from rfl, if_le_f (by omega) (by omega) (by omega), Option.bind_some, u903 hx4'.1.1 hx4'.1.2.1, Option.bind_some]
      try dsimp only
      rw [pk_mul, q4, nI_add, show k * 3 + s (10 + k) = 3 * k + s (10 + k) by omega, ixa_n (by omega) (by omega), Option.bind_some, Option.bind_some, u904 hx4'.1.1.tI hx4'.1.2.1, Option.bind_some]
      try dsimp only
      rw [ixa_n (by omega) (by omega), Option.bind_some, Option.bind_some, u902 hx4'.1.1.tI.tI hx4'.1.2.1, Option.bind_some]
      try dsimp only
      rw [ixa_n (by omega) (by omega), Option.bind_some, Option.bind_some, aI_tI, if_neg (by omega), aI_tI, if_neg (by omega), q4, nI_add, Option.bind_some, Option.bind_some, show nI (16 + 6 * k + 2 * s (10 + k)) + nI 1 = nI (16 + 6 * k + 2 * s (10 + k) + 1) from nI_add _ 1, el2, Option.bind_some, el3, Option.bind_some]
      have r1 : ups (ups (ups s (16 + 6 * k + 2 * s (10 + k)) lo) (16 + 6 * k + 2 * s (10 + k) + 1) hi) (10 + k) (s (10 + k) + 1) (10 + k) = s (10 + k) + 1 := ups_eq
      have := ih (ups (ups (ups s (16 + 6 * k + 2 * s (10 + k)) lo) (16 + 6 * k + 2 * s (10 + k) + 1) hi) (10 + k) (s (10 + k) + 1)) _ _ _ f1 (f2 + 1) (by rw [r1]; omega) (by omega) (by omega) ⟨fun x x1 x2 => by rw [ups_ne (by omega), ups_ne (by omega), ups_ne (by omega)]; exact ho.1 x x1 x2, by rw [r1]; omega, fun j hj => by
        rw [r1] at hj
        by_cases ej : j = s (10 + k)
        · rw [ej, ups_ne (by omega), ups_ne (by omega), ups_eq, ups_ne (by omega), show 17 + 6 * k + 2 * s (10 + k) = 16 + 6 * k + 2 * s (10 + k) + 1 by omega, ups_eq]
          exact ⟨l1', l2'⟩
        · rw [ups_ne (by omega), ups_ne (by omega), ups_ne (by omega), ups_ne (by omega), ups_ne (by omega), ups_ne (by omega)]
          exact ho.2.2 j (by omega)⟩ fin hm5
      rw [r1] at this
      rw [show nI (s (10 + k)) + 1 = nI (s (10 + k) + 1) from nI_add _ 1]
      exact this
    · rw [if_neg (show ¬ some (ktT n bf p) = some 4 from fun z => e (by injection z)), decide_eq_false e, ib_f]
      exact FIN s wx wm p hx hm ho
theorem GD_off {s t : Nat → Nat} {nm : Nat → Nat → List Nat} (hg : GD s t nm) (h0 : s 1 < 6) {s' : Nat → Nat} (hof : OFI s (s 1) s') {l : List Nat} (hl : NmOK l) : GD (ups s' 1 (s 1 + 1)) (t) (nmU nm 1 (s 1) l) := by
  obtain ⟨⟨a1, a2, a3, a4, a5, a6, a7, a8⟩, hT, hZ, hN, hO, hC, hR, hK⟩ := hg
  have hs : ∀ x, (x ≠ 1 ∧ x ≠ 10 + s 1 ∧ (x < 16 + 6 * s 1 ∨ 22 + 6 * s 1 ≤ x)) → (ups s' 1 (s 1 + 1)) x = s x := fun x z => by rw [ups_ne (by omega)]; exact hof.1 x (by omega) (by omega)
  refine ⟨⟨⟨?_, ?_, ?_, ?_⟩, fun r hr => ?_, fun o ho => ⟨?_, fun k hk => ?_⟩, fun i hi => ?_, fun i hi => ?_, fun i j hi hj => ?_, fun k hk => ?_, ?_⟩, ?_, ?_, fun k i hk hi => ?_, fun o h1 h2 => ?_, fun i h1 h2 => ?_, fun k hk => ?_, ?_⟩
  · rw [hs 0 (by omega)]; exact a1.1
  · rw [ups_eq]; omega
  · rw [hs 2 (by omega)]; exact a1.2.2.1
  · rw [hs 3 (by omega)]; exact a1.2.2.2
  · rw [hs 0 (by omega)] at hr; rw [hs (4 + r) (by omega), hs (7 + r) (by omega)]; exact a2 r hr
  · rw [ups_eq] at ho
    by_cases e : o = s 1
    · rw [e, ups_ne (by omega)]; exact hof.2.1
    · rw [hs (10 + o) (by omega)]; exact (a3 o (by omega)).1
  · rw [ups_eq] at ho
    by_cases e : o = s 1
    · rw [e, ups_ne (by omega)] at hk
      rw [e, ups_ne (by omega), ups_ne (by omega)]; exact hof.2.2 k hk
    · have h3 := (a3 o (by omega)).1
      rw [hs (10 + o) (by omega)] at hk
      rw [hs (16 + 6 * o + 2 * k) (by omega), hs (17 + 6 * o + 2 * k) (by omega)]; exact (a3 o (by omega)).2 k hk
  · rw [hs 2 (by omega)] at hi; rw [hs (52 + i) (by omega), hs (64 + i) (by omega), hs (76 + i) (by omega)]; exact a4 i hi
  · rw [hs 3 (by omega)] at hi; rw [hs (88 + i) (by omega), hs (100 + i) (by omega), hs (112 + i) (by omega), hs (124 + i) (by omega), hs (136 + i) (by omega), hs (148 + i) (by omega), hs 2 (by omega), hs 3 (by omega)]; exact a5 i hi
  · rw [hs 3 (by omega)] at hi hj; rw [hs (148 + i) (by omega), hs (148 + j) (by omega)]; exact a6 i j hi hj
  · rw [hs (160 + k) (by omega)]; exact a7 k hk
  · rw [hs 164 (by omega)]; exact a8
  · exact GT_s hT hZ (by rw [ups_eq]; omega)
  · exact hZ
  · by_cases e : k = 1
    · rw [e, ups_eq] at hi
      by_cases e2 : i = s 1
      · rw [e, e2, nmU_eq]; exact hl
      · rw [nmU_ne (fun z => e2 z.2), e]; exact hN 1 i (by omega) (by omega)
    · rw [hs k (by omega)] at hi
      rw [nmU_ne (fun z => e z.1)]; exact hN k i hk hi
  · rw [ups_eq] at h1
    rw [hs (10 + o) (by omega)]; exact hO o (by omega) h2
  · rw [hs 3 (by omega)] at h1; rw [hs (124 + i) (by omega), hs (136 + i) (by omega), hs (148 + i) (by omega)]; exact hC i h1 h2
  · rw [hs (166 + k) (by omega)]; exact hR k hk
  · rw [hs 165 (by omega)]; exact hK
theorem lk_officer {w0 m0 wx wm : Wd} {n : Nat} {bf : Nat → Int32} {b p0 p : Nat} {s t : Nat → Nat} {nm : Nat → Nat → List Nat} (hx : XQr w0 wx n bf b p0 p (cS s) s t nm) (hm : MQr m0 wm n bf p (cS s) s t nm) (hg : GD s t nm) : Lk w0 m0 n bf b p0 (f_X5_takesOfficer Kc 36 wx) (f_X13_readsOfficer Kc 415 wm) := by
  have bd := BD_of hg
  have g6 := hg.1.1.2.1
  unfold f_X5_takesOfficer f_X13_readsOfficer
  rw [x1302 hm.1.1, Option.bind_some]
  try dsimp only
  rw [show ixa 1 170 = some 1 from rfl, Option.bind_some, hm.2.1.1 1 (by omega)]
  refine lk_newName (q := 1) (by omega) hx hm bd g6 (fun i hi => hg.2.2.2.1 1 i (by omega) hi) rfl rfl rfl rfl (fun w => by
    try dsimp only
    repeat first | rw [ib_f] | rw [Option.bind_some]) (fun w e hf => by
    have hz := hf.ne
    try dsimp only
    rw [n_laysDraft hz, Option.bind_some, show fu = 999999 + 1 from rfl, n_off hz]
    try dsimp only
    rw [n_laysDraft hz, Option.bind_some]) (fun wx1 wm1 l hl h0 hx1 hm1 => ?_)
  have h0' : s 1 < 6 := h0
  have z0 : s (10 + s 1) = 0 := hg.2.2.2.2.1 (s 1) (Nat.le_refl _) h0'
  have us : ups s (10 + s 1) 0 = s := funext fun x => by
    by_cases e : x = 10 + s 1
    · rw [e, ups_eq, z0]
    · rw [ups_ne e]
  obtain ⟨el, hm1'⟩ := m_lays hm1 (a := 10 + s 1) (v := 0) (by omega)
  rw [us] at hm1'
  try dsimp only
  rw [ib_t, show (10 : Int32) + nI (s 1) = nI (10 + s 1) from nI_add 10 (s 1), show f_X13_laysDraft Kc 415 (nI (10 + s 1)) 0 wm1 = _ from el, Option.bind_some]
  have := lk_offL (w0 := w0) (m0 := m0) (n := n) (bf := bf) (b := b) (p0 := p0) (k := s 1) (s0 := s) (c1 := ups (cS s) 1 (cS s 1 + 1)) (t := t) (nm := nmU nm 1 (s 1) l) h0' ups_eq ⟨bd.1, bd.2.1, by rw [ups_ne (by omega)]; exact bd.2.2⟩ (fun s' wx2 wm2 p2 hx2 hm2 ho => by
    obtain ⟨el2, hm3⟩ := m_lays hm2 (a := 1) (v := s 1 + 1) (by omega)
    rw [show nI (s 1) + 1 = nI (s 1 + 1) from nI_add (s 1) 1, show f_X13_laysDraft Kc 415 1 (nI (s 1 + 1)) wm2 = _ from el2, Option.bind_some]
    have hx3 : XQr w0 wx2 n bf b p0 p2 (ups (cS s) 1 (cS s 1 + 1)) (ups s' 1 (s 1 + 1)) t (nmU nm 1 (s 1) l) := ⟨hx2.1, XD_cg hx2.2 (fun _ _ => rfl) (fun x x1 _ => ups_ne x1) (by rw [ho.1 0 (by omega) (by omega)]; exact bd.1.1)⟩
    have o1 : ∀ x, x < 4 → x ≠ 1 → ups s' 1 (s 1 + 1) x = s x := fun x hx hx1 => by rw [ups_ne hx1]; exact ho.1 x (by omega) (by omega)
    exact Lk.bd hx3 hm3 (GD_off hg h0' ho hl) (cS_e (by rw [o1 0 (by omega) (by omega), ups_ne (by omega)]; rfl) (by rw [ups_eq, ups_eq]; rfl) (by rw [o1 2 (by omega) (by omega), ups_ne (by omega)]; rfl) (by rw [o1 3 (by omega) (by omega), ups_ne (by omega)]; rfl) (by rw [o1 2 (by omega) (by omega), ups_ne (by omega)]; rfl) (by rw [o1 3 (by omega) (by omega), ups_ne (by omega)]; rfl) (by rw [o1 3 (by omega) (by omega), ups_ne (by omega)]; rfl) (by rw [o1 3 (by omega) (by omega), ups_ne (by omega)]; rfl))) 3 s (enT n bf (enT n bf p)) wx1 (tI wm1 417 (10 + s 1) (nI 0)) fu fu (by rw [z0]) (fu_lt (by omega)) (fu_lt (by omega)) ⟨fun _ _ _ => rfl, by rw [z0]; omega, fun j hj => by rw [z0] at hj; omega⟩ hx1 hm1'
  rw [z0] at this
  exact this
