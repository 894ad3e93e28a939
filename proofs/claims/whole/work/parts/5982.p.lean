/-! A hearing's line; a day's output. -/
def lnT (t : Nat → Nat) (nm : Nat → Nat → List Nat) (c : Nat) : List Nat := (((((([48 + cs t c 4] ++ [32]) ++ nmT (nm 0 (cs t c 5))) ++ [32]) ++ nmT (nm 3 c)) ++ [32]) ++ nmT (nm 1 (cs t c 6))) ++ [10]
theorem nmT_len (L : List Nat) : (nmT L).length = L.length := by unfold nmT; rw [List.length_map]
theorem lnT_len {t : Nat → Nat} {nm : Nat → Nat → List Nat} {c : Nat} (h0 : (nm 0 (cs t c 5)).length ≤ 8) (h3 : (nm 3 c).length ≤ 8) (h1 : (nm 1 (cs t c 6)).length ≤ 8) : (lnT t nm c).length ≤ 29 := by
  unfold lnT
  simp only [List.length_append, nmT_len, List.length_cons, List.length_nil]
  omega
/-- the memory for a line -/
def PX (w : Wd) (b : Nat) (s t : Nat → Nat) (nm : Nat → Nat → List Nat) : Prop := HX w 73 b s t ∧ NMx w b s nm
def PM (w : Wd) (s t : Nat → Nat) (nm : Nat → Nat → List Nat) : Prop := HM w s t ∧ NMm w s nm
theorem PX.ofi {w w' : Wd} {b : Nat} {s t : Nat → Nat} {nm : Nat → Nat → List Nat} (h : PX w b s t nm) (o : Ofi SOx AOx w w') : PX w' b s t nm := by
  have ub := SU_rg h.1.2.1.2.1
  refine ⟨h.1.fr o.fr (o.FX h.1.1) (fun f x q => ?_) (fun x q => ?_), fun k i hk hi => by rw [show aJ w' = aJ w from o.1.2.2.2.2.1]; exact h.2 k i hk hi⟩
  · unfold SOx at q
    unfold RG RB
    omega
  · unfold AOx at q
    unfold RG RB
    omega
theorem PM.ofi {w w' : Wd} {s t : Nat → Nat} {nm : Nat → Nat → List Nat} (h : PM w s t nm) (o : Ofi SOm AOm w w') : PM w' s t nm := ⟨o.HM h.1 (by unfold AOm; omega) (by unfold AOm; omega), fun k i hk hi => by rw [show aJ w' = aJ w from o.1.2.2.2.2.1]; exact h.2 k i hk hi⟩
theorem x_printName {w : Wd} {b : Nat} {s t : Nat → Nat} {nm : Nat → Nat → List Nat} {l : List Nat} (h : PX w b s t nm) (hn : ∀ k i, k < 4 → i < s k → NmOK (nm k i)) (ho : OLx w l) {k i : Nat} (hk : k < 4) (hi : i < s k) (hl : l.length + (nm k i).length ≤ 348) : ∃ w', f_X12_printName Kc 0 (nI k) (nI i) w = some w' ∧ OLx w' (l ++ nmT (nm k i)) ∧ Ofi SOx AOx w w' := by
  have hx := h.1
  have nl := nmL_le hx.gs hk
  obtain ⟨w2, e2, o2, p2⟩ := x_nameL (u := nI k) (v := nI i) hx.1 ho (hn k i hk hi) hl
  refine ⟨w2, ?_, o2, p2⟩
  unfold f_X12_printName
  rw [x1205 hx.1, Option.bind_some, hx.su, Option.bind_some, u900 hx.1 hx.2.1.2.1, Option.bind_some]
  try dsimp only
  rw [ixa_n hk (by omega), Option.bind_some, unm hx.1 hx.2.1.2.1 hk, Option.bind_some]
  have ea : f_X4_at Kc (b + 14 + 2 * k) (nI i) w = some (nJ (pkX (nm k i)), w) := by
    unfold f_X4_at
    rw [if_neg (fun q => by have := lt0.mp q; rw [nI_toInt (by omega)] at this; omega), hx.2.2.1.1 k hk, if_lt_t (by omega) (by omega) hi, unp hx.1 hx.2.1.2.1 hk, Option.bind_some]
    try dsimp only
    rw [ixa_n (by omega) (by omega), Option.bind_some, h.2 k i hk hi]
    rfl
  rw [ea, Option.bind_some]
  exact e2
theorem pr_d : ∀ q, q < 8 → (48 + nI q).toInt8.toInt32 = nI (48 + q) := by decide +kernel
theorem x_printHearing {w : Wd} {b : Nat} {s t : Nat → Nat} {nm : Nat → Nat → List Nat} {l : List Nat} (h : PX w b s t nm) (hn : ∀ k i, k < 4 → i < s k → NmOK (nm k i)) (ho : OLx w l) {c : Nat} (hc : c < s 3) (hr : hrg t c = true) (hl : l.length + 29 ≤ 348) : ∃ w', f_X12_printHearing Kc 0 (nI c) w = some w' ∧ OLx w' (l ++ lnT t nm c) ∧ Ofi SOx AOx w w' := by
  have hx := h.1
  have h12 := hx.gs.1.2.2.2
  have g := hx.gt.hr (i := c) (by omega) hr
  have l1 := hx.gs.ln hc
  have n0 := (hn 0 (cs t c 5) (by omega) g.2.2.2.1).2.1
  have n3 := (hn 3 c (by omega) hc).2.1
  have n1 := (hn 1 (cs t c 6) (by omega) g.2.2.2.2).2.1
  obtain ⟨w1, e1, o1, p1⟩ := x_print hx.1 ho (by omega) (c := 48 + cs t c 4) (by omega)
  have h1 := h.ofi p1
  obtain ⟨w2, e2, o2, p2⟩ := x_print h1.1.1 o1 (by simp only [List.length_append, List.length_cons, List.length_nil]; omega) (c := 32) (by omega)
  have h2 := h1.ofi p2
  obtain ⟨w3, e3, o3, p3⟩ := x_printName h2 hn o2 (k := 0) (by omega) g.2.2.2.1 (by simp only [List.length_append, List.length_cons, List.length_nil]; omega)
  have h3 := h2.ofi p3
  obtain ⟨w4, e4, o4, p4⟩ := x_print h3.1.1 o3 (by simp only [List.length_append, List.length_cons, List.length_nil, nmT_len]; omega) (c := 32) (by omega)
  have h4 := h3.ofi p4
  obtain ⟨w5, e5, o5, p5⟩ := x_printName h4 hn o4 (k := 3) (by omega) hc (by simp only [List.length_append, List.length_cons, List.length_nil, nmT_len]; omega)
  have h5 := h4.ofi p5
  obtain ⟨w6, e6, o6, p6⟩ := x_print h5.1.1 o5 (by simp only [List.length_append, List.length_cons, List.length_nil, nmT_len]; omega) (c := 32) (by omega)
  have h6 := h5.ofi p6
  obtain ⟨w7, e7, o7, p7⟩ := x_printName h6 hn o6 (k := 1) (by omega) g.2.2.2.2 (by simp only [List.length_append, List.length_cons, List.length_nil, nmT_len]; omega)
  have h7 := h6.ofi p7
  obtain ⟨w8, e8, o8, p8⟩ := x_print h7.1.1 o7 (by simp only [List.length_append, List.length_cons, List.length_nil, nmT_len]; omega) (c := 10) (by omega)
  refine ⟨w8, ?_, ?_, (((((((p1.trans p2).trans p3).trans p4).trans p5).trans p6).trans p7).trans p8)⟩
  · unfold f_X12_printHearing
    rw [x1205 hx.1, Option.bind_some, hx.pg, Option.bind_some]
    try dsimp only
    rw [ixa_n (by omega) (by omega), Option.bind_some, hx.pe (by omega), Option.bind_some, hx.p3 (by omega) hr, pr_d _ (by omega), e1, Option.bind_some, show f_X12_print Kc 0 32 w1 = some w2 from e2, Option.bind_some, h2.1.p4 (by omega) hr, show f_X12_printName Kc 0 0 (nI (cs t c 5)) w2 = some w3 from e3, Option.bind_some, show f_X12_print Kc 0 32 w3 = some w4 from e4, Option.bind_some, show f_X12_printName Kc 0 3 (nI c) w4 = some w5 from e5, Option.bind_some, show f_X12_print Kc 0 32 w5 = some w6 from e6, Option.bind_some, h6.1.p5 (by omega) hr, show f_X12_printName Kc 0 1 (nI (cs t c 6)) w6 = some w7 from e7, Option.bind_some, show f_X12_print Kc 0 10 w7 = some w8 from e8, Option.bind_some]
  · unfold lnT
    simp only [List.append_assoc] at o8 ⊢
    exact o8
theorem m_saysHearing {w : Wd} {s t : Nat → Nat} {nm : Nat → Nat → List Nat} {l : List Nat} (h : PM w s t nm) (hn : ∀ k i, k < 4 → i < s k → NmOK (nm k i)) (ho : OLm w l) {c : Nat} (hc : c < s 3) (hr : hrg t c = true) (hl : l.length + 29 ≤ 348) : ∃ w', f_X13_saysHearing Kc 415 (nI c) w = some w' ∧ OLm w' (l ++ lnT t nm c) ∧ Ofi SOm AOm w w' := by
  have hm := h.1
  have hs := hm.gs.1
  have h12 := hs.2.2.2
  have g := hm.gt.hr (i := c) (by omega) hr
  have l1 := hm.gs.ln hc
  have k0 := hn 0 (cs t c 5) (by omega) g.2.2.2.1
  have k3 := hn 3 c (by omega) hc
  have k1 := hn 1 (cs t c 6) (by omega) g.2.2.2.2
  have n0 := k0.2.1
  have n3 := k3.2.1
  have n1 := k1.2.1
  have z0 := k0.1
  have z3 := k3.1
  have z1 := k1.1
  obtain ⟨w1, e1, o1, p1⟩ := m_says hm.1 ho (by omega) (c := 48 + cs t c 4) (by omega)
  have h1 := h.ofi p1
  obtain ⟨w2, e2, o2, p2⟩ := m_says h1.1.1 o1 (by simp only [List.length_append, List.length_cons, List.length_nil]; omega) (c := 32) (by omega)
  have h2 := h1.ofi p2
  obtain ⟨w3, e3, o3, p3⟩ := m_saysName ((nm 0 (cs t c 5)).length - 1) (nm 0 (cs t c 5)) w2 16 (by omega) (by omega) k0 h2.1.1 o2 (by simp only [List.length_append, List.length_cons, List.length_nil]; omega)
  have h3 := h2.ofi p3
  obtain ⟨w4, e4, o4, p4⟩ := m_says h3.1.1 o3 (by simp only [List.length_append, List.length_cons, List.length_nil, nmT_len]; omega) (c := 32) (by omega)
  have h4 := h3.ofi p4
  obtain ⟨w5, e5, o5, p5⟩ := m_saysName ((nm 3 c).length - 1) (nm 3 c) w4 16 (by omega) (by omega) k3 h4.1.1 o4 (by simp only [List.length_append, List.length_cons, List.length_nil, nmT_len]; omega)
  have h5 := h4.ofi p5
  obtain ⟨w6, e6, o6, p6⟩ := m_says h5.1.1 o5 (by simp only [List.length_append, List.length_cons, List.length_nil, nmT_len]; omega) (c := 32) (by omega)
  have h6 := h5.ofi p6
  obtain ⟨w7, e7, o7, p7⟩ := m_saysName ((nm 1 (cs t c 6)).length - 1) (nm 1 (cs t c 6)) w6 16 (by omega) (by omega) k1 h6.1.1 o6 (by simp only [List.length_append, List.length_cons, List.length_nil, nmT_len]; omega)
  have h7 := h6.ofi p7
  obtain ⟨w8, e8, o8, p8⟩ := m_says h7.1.1 o7 (by simp only [List.length_append, List.length_cons, List.length_nil, nmT_len]; omega) (c := 10) (by omega)
  refine ⟨w8, ?_, ?_, (((((((p1.trans p2).trans p3).trans p4).trans p5).trans p6).trans p7).trans p8)⟩
  · unfold f_X13_saysHearing
    rw [show f_X13_of Kc 415 (nI c) 4 w = some (nI (cs t c 4), w) from m_of hm (by omega) (k := 4) (by omega), Option.bind_some]
    try dsimp only
    rw [show (48 : Int32) = nI 48 from rfl, nI_add, e1, Option.bind_some, show f_X13_says Kc 415 32 w1 = some w2 from e2, Option.bind_some, show f_X13_of Kc 415 (nI c) 5 w2 = some (nI (cs t c 5), w2) from m_of h2.1 (by omega) (k := 5) (by omega), Option.bind_some, x1311 h2.1.1, Option.bind_some]
    try dsimp only
    rw [ixa_n (by omega) (by omega), Option.bind_some, show aJ w2 424 (cs t c 5) = nJ (pkM (nm 0 (cs t c 5))) from h2.2 0 _ (by omega) g.2.2.2.1, e3, Option.bind_some, show f_X13_says Kc 415 32 w3 = some w4 from e4, Option.bind_some, x1314 h4.1.1, Option.bind_some]
    try dsimp only
    rw [ixa_n (by omega) (by omega), Option.bind_some, show aJ w4 427 c = nJ (pkM (nm 3 c)) from h4.2 3 _ (by omega) hc, e5, Option.bind_some, show f_X13_says Kc 415 32 w5 = some w6 from e6, Option.bind_some, show f_X13_of Kc 415 (nI c) 6 w6 = some (nI (cs t c 6), w6) from m_of h6.1 (by omega) (k := 6) (by omega), Option.bind_some, x1312 h6.1.1, Option.bind_some]
    try dsimp only
    rw [ixa_n (by omega) (by omega), Option.bind_some, show aJ w6 425 (cs t c 6) = nJ (pkM (nm 1 (cs t c 6))) from h6.2 1 _ (by omega) g.2.2.2.2, e7, Option.bind_some, show f_X13_says Kc 415 10 w7 = some w8 from e8, Option.bind_some]
  · unfold lnT
    simp only [List.append_assoc] at o8 ⊢
    exact o8
theorem b_outputByte {w : Wd} (h : Inv w) (x : Int32) : Both0 (f_X12_outputByte Kc 0 x) (f_X13_outputByte Kc 415 x) w := by
  obtain ⟨b, s, t, hv⟩ := id h
  obtain ⟨n, ot, r0, r1, r2⟩ := hv.2.2.2.2.2.1
  have hx := hv.1.1
  have hm := hv.1.2.1
  by_cases e : inR x n
  · obtain ⟨k, hk, rfl⟩ := inR_nI e
    refine Both0.r h (a := ot k) ?_ ?_
    · unfold f_X12_outputByte
      rw [if_neg (fun q => by have := lt0.mp q; have := e.1; omega), r1.1, if_lt_t (by omega) (by omega) hk, x1214 hx.1, Option.bind_some]
      try dsimp only
      rw [ixa_n (by omega) (by omega), Option.bind_some, r1.2 k hk]
    · unfold f_X13_outputByte
      rw [Option.bind_some, tl_o (by omega), r2.1, isIn_n (n := n) (by
        rw [nJ_of (by omega)]
        cases n with
        | zero => omega
        | succ m =>
          rw [show (1 : Int64) = nJ 1 from rfl, nJ_sub (by omega), nJ_toInt (by omega)]
          omega), decide_eq_true e, Option.bind_some]
      try dsimp only
      rw [ib_t, x1337 hm.1.sI, Option.bind_some]
      try dsimp only
      rw [ixa_n (by omega) (by omega), Option.bind_some, aI_sI, r2.2 k hk]
  · refine Both0.r h (a := -1) ?_ ?_
    · unfold f_X12_outputByte
      by_cases e2 : x < 0
      · rw [if_pos e2]
      · rw [if_neg e2, r1.1, if_neg (fun q => e ⟨by have : ¬ x.toInt < 0 := fun z => e2 (lt0.mpr z); omega, (ltn (by omega)).mp q⟩)]
    · unfold f_X13_outputByte
      rw [Option.bind_some, tl_o (by omega), r2.1, isIn_n (n := n) (by
        rw [nJ_of (by omega)]
        cases n with
        | zero => decide
        | succ m =>
          rw [show (1 : Int64) = nJ 1 from rfl, nJ_sub (by omega), nJ_toInt (by omega)]
          omega), decide_eq_false e, Option.bind_some, ib_f]
