/-! The reference's output of a day. -/
theorem m_casesL {w : Wd} {s t : Nat → Nat} {nm : Nat → Nat → List Nat} (h : PM w s t nm) (hR : RmOK s t) (hn : ∀ k i, k < 4 → i < s k → NmOK (nm k i)) {d q r : Nat} (hd : d < 600) (hq : q < 8) (hr : r < s 0) (ho : OLm w (prA s t nm d q ++ prR s t nm d q r)) {k : Int32 → Int32 → Int32 → Int32 → Wd → Option (Int32 × Wd)} : ∃ w', f_X13_printDay_L41 Kc 415 k fu (nI d) (nI q) (nI r) (nI 0) w = k (nI d) (nI q) (nI r) (nI (s 3)) w' ∧ OLm w' (prA s t nm d q ++ prR s t nm d q (r + 1)) ∧ Ofi SOm AOm w w' := by
  have hS := h.1.gs
  have hT := h.1.gt
  have h03 := hS.1.1
  have h12 := hS.1.2.2.2
  refine loop_q (fun f c w1 => f_X13_printDay_L41 Kc 415 k f (nI d) (nI q) (nI r) (nI c) w1) (fun c w1 => OLm w1 ((prA s t nm d q ++ prR s t nm d q r) ++ pcL t nm d q r c) ∧ Ofi SOm AOm w w1) (fun z => ∃ w', z = k (nI d) (nI q) (nI r) (nI (s 3)) w' ∧ OLm w' (prA s t nm d q ++ prR s t nm d q (r + 1)) ∧ Ofi SOm AOm w w') (s 3) (fun f w1 hI => ?_) (fun f c w1 hc hI ih => ?_) fu 0 w ⟨by
    rw [show pcL t nm d q r 0 = [] from rfl, List.append_nil]; exact ho, Ofi.rf⟩ (by omega) (fu_lt (by omega))
  · try dsimp only
    have hm := (h.ofi hI.2).1
    rw [f_X13_printDay_L41, x1301 hm.1, Option.bind_some]
    try dsimp only
    rw [show ixa 3 170 = some 3 from rfl, Option.bind_some, hm.S (by omega), if_le_t (by omega) (by omega) (Nat.le_refl _)]
    refine ⟨w1, rfl, ?_, hI.2⟩
    rw [prR, ← List.append_assoc]
    exact hI.1
  · try dsimp only at ih ⊢
    have h1 := h.ofi hI.2
    have hm := h1.1
    have same : onS t d q r c = false → OLm w1 ((prA s t nm d q ++ prR s t nm d q r) ++ pcL t nm d q r (c + 1)) := fun e => by
      have : pcL t nm d q r (c + 1) = pcL t nm d q r c := by
        unfold pcL
        rw [fst_snoc]
        cases fstF (onS t d q r) 0 c with
        | some x => rfl
        | none =>
          dsimp only
          rw [Nat.zero_add, e, if_neg (by decide)]
      rw [this]
      exact hI.1
    rw [f_X13_printDay_L41, x1301 hm.1, Option.bind_some]
    try dsimp only
    rw [show ixa 3 170 = some 3 from rfl, Option.bind_some, hm.S (by omega), if_le_f (by omega) (by omega) hc, m_hasHearing hm (by omega), Option.bind_some, show nI c + 1 = nI (c + 1) from nI_add c 1]
    try dsimp only
    cases e1 : hrg t c with
    | false =>
      rw [ib_f]
      exact ih w1 ⟨same (by unfold onS; rw [e1]; rfl), hI.2⟩
    | true =>
      have g := hT.hr (i := c) (by omega) e1
      have l1 := hS.ln hc
      rw [ib_t, show f_X13_of Kc 415 (nI c) 3 w1 = some (nI (cs t c 3), w1) from m_of hm (by omega) (k := 3) (by omega), Option.bind_some]
      try dsimp only
      by_cases e3 : cs t c 3 = d
      · rw [if_eq_t e3, show f_X13_of Kc 415 (nI c) 4 w1 = some (nI (cs t c 4), w1) from m_of hm (by omega) (k := 4) (by omega), Option.bind_some]
        try dsimp only
        by_cases e4 : cs t c 4 = q
        · rw [if_eq_t e4, show f_X13_of Kc 415 (nI c) 5 w1 = some (nI (cs t c 5), w1) from m_of hm (by omega) (k := 5) (by omega), Option.bind_some]
          try dsimp only
          by_cases e5 : cs t c 5 = r
          · have on : onS t d q r c = true := onS_iff.mpr ⟨e1, e3, e4, e5⟩
            have e0 : fstF (onS t d q r) 0 c = none := by
              cases e6 : fstF (onS t d q r) 0 c with
              | none => rfl
              | some c' =>
                obtain ⟨y1, y2, y3⟩ := fstF_p _ _ _ e6
                have := one_tkn hS hT hR (onS_tkn hS (by omega) y3) (onS_tkn hS hc on) (by omega) hc
                omega
            have p0 : pcL t nm d q r c = [] := by unfold pcL; rw [e0]
            have p1 : pcL t nm d q r (c + 1) = lnT t nm c := by
              unfold pcL
              rw [fst_snoc, e0]
              dsimp only
              rw [Nat.zero_add, on, if_pos rfl]
            have i1 := hI.1
            rw [p0, List.append_nil] at i1
            obtain ⟨w2, z2, o2, t2⟩ := m_saysHearing h1 hn i1 hc e1 (pr_room hS hT hn hc on)
            rw [if_eq_t e5, z2, Option.bind_some]
            refine ih w2 ⟨?_, hI.2.trans t2⟩
            rw [p1]
            exact o2
          · rw [if_eq_f (by omega) (by omega) e5]
            refine ih w1 ⟨same ?_, hI.2⟩
            cases e6 : onS t d q r c with
            | false => rfl
            | true => exact absurd (onS_iff.mp e6).2.2.2 e5
        · rw [if_eq_f (by omega) (by omega) e4]
          refine ih w1 ⟨same ?_, hI.2⟩
          cases e6 : onS t d q r c with
          | false => rfl
          | true => exact absurd (onS_iff.mp e6).2.2.1 e4
      · rw [if_eq_f (by omega) (by omega) e3]
        refine ih w1 ⟨same ?_, hI.2⟩
        cases e6 : onS t d q r c with
        | false => rfl
        | true => exact absurd (onS_iff.mp e6).2.1 e3
theorem m_roomsL {w : Wd} {s t : Nat → Nat} {nm : Nat → Nat → List Nat} (h : PM w s t nm) (hR : RmOK s t) (hn : ∀ k i, k < 4 → i < s k → NmOK (nm k i)) {d q : Nat} (hd : d < 600) (hq : q < 8) (ho : OLm w (prA s t nm d q)) {k : Int32 → Int32 → Int32 → Wd → Option (Int32 × Wd)} : ∃ w', f_X13_printDay_L28 Kc 415 k fu (nI d) (nI q) (nI 0) w = k (nI d) (nI q) (nI (s 0)) w' ∧ OLm w' (prA s t nm d (q + 1)) ∧ Ofi SOm AOm w w' := by
  have hS := h.1.gs
  have h03 := hS.1.1
  refine loop_q (fun f r w1 => f_X13_printDay_L28 Kc 415 k f (nI d) (nI q) (nI r) w1) (fun r w1 => OLm w1 (prA s t nm d q ++ prR s t nm d q r) ∧ Ofi SOm AOm w w1) (fun z => ∃ w', z = k (nI d) (nI q) (nI (s 0)) w' ∧ OLm w' (prA s t nm d (q + 1)) ∧ Ofi SOm AOm w w') (s 0) (fun f w1 hI => ?_) (fun f r w1 hr hI ih => ?_) fu 0 w ⟨by rw [prR, List.append_nil]; exact ho, Ofi.rf⟩ (by omega) (fu_lt (by omega))
  · try dsimp only
    have hm := (h.ofi hI.2).1
    rw [f_X13_printDay_L28, x1301 hm.1, Option.bind_some]
    try dsimp only
    rw [show ixa 0 170 = some 0 from rfl, Option.bind_some, hm.S (by omega), if_le_t (by omega) (by omega) (Nat.le_refl _)]
    exact ⟨w1, rfl, hI.1, hI.2⟩
  · try dsimp only at ih ⊢
    have h1 := h.ofi hI.2
    have hm := h1.1
    obtain ⟨w2, e2, o2, t2⟩ := m_casesL h1 hR hn hd hq hr hI.1 (k := fun v1_41 v2_41 v3_41 v4_41 w11 => f_X13_printDay_L28 Kc 415 k f v1_41 v2_41 (v3_41 + 1) w11)
    rw [f_X13_printDay_L28, x1301 hm.1, Option.bind_some]
    try dsimp only
    rw [show ixa 0 170 = some 0 from rfl, Option.bind_some, hm.S (by omega), if_le_f (by omega) (by omega) hr, show (0 : Int32) = nI 0 from rfl, e2, show nI r + 1 = nI (r + 1) from nI_add r 1]
    exact ih w2 ⟨o2, hI.2.trans t2⟩
theorem m_slotsL {w : Wd} {s t : Nat → Nat} {nm : Nat → Nat → List Nat} (h : PM w s t nm) (hR : RmOK s t) (hn : ∀ k i, k < 4 → i < s k → NmOK (nm k i)) {d : Nat} (hd : d < 600) (ho : OLm w []) : ∃ w', f_X13_printDay_L20 Kc 415 (fun v1_20 v2_20 w5 => some ((wI w5 1338 415), w5)) fu (nI d) (nI 0) w = some (nI (prA s t nm d 8).length, w') ∧ OLm w' (prA s t nm d 8) ∧ Ofi SOm AOm w w' := by
  refine loop_q (fun f q w1 => f_X13_printDay_L20 Kc 415 (fun v1_20 v2_20 w5 => some ((wI w5 1338 415), w5)) f (nI d) (nI q) w1) (fun q w1 => OLm w1 (prA s t nm d q) ∧ Ofi SOm AOm w w1) (fun z => ∃ w', z = some (nI (prA s t nm d 8).length, w') ∧ OLm w' (prA s t nm d 8) ∧ Ofi SOm AOm w w') 8 (fun f w1 hI => ?_) (fun f q w1 hq hI ih => ?_) fu 0 w ⟨ho, Ofi.rf⟩ (by omega) (fu_lt (by omega))
  · try dsimp only
    rw [f_X13_printDay_L20, show (8 : Int32) = nI 8 from rfl, if_le_t (by omega) (by omega) (Nat.le_refl _)]
    exact ⟨w1, by rw [hI.1.1], hI.1, hI.2⟩
  · try dsimp only at ih ⊢
    obtain ⟨w2, e2, o2, t2⟩ := m_roomsL (h.ofi hI.2) hR hn hd hq hI.1 (k := fun v1_28 v2_28 v3_28 w7 => f_X13_printDay_L20 Kc 415 (fun v1_20 v2_20 w5 => some ((wI w5 1338 415), w5)) f v1_28 (v2_28 + 1) w7)
    rw [f_X13_printDay_L20, show (8 : Int32) = nI 8 from rfl, if_le_f (by omega) (by omega) hq, show (0 : Int32) = nI 0 from rfl, e2, show nI q + 1 = nI (q + 1) from nI_add q 1]
    exact ih w2 ⟨o2, hI.2.trans t2⟩
def SPd (f x : Nat) : Prop := (x = 0 ∧ f = 1215) ∨ (x = 415 ∧ (f = 1300 ∨ f = 1338))
def APd (x : Nat) : Prop := x = 414 ∨ x = 436 ∨ x = 437
theorem invOut {w w' : Wd} (h : Inv w) (k : Fr SPd APd w w') (hf : FX w') (ho : OT w') : Inv w' := by
  obtain ⟨b, s, t, ⟨c1, c2, c3, c4⟩, ⟨m, hs, p1, p2⟩, ⟨v, st, q1, q2⟩, ⟨⟨b2, z1, z2, z3⟩, ⟨n, bf, y1, y2, y3⟩, _, e, nm, n3, n4, n5⟩⟩ := h
  have hbs := c1.2.1.2.1
  have ub := SU_rg hbs
  refine ⟨b, s, t, ⟨c1.fr k hf (fun f x q => ?_) (fun x q => ?_), c2.fr k hf (by unfold APd; omega) (by unfold APd; omega), c3, by rw [(k.1 1315 415 (by unfold SPd; omega)).1]; exact c4⟩, ⟨m, hs, p1.fr hbs k hf (fun f x q => ?_) (fun x q => ?_), p2.fr k (by unfold SPd; omega) (by unfold APd; omega)⟩, ⟨v, st, q1.fr hbs k hf (fun f x q => ?_) (fun x q => ?_), q2.fr k (by unfold SPd; omega) (by unfold APd; omega)⟩, ⟨b2, z1, z2, by rw [(k.1 501 36 (by unfold SPd; omega)).2.1]; exact z3⟩, ⟨n, bf, y1, ⟨by rw [(k.1 1201 0 (by unfold SPd; omega)).1]; exact y2.1, fun i hi => by rw [(k.2 35 (by unfold APd; omega)).1]; exact y2.2 i hi⟩, by rw [(k.1 1324 415 (by unfold SPd; omega)).1]; exact y3.1, fun i hi => by rw [(k.2 431 (by unfold APd; omega)).1]; exact y3.2 i hi⟩, ho, ⟨by rw [(k.1 1203 0 (by unfold SPd; omega)).1, (k.1 1331 415 (by unfold SPd; omega)).1]; exact e.1, by rw [(k.1 1204 0 (by unfold SPd; omega)).1, (k.1 1332 415 (by unfold SPd; omega)).1]; exact e.2⟩, nm, n3, fun x i hx hi => ?_, fun x i hx hi => ?_⟩
  case refine_7 => rw [(k.2 (b + 15 + 2 * x) (by unfold APd; omega)).2.1]; exact n4 x i hx hi
  case refine_8 => rw [(k.2 (424 + x) (by unfold APd; omega)).2.1]; exact n5 x i hx hi
  all_goals try simp only [SPd, APd] at q
  all_goals try unfold RG RB
  all_goals try unfold inU
  all_goals omega
theorem b_printDay {w : Wd} (h : Inv w) (x : Int32) : Both (f_X12_printDay Kc 0 x) (f_X13_printDay Kc 415 x) E21 w := by
  obtain ⟨b, s, t, hv⟩ := id h
  have hx := hv.1.1
  have hm := hv.1.2.1
  have hR := hv.1.2.2.1.2
  obtain ⟨nm, n3, n4, n5⟩ := hv.2.2.2.2.2.2.2
  by_cases e : inR x 600
  · obtain ⟨d, hd, rfl⟩ := inR_nI e
    have O0 : Ofi SOx AOx w (sI w 1215 0 0) := ofi_sI ⟨rfl, rfl⟩
    have P0 : PX (sI w 1215 0 0) b s t nm := PX.ofi ⟨hx, n4⟩ O0
    obtain ⟨w1, e1, o1, p1⟩ := x_slotsL P0 hR n3 hd ⟨by rw [wI_sI, if_pos ⟨rfl, rfl⟩]; rfl, fun k hk => by simp at hk⟩
    have P1 := P0.ofi p1
    have r01 : Fr SPd APd w w1 := (O0.trans p1).fr.mono (fun f x q => Or.inl q) (fun x q => Or.inl q)
    refine ⟨.inl (nI (prA s t nm d 8).length), w1, ?_, fun u0 r2 => ?_⟩
    · unfold f_X12_printDay
      rw [x_reqD, if_pos e, Option.bind_some, xk_l]
      try dsimp only
      rw [Option.bind_some]
      exact e1
    · have fu0 := f437 P1.1.1 r2
      have r02 : Fr SPd APd w u0 := r01.trans (r2.mono (fun _ _ q => q.elim) (fun x q => Or.inr (Or.inr q)))
      have H0 : HM u0 s t := hm.fr r02 fu0 (by unfold APd; omega) (by unfold APd; omega)
      have N0 : NMm u0 s nm := fun k i hk hi => by rw [(r02.2 (424 + k) (by unfold APd; omega)).2.1]; exact n5 k i hk hi
      have O1 : Ofi SOm AOm (sI u0 1300 415 0) (sI (sI u0 1300 415 0) 1338 415 0) := ofi_sI ⟨rfl, rfl⟩
      have Q1 : PM (sI (sI u0 1300 415 0) 1338 415 0) s t nm := PM.ofi ⟨H0.tl, N0⟩ O1
      obtain ⟨u1, d1, o2, p2⟩ := m_slotsL Q1 hR n3 hd ⟨by rw [wI_sI, if_pos ⟨rfl, rfl⟩]; rfl, fun k hk => by simp at hk⟩
      have Q2 := Q1.ofi p2
      have r23 : Fr SPd APd u0 u1 := (fr_sI (Or.inr ⟨rfl, Or.inl rfl⟩)).trans ((O1.trans p2).fr.mono (fun f x q => Or.inr ⟨q.1, Or.inr q.2⟩) (fun x q => Or.inr (Or.inl q)))
      have len : (prA s t nm d 8).length ≤ 348 := by
        have h1 := pr_len hx.gs hx.gt n3 (d := d) 8 0
        rw [prR, List.append_nil] at h1
        have h3 := cnt_le (p := bef t d 8 0) (s 3)
        have := hx.gs.1.2.2.2
        omega
      refine ⟨nI (prA s t nm d 8).length, u1, ?_, invOut h (r02.trans r23) Q2.1.1 ⟨(prA s t nm d 8).length, fun k => nI ((prA s t nm d 8).getD k 0), len, ⟨?_, fun k hk => ?_⟩, o2.1, fun k hk => o2.2 k hk⟩, congrFun ((show aJ u1 = aJ (sI (sI u0 1300 415 0) 1338 415 0) from p2.1.2.2.2.2.1)) 437, rfl, ?_⟩
      · unfold f_X13_printDay
        rw [m_isDay, decide_eq_true e, Option.bind_some]
        try dsimp only
        rw [m_isT, Option.bind_some]
        try dsimp only
        rw [ib_t, Option.bind_some]
        exact d1
      · rw [p2.2.1 1215 0 (by unfold SOm; omega), wI_sI, if_neg (by omega), tl_o (by omega), (r2.1 1215 0 (fun q => q)).1]
        exact o1.1
      · rw [p2.2.2 414 (by unfold AOm; omega), aI_sI, aI_sI, (r2.2 414 (by unfold A437; omega)).1]
        exact o1.2 k hk
      · rw [p2.2.1 1300 415 (by unfold SOm; omega), wI_sI, if_neg (by omega), tl_t]
  · refine Bfail hv (e := 2) (w1 := w) ?_ Fr.rf hx.1 (fun u0 H0 G0 => ⟨0, 1, ?_, rfl, rfl⟩)
    · unfold f_X12_printDay
      rw [x_reqD, if_neg e, Option.bind_some, xk_r]
    · unfold f_X13_printDay
      rw [m_isDay, decide_eq_false e, Option.bind_some]
      try dsimp only
      rw [m_isF, Option.bind_some, ib_f]
