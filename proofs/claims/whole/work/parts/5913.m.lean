/-! addBar -/
def brT (t : Nat → Nat) (j o : Nat) : Nat → Nat := ups t (34 + j) (t (34 + j) ||| 2 ^ o)
theorem brT_ne {t : Nat → Nat} {j o x : Nat} (h : x ≠ 34 + j) : brT t j o x = t x := ups_ne h
theorem brT_j {t : Nat → Nat} {j o : Nat} : brT t j o (34 + j) = t (34 + j) ||| 2 ^ o := ups_eq
theorem brT_cs {t : Nat → Nat} {j o i k : Nat} (hj : j < 12) : cs (brT t j o) i k = cs t i k := brT_ne (by omega)
theorem brT_hol {t : Nat → Nat} {j o e : Nat} (hT : t 1 ≤ 20) : isHol (brT t j o) e = isHol t e := by
  unfold isHol
  rw [brT_ne (by omega)]
  refine Bool.eq_iff_iff.mpr ?_
  rw [anyF_iff, anyF_iff]
  constructor
  · rintro ⟨k, k1, k2, k3⟩
    refine ⟨k, k1, k2, ?_⟩
    rw [brT_ne (by omega)] at k3
    exact k3
  · rintro ⟨k, k1, k2, k3⟩
    refine ⟨k, k1, k2, ?_⟩
    rw [brT_ne (by omega)]
    exact k3
theorem brT_good {s t : Nat → Nat} (hT : GoodT s t) {j o : Nat} (hj : j < 12) (ho : o < s 1) : GoodT s (brT t j o) := by
  obtain ⟨g1, g2, g3, g4, g5, g6, g7⟩ := hT
  refine ⟨by rw [brT_ne (by omega)]; exact g1, by rw [brT_ne (by omega)]; exact g2, fun k hk => ?_, fun i k hi hk e => ?_, fun i hi => by rw [brT_ne (by omega)]; exact g5 i hi, fun i hi => ?_, fun i hi => ?_⟩
  · rw [brT_ne (by omega)] at hk
    rw [brT_ne (by omega)]; exact g3 k hk
  · rw [brT_ne (by omega)] at hi hk
    rw [brT_ne (by omega), brT_ne (by omega)] at e
    exact g4 i k hi hk e
  · by_cases e : i = j
    · rw [e, brT_j]
      exact Nat.or_lt_two_pow (g6 j hj) (Nat.pow_lt_pow_right (by omega) ho)
    · rw [brT_ne (by omega)]; exact g6 i hi
  · have hr : hrg (brT t j o) i = hrg t i := by unfold hrg; rw [brT_cs hj]
    rw [hr, brT_cs hj, brT_cs hj, brT_cs hj, brT_cs hj, brT_cs hj, brT_cs hj, brT_cs hj]
    exact g7 i hi
theorem brT_ok {s t : Nat → Nat} (h : POK s t) {j o : Nat} (hj : j < 12) : POK s (brT t j o) := h.csq (brT_ne (by omega)) (fun i k hi hk => brT_cs hj)
theorem x_br {w : Wd} {b : Nat} {s t : Nat → Nat} (h : HX w 73 b s t) {j o : Nat} (hj : j < 12) (ho : o < s 1) : HX (tI w 77 j (nI (t (34 + j) ||| 2 ^ o))) 73 b s (brT t j o) := by
  have hT := h.gt
  have g2 := hT.2.1
  have ub := SU_rg h.2.1.2.1
  have hs := h.gs.1
  have ai : ∀ x, x ≠ 77 → aI (tI w 77 j (nI (t (34 + j) ||| 2 ^ o))) x = aI w x := fun x hx => funext fun k => by rw [aI_tI, if_neg (fun q => hx q.1)]
  obtain ⟨v1, v2, v3, v4, v5⟩ := h.2.2.2.1
  refine ⟨h.1.tI, h.2.1, ?_, ?_, h.gs, brT_good hT hj ho⟩
  · obtain ⟨u1, u2, u3, u4, u5, u6, u7, u8⟩ := h.2.2.1
    refine ⟨u1, fun r hr => ?_, fun o ho => ?_, fun o ho k hk => ?_, fun i hi => ?_, u6, fun k hk => ?_, u8⟩
    · rw [ai _ (by omega)]; exact u2 r hr
    · rw [ai _ (by omega)]; exact u3 o ho
    · rw [ai (b + 4) (by omega), ai (b + 5) (by omega)]; exact u4 o ho k hk
    · rw [ai (b + 6) (by omega), ai (b + 8) (by omega), ai (b + 9) (by omega)]; exact u5 i hi
    · rw [ai _ (by omega)]; exact u7 k hk
  · refine ⟨⟨by rw [brT_ne (by omega)]; exact v1.1, by rw [brT_ne (by omega)]; exact v1.2⟩, fun e he => by rw [ai _ (by omega), brT_hol g2]; exact v2 e he, fun i hi => by rw [ai _ (by omega), brT_ne (by omega)]; exact v3 i hi, fun i hi => ?_, fun i hi => ?_⟩
    · rw [aI_tI]
      by_cases e : i = j
      · rw [if_pos ⟨rfl, e⟩, e, brT_j]
      · rw [if_neg (fun q => e q.2), brT_ne (by omega)]
        exact v4 i hi
    · have hr : hrg (brT t j o) i = hrg t i := by unfold hrg; rw [brT_cs hj]
      have hc : ∀ k, cs (brT t j o) i k = cs t i k := fun k => brT_cs hj
      simp only [hr, hc]
      rw [ai _ (by omega)]
      exact v5 i hi
theorem m_br {w : Wd} {s t : Nat → Nat} (h : HM w s t) {j o : Nat} (hj : j < 12) (ho : o < s 1) : HM (tI w 418 (34 + j) (nI (t (34 + j) ||| 2 ^ o))) s (brT t j o) := ⟨h.1.tI, h.2.1, fun k hk => by
  rw [aI_tI]
  by_cases e : k = 34 + j
  · rw [if_pos ⟨rfl, e⟩, if_neg (by omega), e, brT_j]
  · rw [if_neg (fun q => e q.2), brT_ne e]
    exact h.2.2.1 k hk, h.gs, brT_good h.gt hj ho⟩
theorem b_addBar {w : Wd} (h : Inv w) (x y : Int32) : Both (f_X12_addBar Kc 0 x y) (f_X13_addBar Kc 415 x y) E1132 w := by
  obtain ⟨b, s, t, hv⟩ := h
  have hx := hv.1.1
  have hp := hv.1.2.2.1
  have hs := hx.gs.1
  by_cases e : inR x (s 1)
  · by_cases e2 : inR y (s 3)
    · obtain ⟨o, ho, rfl⟩ := inR_nI e
      obtain ⟨j, hj, rfl⟩ := inR_nI e2
      have hj12 : j < 12 := by omega
      have bl := hx.gt.2.2.2.2.2.1 j hj12
      have p6 : 2 ^ s 1 ≤ 2 ^ 6 := Nat.pow_le_pow_right (by omega) (by omega)
      have bl2 : t (34 + j) < 2 ^ 31 := by omega
      have bl3 : t (34 + j) < 2 ^ 32 := by omega
      have po : 2 ^ o < 2 ^ 32 := Nat.pow_lt_pow_right (by omega) (by omega)
      have c3 := hx.gt.c3 hj12
      have mpre : ∀ u0 u1, HM u0 s t → f_X13_starts Kc 415 (sI u0 1300 415 0) = some u1 → HM u1 s t → (t (34 + j)).testBit o = false → f_X13_addBar Kc 415 (nI o) (nI j) u0 = ((f_X13_of Kc 415 (nI j) 0 (tI u1 418 (34 + j) (nI (t (34 + j) ||| 2 ^ o)))).bind fun q150 => if q150.1 = 1 then ((f_X13_of Kc 415 (nI j) 6 q150.2).bind fun q156 => if q156.1 = (nI o) then ((f_X13_takesAway Kc 415 (nI j) 1 q156.2).bind fun q163 => (f_X13_done Kc 415 1 q163).bind fun q164 => if q164.1 = 1 then (some (true, q164.2)) else (some (false, q164.2))) else ((f_X13_done Kc 415 1 q156.2).bind fun q159 => if q159.1 = 1 then (some (false, q159.2)) else (some (false, q159.2)))) else ((f_X13_done Kc 415 1 q150.2).bind fun q153 => if q153.1 = 1 then (some (false, q153.2)) else (some (false, q153.2)))) := fun u0 u1 H0 d1 H1 e3 => by
        unfold f_X13_addBar
        rw [m_isOfficer H0, decide_eq_true e, Option.bind_some]
        try dsimp only
        rw [ib_t, m_isCase H0, decide_eq_true e2, Option.bind_some]
        try dsimp only
        rw [ib_t, m_isT, Option.bind_some]
        try dsimp only
        rw [ib_t, x1303 H0.tl.1, Option.bind_some, show (34 : Int32) = nI 34 from rfl, nI_add]
        try dsimp only
        rw [ixa_n (by omega) (by omega), Option.bind_some, H0.tl.T (by omega) (by omega), m_has bl2 (by omega), e3, Option.bind_some]
        try dsimp only
        rw [ib_f, m_mayT, Option.bind_some, sI_sI]
        try dsimp only
        rw [ib_t, d1, Option.bind_some, x1303 H1.1, Option.bind_some]
        try dsimp only
        rw [ixa_n (by omega) (by omega), Option.bind_some, Option.bind_some, Option.bind_some, H1.T (by omega) (by omega), show (31 : Int32) = nI 31 from rfl, show (1 : Int32) = nI 1 from rfl, shl_nI (by omega) (by rw [Nat.one_mul]; exact po), Nat.one_mul, or_nI bl3 po]
      have xpre : ∀ w1, f_X12_remember Kc 0 w = some w1 → HX w1 73 b s t → (t (34 + j)).testBit o = false → f_X12_addBar Kc 0 (nI o) (nI j) w = ((chk Kc 9 (wR (tI w1 77 j (nI (t (34 + j) ||| 2 ^ o))) 1205 0)).bind fun a16 => (cha Kc 27 (wR (tI w1 77 j (nI (t (34 + j) ||| 2 ^ o))) 1005 a16)).bind fun a17 => (ixa (nI j) a17.2).bind fun j18 => (chk Kc 6 (aR (tI w1 77 j (nI (t (34 + j) ||| 2 ^ o))) a17.1 j18)).bind fun a19 => if (wI (tI w1 77 j (nI (t (34 + j) ||| 2 ^ o))) 700 a19) = 1 then (if (wI (tI w1 77 j (nI (t (34 + j) ||| 2 ^ o))) 705 a19) = (nI o) then ((f_X10_takeAway Kc a16 (nI j) 1 (tI w1 77 j (nI (t (34 + j) ||| 2 ^ o)))).bind fun q25 => some (.inl true, q25)) else (some (.inl false, (tI w1 77 j (nI (t (34 + j) ||| 2 ^ o)))))) else (some (.inl false, (tI w1 77 j (nI (t (34 + j) ||| 2 ^ o)))))) := fun w1 e1 k1 e3 => by
        unfold f_X12_addBar
        rw [x_re1 hx, if_pos e, Option.bind_some, xk_l]
        try dsimp only
        rw [x_re3 hx, if_pos e2, Option.bind_some, xk_l]
        try dsimp only
        rw [x1205 hx.1, Option.bind_some, t1004 hx.1 (by decide), Option.bind_some]
        try dsimp only
        rw [ixa_n hj12 (by omega), Option.bind_some, show aI w 77 j = nI (t (34 + j)) from hx.2.2.2.1.2.2.2.1 j hj12, x_has bl2 (by omega), e3, Option.bind_some]
        try dsimp only
        rw [ib_f, e1, Option.bind_some, x1205 k1.1, Option.bind_some, t1004 k1.1 (by decide), Option.bind_some]
        try dsimp only
        rw [ixa_n hj12 (by omega), Option.bind_some, Option.bind_some, Option.bind_some, show aI w1 77 j = nI (t (34 + j)) from k1.2.2.2.1.2.2.2.1 j hj12, show (31 : Int32) = nI 31 from rfl, show (1 : Int32) = nI 1 from rfl, shl_nI (by omega) (by rw [Nat.one_mul]; exact po), Nat.one_mul, or_nI bl3 po]
      cases e3 : (t (34 + j)).testBit o with
      | false =>
        by_cases e4 : cs t j 0 = 1 ∧ cs t j 6 = o
        · have hr : hrg (brT t j o) j = true := by unfold hrg; rw [brT_cs hj12, e4.1]; rfl
          refine Bmut (t' := tkT s (brT t j o) j 1) (a := true) hv Fr.rf hx.1 (pok_tkT (brT_good hx.gt hj12 ho) (brT_ok hp hj12) hj12) (fun w1 e1 k1 r1 => ?_) (fun u0 H0 G0 => ?_)
          · have k2 := x_br k1 hj12 ho
            obtain ⟨w3, x3, k3, o3⟩ := x_takeAway k2 hj (p := 1) (by omega) hr
            refine ⟨w3, ?_, k3, ((ofi_tI (S := NS) (A := fun x => x = 77) rfl).fr.mono (fun _ _ q => q.elim) (fun x q => by unfold MA RG; omega)).trans (o3.fr.mono (fun f x q => by unfold MX RG; omega) (fun x q => by unfold MA RG; omega))⟩
            rw [xpre w1 e1 k1 e3, x1205 k2.1, Option.bind_some, k2.pg, Option.bind_some]
            try dsimp only
            rw [ixa_n hj12 (by omega), Option.bind_some, k2.pe hj12, Option.bind_some, k2.p0 hj12, brT_cs hj12, if_pos (show nI (cs t j 0) = 1 by rw [e4.1]; rfl), k2.p5 hj12 hr, brT_cs hj12, if_eq_t e4.2]
            have x4 : f_X10_takeAway Kc 73 (nI j) 1 (tI w1 77 j (nI (t (34 + j) ||| 2 ^ o))) = some w3 := x3
            rw [x4, Option.bind_some]
          · obtain ⟨u1, d1, r1, H1, g1, G1, l1⟩ := m_begin H0
            have H2 := m_br H1 hj12 ho
            obtain ⟨u3, d3, H3, o3⟩ := m_takesAway H2 hj (p := 1) (by omega)
            have o4 := (ofi_tI (w := u1) (a := 418) (i := 34 + j) (v := nI (t (34 + j) ||| 2 ^ o)) (S := NS) (A := fun x => x = 418) rfl).trans o3
            refine ⟨1, u3, H3, r1.trans (o4.fr.mono (fun _ _ q => q.elim) (fun x q => by unfold TAm; omega)), by rw [o4.2.1 _ _ (fun q => q)]; exact g1, by rw [o4.2.1 _ _ (fun q => q), G1]; exact G0, fun k hk => by rw [o4.2.2 420 (by omega)]; exact l1 k hk, fun u4 d4 => ?_⟩
            have x4 : f_X13_takesAway Kc 415 (nI j) 1 (tI u1 418 (34 + j) (nI (t (34 + j) ||| 2 ^ o))) = some u3 := d3
            rw [mpre u0 u1 H0 d1 H1 e3, show f_X13_of Kc 415 (nI j) 0 (tI u1 418 (34 + j) (nI (t (34 + j) ||| 2 ^ o))) = some (nI (cs (brT t j o) j 0), (tI u1 418 (34 + j) (nI (t (34 + j) ||| 2 ^ o)))) from m_of H2 hj12 (k := 0) (by omega), Option.bind_some]
            try dsimp only
            rw [brT_cs hj12, if_pos (show nI (cs t j 0) = 1 by rw [e4.1]; rfl), show f_X13_of Kc 415 (nI j) 6 (tI u1 418 (34 + j) (nI (t (34 + j) ||| 2 ^ o))) = some (nI (cs (brT t j o) j 6), (tI u1 418 (34 + j) (nI (t (34 + j) ||| 2 ^ o)))) from m_of H2 hj12 (k := 6) (by omega), Option.bind_some]
            try dsimp only
            rw [brT_cs hj12, if_eq_t e4.2, x4, Option.bind_some, d4, Option.bind_some, if_pos rfl]
        · refine Bmut (t' := brT t j o) (a := false) hv Fr.rf hx.1 (brT_ok hp hj12) (fun w1 e1 k1 r1 => ?_) (fun u0 H0 G0 => ?_)
          · have k2 := x_br k1 hj12 ho
            refine ⟨_, ?_, k2, ((ofi_tI (S := NS) (A := fun x => x = 77) rfl).fr.mono (fun _ _ q => q.elim) (fun x q => by unfold MA RG; omega))⟩
            rw [xpre w1 e1 k1 e3, x1205 k2.1, Option.bind_some, k2.pg, Option.bind_some]
            try dsimp only
            rw [ixa_n hj12 (by omega), Option.bind_some, k2.pe hj12, Option.bind_some, k2.p0 hj12, brT_cs hj12]
            by_cases e5 : cs t j 0 = 1
            · have hr : hrg (brT t j o) j = true := by unfold hrg; rw [brT_cs hj12, e5]; rfl
              have h6 := hx.gt.hr hj12 (by unfold hrg; rw [e5]; rfl)
              rw [if_pos (show nI (cs t j 0) = 1 by rw [e5]; rfl), k2.p5 hj12 hr, brT_cs hj12, if_eq_f (by omega) (by omega) (fun q => e4 ⟨e5, q⟩)]
            · rw [if_neg (show ¬ nI (cs t j 0) = 1 from fun q => e5 ((nI_eq (b := 1) (by omega) (by omega)).mp q))]
          · obtain ⟨u1, d1, r1, H1, g1, G1, l1⟩ := m_begin H0
            have H2 := m_br H1 hj12 ho
            have o4 := (ofi_tI (w := u1) (a := 418) (i := 34 + j) (v := nI (t (34 + j) ||| 2 ^ o)) (S := NS) (A := fun x => x = 418) rfl)
            refine ⟨1, _, H2, r1.trans (o4.fr.mono (fun _ _ q => q.elim) (fun x q => by unfold TAm; omega)), by rw [o4.2.1 _ _ (fun q => q)]; exact g1, by rw [o4.2.1 _ _ (fun q => q), G1]; exact G0, fun k hk => by rw [o4.2.2 420 (by omega)]; exact l1 k hk, fun u4 d4 => ?_⟩
            rw [mpre u0 u1 H0 d1 H1 e3, show f_X13_of Kc 415 (nI j) 0 (tI u1 418 (34 + j) (nI (t (34 + j) ||| 2 ^ o))) = some (nI (cs (brT t j o) j 0), (tI u1 418 (34 + j) (nI (t (34 + j) ||| 2 ^ o)))) from m_of H2 hj12 (k := 0) (by omega), Option.bind_some]
            try dsimp only
            rw [brT_cs hj12]
            by_cases e5 : cs t j 0 = 1
            · have h6 := hx.gt.hr hj12 (by unfold hrg; rw [e5]; rfl)
              rw [if_pos (show nI (cs t j 0) = 1 by rw [e5]; rfl), show f_X13_of Kc 415 (nI j) 6 (tI u1 418 (34 + j) (nI (t (34 + j) ||| 2 ^ o))) = some (nI (cs (brT t j o) j 6), (tI u1 418 (34 + j) (nI (t (34 + j) ||| 2 ^ o)))) from m_of H2 hj12 (k := 6) (by omega), Option.bind_some]
              try dsimp only
              rw [brT_cs hj12, if_eq_f (by omega) (by omega) (fun q => e4 ⟨e5, q⟩), d4, Option.bind_some, if_pos rfl]
            · rw [if_neg (show ¬ nI (cs t j 0) = 1 from fun q => e5 ((nI_eq (b := 1) (by omega) (by omega)).mp q)), d4, Option.bind_some, if_pos rfl]
      | true =>
        refine Bfail hv (e := 3) (w1 := w) ?_ Fr.rf hx.1 (fun u0 H0 G0 => ⟨false, 2, ?_, Or.inr ⟨rfl, rfl⟩⟩)
        · unfold f_X12_addBar
          rw [x_re1 hx, if_pos e, Option.bind_some, xk_l]
          try dsimp only
          rw [x_re3 hx, if_pos e2, Option.bind_some, xk_l]
          try dsimp only
          rw [x1205 hx.1, Option.bind_some, t1004 hx.1 (by decide), Option.bind_some]
          try dsimp only
          rw [ixa_n hj12 (by omega), Option.bind_some, show aI w 77 j = nI (t (34 + j)) from hx.2.2.2.1.2.2.2.1 j hj12, x_has bl2 (by omega), e3, Option.bind_some]
          try dsimp only
          rw [ib_t]
        · unfold f_X13_addBar
          rw [m_isOfficer H0, decide_eq_true e, Option.bind_some]
          try dsimp only
          rw [ib_t, m_isCase H0, decide_eq_true e2, Option.bind_some]
          try dsimp only
          rw [ib_t, m_isT, Option.bind_some]
          try dsimp only
          rw [ib_t, x1303 H0.tl.1, Option.bind_some, show (34 : Int32) = nI 34 from rfl, nI_add]
          try dsimp only
          rw [ixa_n (by omega) (by omega), Option.bind_some, H0.tl.T (by omega) (by omega), m_has bl2 (by omega), e3, Option.bind_some]
          try dsimp only
          rw [ib_t, m_mayF, Option.bind_some, sI_sI, ib_f]
    · refine Bfail hv (e := 1) (w1 := w) ?_ Fr.rf hx.1 (fun u0 H0 G0 => ⟨false, 1, ?_, Or.inl ⟨rfl, rfl⟩⟩)
      · unfold f_X12_addBar
        rw [x_re1 hx, if_pos e, Option.bind_some, xk_l]
        try dsimp only
        rw [x_re3 hx, if_neg e2, Option.bind_some, xk_r]
      · unfold f_X13_addBar
        rw [m_isOfficer H0, decide_eq_true e, Option.bind_some]
        try dsimp only
        rw [ib_t, m_isCase H0, decide_eq_false e2, Option.bind_some]
        try dsimp only
        rw [ib_f, m_isF, Option.bind_some, ib_f]
  · refine Bfail hv (e := 1) (w1 := w) ?_ Fr.rf hx.1 (fun u0 H0 G0 => ⟨false, 1, ?_, Or.inl ⟨rfl, rfl⟩⟩)
    · unfold f_X12_addBar
      rw [x_re1 hx, if_neg e, Option.bind_some, xk_r]
    · unfold f_X13_addBar
      rw [m_isOfficer H0, decide_eq_false e, Option.bind_some]
      try dsimp only
      rw [ib_f, m_isF, Option.bind_some, ib_f]
