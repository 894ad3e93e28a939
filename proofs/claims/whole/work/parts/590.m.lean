/-! plan, planNext -/
theorem flN_0 {s t : Nat → Nat} {G : Int32} {i d q r o : Nat} (hS : GoodS s) (hi : i < s 3) (hr : r < s 0) (h : flN s t G i d q r o = 0) : t 0 ≤ d ∧ q + s (100 + i) < 9 ∧ pbN s t G i d q r o = 0 := by
  have l1 := hS.ln hi
  have r1 := hS.2.1 r hr
  unfold flN at h
  cases e : dyO s t i d with
  | true => rw [e, if_pos rfl] at h; omega
  | false =>
    rw [e, if_neg (by decide)] at h
    by_cases e2 : limD s t i < d
    · rw [if_pos e2] at h; omega
    · rw [if_neg e2] at h
      unfold dyO at e
      simp only [Bool.or_eq_false_iff, decide_eq_false_iff_not] at e
      refine ⟨by omega, ?_, h⟩
      unfold pbN at h
      by_cases e3 : s (4 + r) ≤ q ∧ q + s (100 + i) - 1 ≤ s (7 + r)
      · omega
      · rw [if_pos e3] at h; omega
theorem b_plan {w : Wd} (h : Inv w) (x d q r o : Int32) : Both (f_X12_plan Kc 0 x d q r o) (f_X13_plan Kc 415 x d q r o) E112233 w := by
  obtain ⟨b, s, t, hv⟩ := h
  have hx := hv.1.1
  have hp := hv.1.2.2.1
  have hs := hx.gs.1
  by_cases e : inR x (s 3) ∧ inR r (s 0) ∧ inR o (s 1)
  · by_cases e2 : inR d 600 ∧ inR q 8
    · obtain ⟨i, hi, rfl⟩ := inR_nI e.1
      obtain ⟨r, hr, rfl⟩ := inR_nI e.2.1
      obtain ⟨o, ho, rfl⟩ := inR_nI e.2.2
      obtain ⟨d, hd, rfl⟩ := inR_nI e2.1
      obtain ⟨q, hq, rfl⟩ := inR_nI e2.2
      by_cases e3 : cs t i 0 ≤ 1
      · obtain ⟨wp, x1, o1⟩ := x_faultOf hx hi (d := d) (by omega) hq hr ho
        have fl : flN s t (-nI 1) i d q r o ≤ 9 := by
          have := pbN_le (s := s) (t := t) (G := -nI 1) (i := i) (d := d) (q := q) (r := r) (o := o)
          unfold flN
          split
          · omega
          · split <;> omega
        by_cases e4 : flN s t (-nI 1) i d q r o = 0
        · obtain ⟨z1, z2, z3⟩ := flN_0 hx.gs hi hr e4
          have gT := plT_good hx.gt (i := i) (d := d) (q := q) (r := r) (o := o) hi hs.2.2.2 ⟨z1, hd⟩ z2 hr ho
          have l3 := limD_le hx.gs gT hi
          refine Bmut (wp := wp) (t' := plT t i d q r o) (a := nI (wkIn (plT t i d q r o) (d + 1) (limD s (plT t i d q r o) i + 1 - (d + 1)))) hv (PL_fr o1) (o1.FX hx.1) (pok_plT hx.gt hp z1 z3) (fun w1 e5 k1 r1 => ?_) (fun u0 H0 G0 => ?_)
          · obtain ⟨w2, x2, k2, o2⟩ := x_setHearing k1 hi ⟨z1, hd⟩ z2 hr ho
            refine ⟨w2, ?_, k2, o2.fr.mono (fun f x q => by unfold MX RG; omega) (fun x q => q.elim)⟩
            unfold f_X12_plan
            rw [x_reqH hx, if_pos e, if_pos e2, Option.bind_some, xk_l]
            try dsimp only
            rw [x_reqU hx (by omega), if_pos e3, Option.bind_some, xk_l]
            try dsimp only
            rw [x1211 hx.1, Option.bind_some, i1205 hx.1, x1, Option.bind_some, e4]
            try dsimp only
            rw [show (0 : Int32) = nI 0 from rfl, if_eq_t rfl, e5, Option.bind_some, x1205 k1.1, Option.bind_some, k1.pg, Option.bind_some]
            try dsimp only
            rw [ixa_n (by omega) (by omega), Option.bind_some, k1.pe (by omega), Option.bind_some, x2, Option.bind_some, x1205 k2.1, Option.bind_some, x_limitDay k2 hi, Option.bind_some]
            try dsimp only
            rw [show nI d + 1 = nI (d + 1) from nI_add d 1]
            generalize limD s (plT t i d q r o) i = lm at *
            rw [x_countWorking k2 (p := d + 1) (q := lm) (by omega) (by omega), Option.bind_some]
          · obtain ⟨u1, d1, r1, H1, g1, G1, l1⟩ := m_begin H0
            obtain ⟨u2, d2, H2, o2⟩ := m_plans H1 hi ⟨z1, hd⟩ z2 hr ho
            refine ⟨nI (wkIn (plT t i d q r o) (d + 1) (limD s (plT t i d q r o) i + 1 - (d + 1))), u2, H2, r1.trans (o2.fr.mono (fun _ _ q => q.elim) (fun x q => by unfold TAm; omega)), by rw [o2.2.1 _ _ (fun q => q)]; exact g1, by rw [o2.2.1 _ _ (fun q => q), G1]; exact G0, fun k hk => by rw [o2.2.2 420 (by omega)]; exact l1 k hk, fun u3 d3 => ?_⟩
            unfold f_X13_plan
            rw [m_areThere H0, decide_eq_true e, Option.bind_some]
            try dsimp only
            rw [m_isT, Option.bind_some]
            try dsimp only
            rw [ib_t, m_isTime, decide_eq_true e2, Option.bind_some]
            try dsimp only
            rw [m_mayT, Option.bind_some, sI_sI]
            try dsimp only
            rw [ib_t, m_isOpen H0.tl (by omega), decide_eq_true e3, Option.bind_some]
            try dsimp only
            rw [ib_t, m_problemOf H0.tl (tl_g G0) hi (by omega) (by omega) hr ho, Option.bind_some, e4]
            try dsimp only
            rw [show (0 : Int32) = nI 0 from rfl, if_eq_t rfl, m_mayT, Option.bind_some]
            try dsimp only
            rw [ib_t', show sI (sI u0 1300 415 (nI 0)) 1300 415 0 = sI u0 1300 415 0 from sI_sI, d1, Option.bind_some, d2, Option.bind_some, m_limitDay H2 hi, Option.bind_some]
            try dsimp only
            rw [show nI d + 1 = nI (d + 1) from nI_add d 1]
            generalize limD s (plT t i d q r o) i = lm at *
            rw [m_workingIn H2 (a := d + 1) (b := lm) (by omega) (by omega), Option.bind_some]
            try dsimp only
            rw [d3, Option.bind_some]
        · refine Bfail hv (e := 3) (w1 := wp) ?_ (PL_fr o1) (o1.FX hx.1) (fun u0 H0 G0 => ⟨0, 3, ?_, Or.inr (Or.inr ⟨rfl, rfl⟩)⟩)
          · unfold f_X12_plan
            rw [x_reqH hx, if_pos e, if_pos e2, Option.bind_some, xk_l]
            try dsimp only
            rw [x_reqU hx (by omega), if_pos e3, Option.bind_some, xk_l]
            try dsimp only
            rw [x1211 hx.1, Option.bind_some, i1205 hx.1, x1, Option.bind_some]
            try dsimp only
            rw [show (0 : Int32) = nI 0 from rfl, if_eq_f (by omega) (by omega) e4]
          · unfold f_X13_plan
            rw [m_areThere H0, decide_eq_true e, Option.bind_some]
            try dsimp only
            rw [m_isT, Option.bind_some]
            try dsimp only
            rw [ib_t, m_isTime, decide_eq_true e2, Option.bind_some]
            try dsimp only
            rw [m_mayT, Option.bind_some, sI_sI]
            try dsimp only
            rw [ib_t, m_isOpen H0.tl (by omega), decide_eq_true e3, Option.bind_some]
            try dsimp only
            rw [ib_t, m_problemOf H0.tl (tl_g G0) hi (by omega) (by omega) hr ho, Option.bind_some]
            try dsimp only
            rw [show (0 : Int32) = nI 0 from rfl, if_eq_f (by omega) (by omega) e4, m_mayF, Option.bind_some, sI_sI, ib_f']
      · refine Bfail hv (e := 3) (w1 := w) ?_ Fr.rf hx.1 (fun u0 H0 G0 => ⟨0, 3, ?_, Or.inr (Or.inr ⟨rfl, rfl⟩)⟩)
        · unfold f_X12_plan
          rw [x_reqH hx, if_pos e, if_pos e2, Option.bind_some, xk_l]
          try dsimp only
          rw [x_reqU hx (by omega), if_neg e3, Option.bind_some, xk_r]
        · unfold f_X13_plan
          rw [m_areThere H0, decide_eq_true e, Option.bind_some]
          try dsimp only
          rw [m_isT, Option.bind_some]
          try dsimp only
          rw [ib_t, m_isTime, decide_eq_true e2, Option.bind_some]
          try dsimp only
          rw [m_mayT, Option.bind_some, sI_sI]
          try dsimp only
          rw [ib_t, m_isOpen H0.tl (by omega), decide_eq_false e3, Option.bind_some]
          try dsimp only
          rw [ib_f, m_mayF, Option.bind_some, sI_sI, ib_f]
    · refine Bfail hv (e := 2) (w1 := w) ?_ Fr.rf hx.1 (fun u0 H0 G0 => ⟨0, 2, ?_, Or.inr (Or.inl ⟨rfl, rfl⟩)⟩)
      · unfold f_X12_plan
        rw [x_reqH hx, if_pos e, if_neg e2, Option.bind_some, xk_r]
      · unfold f_X13_plan
        rw [m_areThere H0, decide_eq_true e, Option.bind_some]
        try dsimp only
        rw [m_isT, Option.bind_some]
        try dsimp only
        rw [ib_t, m_isTime, decide_eq_false e2, Option.bind_some]
        try dsimp only
        rw [m_mayF, Option.bind_some, sI_sI, ib_f]
  · refine Bfail hv (e := 1) (w1 := w) ?_ Fr.rf hx.1 (fun u0 H0 G0 => ⟨0, 1, ?_, Or.inl ⟨rfl, rfl⟩⟩)
    · unfold f_X12_plan
      rw [x_reqH hx, if_neg e, Option.bind_some, xk_r]
    · unfold f_X13_plan
      rw [m_areThere H0, decide_eq_false e, Option.bind_some]
      try dsimp only
      rw [m_isF, Option.bind_some, ib_f]
def E113243 (e : Nat) (c : Int32) : Prop := (e = 1 ∧ c = 1) ∨ (e = 3 ∧ c = 2) ∨ (e = 4 ∧ c = 3)
theorem b_planNext {w : Wd} (h : Inv w) (x : Int32) : Both (f_X12_planNext Kc 0 x) (f_X13_planNext Kc 415 x) E113243 w := by
  obtain ⟨b, s, t, hv⟩ := h
  have hx := hv.1.1
  have hp := hv.1.2.2.1
  have hs := hx.gs.1
  by_cases e : inR x (s 3)
  · obtain ⟨i, hi, rfl⟩ := inR_nI e
    have c3 := hx.gt.c3 (i := i) (by omega)
    by_cases e3 : cs t i 0 = 0
    · have x1 := x_findFirst hx hi (AB0 hs.2.1)
      have xf : f_X12_planNext Kc 0 (nI i) w = ((f_X6_findFirst Kc 404 (some 73) (nI i) (nI 0) w).bind fun q9 => if (b2i q9.1) = 0 then (some (.inr 4, q9.2)) else ((f_X12_remember Kc 0 q9.2).bind fun q11 => (chk Kc 5 (wR q11 1211 0)).bind fun a12 => (f_X6_setFound Kc a12 (wR q11 1205 0) (nI i) q11).bind fun q13 => (chk Kc 5 (wR q13 1211 0)).bind fun a14 => some (.inl (wI q13 608 a14), q13))) := by
        unfold f_X12_planNext
        rw [x_re3 hx, if_pos e, Option.bind_some, xk_l]
        try dsimp only
        rw [x1205 hx.1, Option.bind_some, hx.pg, Option.bind_some]
        try dsimp only
        rw [ixa_n (by omega) (by omega), Option.bind_some, hx.pe (by omega), Option.bind_some, hx.p0 (by omega), if_pos (show nI (cs t i 0) = 0 by rw [e3]; rfl), x1211 hx.1, Option.bind_some, i1205 hx.1]
        rfl
      have mf : ∀ u0, HM u0 s t → f_X13_planNext Kc 415 (nI i) u0 = ((f_X13_finds Kc 415 (nI i) (sI u0 1300 415 0)).bind fun q16 => (f_X13_may Kc 415 q16.1 3 q16.2).bind fun q17 => if (b2i q17.1) = 0 then (some (0, q17.2)) else ((f_X13_starts Kc 415 q17.2).bind fun q19 => (f_X13_plans Kc 415 (nI i) (wI q19 1316 415) (wI q19 1317 415) (wI q19 1318 415) (wI q19 1319 415) q19).bind fun q20 => (f_X13_done Kc 415 (wI q20 1316 415) q20).bind fun q21 => some (q21.1, q21.2))) := fun u0 H0 => by
        unfold f_X13_planNext
        rw [m_isCase H0, decide_eq_true e, Option.bind_some]
        try dsimp only
        rw [m_isT, Option.bind_some]
        try dsimp only
        rw [ib_t, show f_X13_of Kc 415 (nI i) 0 (sI u0 1300 415 0) = some (nI (cs t i 0), sI u0 1300 415 0) from m_of H0.tl (by omega) (k := 0) (by omega), Option.bind_some]
        try dsimp only
        rw [if_pos (show nI (cs t i 0) = 0 by rw [e3]; rfl), m_mayT, Option.bind_some, sI_sI]
        try dsimp only
        rw [ib_t]
      cases q0 : fa s t (-nI 1) i with
      | none =>
        rw [q0] at x1
        obtain ⟨w1, x1, o1⟩ := x1
        refine Bfail hv (e := 4) (w1 := w1) ?_ (PL_fr o1) (o1.FX hx.1) (fun u0 H0 G0 => ⟨0, 3, ?_, Or.inr (Or.inr ⟨rfl, rfl⟩)⟩)
        · rw [xf, x1, Option.bind_some]; rfl
        · rw [mf u0 H0, m_finds H0.tl (tl_g G0) hi, q0]
          try dsimp only [faR]
          rw [Option.bind_some]
          try dsimp only
          rw [m_mayF, Option.bind_some, sI_sI, ib_f]
      | some z =>
        obtain ⟨d, q, r, o⟩ := z
        rw [q0] at x1
        obtain ⟨w1, x1, o1⟩ := x1
        obtain ⟨y1, y2, y3, y4⟩ := fa_good hx.gs hx.gt hi q0
        have f1 : FX (setG w1 d q r o) := (((o1.FX hx.1).sI).sI).sI.sI
        have og : Fr TSx TAx w (setG w1 d q r o) := (PL_fr o1).trans (PL_fr setG_off)
        refine Bmut (wp := setG w1 d q r o) (t' := plT t i d q r o) (a := nI d) hv og f1 (pok_plT hx.gt hp y1.1 (faL_some q0).2.2.2.2) (fun w2 e5 k1 r1 => ?_) (fun u0 H0 G0 => ?_)
        · have sg : ∀ f, wI w2 f 404 = wI (setG w1 d q r o) f 404 := fun f => (r1.1 f 404 (by unfold SRm; omega)).1
          obtain ⟨w3, x3, k3, o3⟩ := x_setFound k1 hi y1 y2 y3 y4 (by rw [sg]; exact setG_608) (by rw [sg]; simp [setG, wI_sI]) (by rw [sg]; simp [setG, wI_sI]) (by rw [sg]; simp [setG, wI_sI])
          refine ⟨w3, ?_, k3, o3.fr.mono (fun f x q => by unfold MX RG; omega) (fun x q => q.elim)⟩
          rw [xf, x1, Option.bind_some]
          try dsimp only
          rw [ib_t, e5, Option.bind_some, x1211 k1.1, Option.bind_some, i1205 k1.1, x3, Option.bind_some, x1211 k3.1, Option.bind_some, o3.2.1 608 404 (by omega), sg, setG_608]
        · have SF : HM (setF (sI u0 1300 415 0) d q r o) s t := FN_HM setF_ofi H0.tl
          obtain ⟨u1, d1, p1, l1⟩ := m_starts (w := sI (setF (sI u0 1300 415 0) d q r o) 1300 415 0) SF.1.sI
          have H1 : HM u1 s t := p1.HM SF.tl (by omega) (by omega)
          have r1 : Fr TSm TAm u0 u1 := (((fr_sI (S := TSm) (A := TAm) ⟨rfl, Or.inl rfl⟩).trans (FN_TSm setF_ofi (fun x q => q.elim))).trans (fr_sI ⟨rfl, Or.inl rfl⟩)).trans (p1.fr.mono (fun _ _ q => q.elim) (fun x q => by unfold TAm; omega))
          have ff : ∀ f, f ≠ 1300 → wI u1 f 415 = wI (setF (sI u0 1300 415 0) d q r o) f 415 := fun f hf => by rw [p1.2.1 _ _ (fun q => q), wI_sI, if_neg (by omega)]
          have S0 := setF_0 (w := sI u0 1300 415 0) (d := d) (q := q) (r := r) (o := o)
          obtain ⟨u2, d2, H2, p2⟩ := m_plans H1 hi y1 y2 y3 y4
          refine ⟨nI d, u2, H2, r1.trans (p2.fr.mono (fun _ _ q => q.elim) (fun x q => by unfold TAm; omega)), by rw [p2.2.1 _ _ (fun q => q), p1.2.1 _ _ (fun q => q), tl_t], by rw [p2.2.1 _ _ (fun q => q), ff 1315 (by omega), FN_g setF_ofi (by omega)]; exact tl_g G0, fun k hk => by rw [p2.2.2 420 (by omega), l1 k hk]; rfl, fun u3 d3 => ?_⟩
          rw [mf u0 H0, m_finds H0.tl (tl_g G0) hi, q0]
          try dsimp only [faR]
          rw [Option.bind_some]
          try dsimp only
          rw [m_mayT, Option.bind_some]
          try dsimp only
          rw [ib_t, d1, Option.bind_some, ff 1316 (by omega), ff 1317 (by omega), ff 1318 (by omega), ff 1319 (by omega), S0.1, S0.2.1, S0.2.2.1, S0.2.2.2, d2, Option.bind_some, p2.2.1 _ _ (fun q => q), ff 1316 (by omega), S0.1, d3, Option.bind_some]
    · refine Bfail hv (e := 3) (w1 := w) ?_ Fr.rf hx.1 (fun u0 H0 G0 => ⟨0, 2, ?_, Or.inr (Or.inl ⟨rfl, rfl⟩)⟩)
      · unfold f_X12_planNext
        rw [x_re3 hx, if_pos e, Option.bind_some, xk_l]
        try dsimp only
        rw [x1205 hx.1, Option.bind_some, hx.pg, Option.bind_some]
        try dsimp only
        rw [ixa_n (by omega) (by omega), Option.bind_some, hx.pe (by omega), Option.bind_some, hx.p0 (by omega), show (0 : Int32) = nI 0 from rfl, if_eq_f (by omega) (by omega) e3]
      · unfold f_X13_planNext
        rw [m_isCase H0, decide_eq_true e, Option.bind_some]
        try dsimp only
        rw [m_isT, Option.bind_some]
        try dsimp only
        rw [ib_t, show f_X13_of Kc 415 (nI i) 0 (sI u0 1300 415 0) = some (nI (cs t i 0), sI u0 1300 415 0) from m_of H0.tl (by omega) (k := 0) (by omega), Option.bind_some]
        try dsimp only
        rw [if_neg (show ¬ nI (cs t i 0) = 0 from fun q => e3 ((nI_eq (b := 0) (by omega) (by omega)).mp q)), m_mayF, Option.bind_some, sI_sI, ib_f]
  · refine Bfail hv (e := 1) (w1 := w) ?_ Fr.rf hx.1 (fun u0 H0 G0 => ⟨0, 1, ?_, Or.inl ⟨rfl, rfl⟩⟩)
    · unfold f_X12_planNext
      rw [x_re3 hx, if_neg e, Option.bind_some, xk_r]
    · unfold f_X13_planNext
      rw [m_isCase H0, decide_eq_false e, Option.bind_some]
      try dsimp only
      rw [m_isF, Option.bind_some, ib_f]
