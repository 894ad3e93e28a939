/-! pass, adjourn, plan, planNext, planAll -/
theorem Both.to0 {α : Type} {X M : Wd → Option (α × Wd)} {E : Nat → Int32 → Prop} {w : Wd} (h : Both (fun w => (X w).bind fun q => some ((.inl q.1 : α ⊕ Nat), q.2)) M E w) : Both0 X M w := by
  obtain ⟨r, w1, e, k⟩ := h
  try dsimp only at e
  cases q : X w with
  | none => rw [q] at e; cases e
  | some z =>
    rw [q, Option.bind_some] at e
    obtain ⟨a, w1'⟩ := z
    try dsimp only at e
    injection e with e
    injection e with e1 e2
    subst e1 e2
    obtain ⟨v, w3, e3, i3, _, rs⟩ := k w1' Fr.rf
    have ea : a = v := rs.1
    subst ea
    exact ⟨a, w1', w3, q, e3, i3⟩
theorem OF_MX {w w1 : Wd} {P : Nat → Prop} (h : Off P w w1) (hP : ∀ x, P x → (73 ≤ x ∧ x < 103) ∨ (404 ≤ x ∧ x < 414)) : Fr MX MA w w1 := h.fr.mono (fun f x q => by have := hP x q; unfold MX RG; omega) (fun x q => by have := hP x q; unfold MA RG; omega)
def E113233 (e : Nat) (c : Int32) : Prop := (e = 1 ∧ c = 1) ∨ (e = 2 ∧ c = 2) ∨ (e = 3 ∧ c = 3)
theorem b_pass {w : Wd} (h : Inv w) (x : Int32) : Both (f_X12_pass Kc 0 x) (f_X13_pass Kc 415 x) E21 w := by
  obtain ⟨b, s, t, hv⟩ := h
  have hx := hv.1.1
  have hp := hv.1.2.2.1
  by_cases e : inP x (t 0)
  · obtain ⟨n, n0, n1, n2, rfl⟩ := inP_nI e
    refine Bmut (t' := phT t (t 0 + n) (fin s t n)) (a := nI (hdN s t n)) hv Fr.rf hx.1 (pok_fin hx.gt hp n) (fun w1 e1 k1 r1 => ?_) (fun u0 H0 G0 => ?_)
    · obtain ⟨w2, e2, k2, o2⟩ := x_passDays k1 n0 n1
      refine ⟨w2, ?_, k2, OF_MX o2 (fun x q => by unfold PD at q; omega)⟩
      unfold f_X12_pass
      rw [x_reqN hx, if_pos e, Option.bind_some, xk_l]
      try dsimp only
      rw [e1, Option.bind_some, x1205 k1.1, Option.bind_some, e2, Option.bind_some]
    · obtain ⟨u1, d1, r1, H1, g1, G1, l1⟩ := m_begin H0
      obtain ⟨u2, d2, H2, o2⟩ := m_passesAll H1 hp.1 n1
      refine ⟨nI (hdN s t n), u2, H2, r1.trans (o2.fr.mono (fun _ _ q => q.elim) (fun x q => by unfold TAm; omega)), by rw [o2.2.1 _ _ (fun q => q)]; exact g1, by rw [o2.2.1 _ _ (fun q => q), G1]; exact G0, fun k hk => by rw [o2.2.2 420 (by omega)]; exact l1 k hk, fun u3 d3 => ?_⟩
      unfold f_X13_pass
      rw [m_canPass H0, decide_eq_true e, Option.bind_some]
      try dsimp only
      rw [m_isT, Option.bind_some]
      try dsimp only
      rw [ib_t, d1, Option.bind_some, d2, Option.bind_some]
      try dsimp only
      rw [d3, Option.bind_some]
  · refine Bfail hv (e := 2) (w1 := w) ?_ Fr.rf hx.1 (fun u0 H0 G0 => ⟨0, 1, ?_, rfl, rfl⟩)
    · unfold f_X12_pass
      rw [x_reqN hx, if_neg e, Option.bind_some, xk_r]
    · unfold f_X13_pass
      rw [m_canPass H0, decide_eq_false e, Option.bind_some]
      try dsimp only
      rw [m_isF, Option.bind_some, ib_f]
theorem lim73 {w : Wd} {b : Nat} {s t : Nat → Nat} (h : HX w 73 b s t) {i : Nat} (hi : i < s 3) : f_X10_limitDay Kc 73 (nI i) w = some (nI (limD s t i), w) := x_limitDay h hi
theorem b_adjourn {w : Wd} (h : Inv w) (x y : Int32) : Both (f_X12_adjourn Kc 0 x y) (f_X13_adjourn Kc 415 x y) E112233 w := by
  obtain ⟨b, s, t, hv⟩ := h
  have hx := hv.1.1
  have hp := hv.1.2.2.1
  have hs := hx.gs.1
  by_cases e : inR x (s 3)
  · by_cases e2 : inR y 4
    · obtain ⟨i, hi, rfl⟩ := inR_nI e
      obtain ⟨p, hp4, rfl⟩ := inR_nI e2
      have c3 := hx.gt.c3 (i := i) (by omega)
      by_cases e3 : cs t i 0 = 1
      · by_cases e4 : cs t i 2 < 5
        · have hr : hrg t i = true := by unfold hrg; rw [e3]; rfl
          refine Bmut (t' := tkT s t i p) (a := nI (limD s (tkT s t i p) i)) hv Fr.rf hx.1 (pok_tkT hx.gt hp (by omega)) (fun w1 e1 k1 r1 => ?_) (fun u0 H0 G0 => ?_)
          · obtain ⟨w2, x2, k2, o2⟩ := x_takeAway k1 hi hp4 hr
            refine ⟨w2, ?_, k2, o2.fr.mono (fun f x q => by unfold MX RG; omega) (fun x q => by unfold MA RG; omega)⟩
            unfold f_X12_adjourn
            rw [x_re3 hx, if_pos e, Option.bind_some, xk_l]
            try dsimp only
            rw [x_reqR, if_pos e2, Option.bind_some, xk_l]
            try dsimp only
            rw [x1205 hx.1, Option.bind_some, hx.pg, Option.bind_some]
            try dsimp only
            rw [ixa_n (by omega) (by omega), Option.bind_some, hx.pe (by omega), Option.bind_some, hx.p0 (by omega), hx.p6 (by omega), show (1 : Int32) = nI 1 from rfl, if_eq_t e3, show (5 : Int32) = nI 5 from rfl, if_lt_t (by omega) (by omega) e4, e1, Option.bind_some, x1205 k1.1, Option.bind_some, x2, Option.bind_some, x1205 k2.1, Option.bind_some, x_limitDay k2 hi, Option.bind_some]
          · obtain ⟨u1, d1, r1, H1, g1, G1, l1⟩ := m_begin H0
            obtain ⟨u2, d2, H2, o2⟩ := m_takesAway H1 hi hp4
            refine ⟨nI (limD s (tkT s t i p) i), u2, H2, r1.trans (o2.fr.mono (fun _ _ q => q.elim) (fun x q => by unfold TAm; omega)), by rw [o2.2.1 _ _ (fun q => q)]; exact g1, by rw [o2.2.1 _ _ (fun q => q), G1]; exact G0, fun k hk => by rw [o2.2.2 420 (by omega)]; exact l1 k hk, fun u3 d3 => ?_⟩
            unfold f_X13_adjourn
            rw [m_isCase H0, decide_eq_true e, Option.bind_some]
            try dsimp only
            rw [m_isT, Option.bind_some]
            try dsimp only
            rw [ib_t, m_isReason, decide_eq_true e2, Option.bind_some]
            try dsimp only
            rw [m_mayT, Option.bind_some, sI_sI]
            try dsimp only
            rw [ib_t, show f_X13_of Kc 415 (nI i) 0 (sI u0 1300 415 0) = some (nI (cs t i 0), sI u0 1300 415 0) from m_of H0.tl (by omega) (k := 0) (by omega), Option.bind_some]
            try dsimp only
            rw [show (1 : Int32) = nI 1 from rfl, if_eq_t e3, show f_X13_of Kc 415 (nI i) 2 (sI u0 1300 415 0) = some (nI (cs t i 2), sI u0 1300 415 0) from m_of H0.tl (by omega) (k := 2) (by omega), Option.bind_some]
            try dsimp only
            rw [show (5 : Int32) = nI 5 from rfl, if_le_f (by omega) (by omega) e4, m_mayT, Option.bind_some, sI_sI]
            try dsimp only
            rw [ib_t, d1, Option.bind_some, d2, Option.bind_some, m_limitDay H2 hi, Option.bind_some]
            try dsimp only
            rw [d3, Option.bind_some]
        · refine Bfail hv (e := 3) (w1 := w) ?_ Fr.rf hx.1 (fun u0 H0 G0 => ⟨0, 3, ?_, Or.inr (Or.inr ⟨rfl, rfl⟩)⟩)
          · unfold f_X12_adjourn
            rw [x_re3 hx, if_pos e, Option.bind_some, xk_l]
            try dsimp only
            rw [x_reqR, if_pos e2, Option.bind_some, xk_l]
            try dsimp only
            rw [x1205 hx.1, Option.bind_some, hx.pg, Option.bind_some]
            try dsimp only
            rw [ixa_n (by omega) (by omega), Option.bind_some, hx.pe (by omega), Option.bind_some, hx.p0 (by omega), hx.p6 (by omega), show (1 : Int32) = nI 1 from rfl, if_eq_t e3, show (5 : Int32) = nI 5 from rfl, if_lt_f (by omega) (by omega) (by omega)]
          · unfold f_X13_adjourn
            rw [m_isCase H0, decide_eq_true e, Option.bind_some]
            try dsimp only
            rw [m_isT, Option.bind_some]
            try dsimp only
            rw [ib_t, m_isReason, decide_eq_true e2, Option.bind_some]
            try dsimp only
            rw [m_mayT, Option.bind_some, sI_sI]
            try dsimp only
            rw [ib_t, show f_X13_of Kc 415 (nI i) 0 (sI u0 1300 415 0) = some (nI (cs t i 0), sI u0 1300 415 0) from m_of H0.tl (by omega) (k := 0) (by omega), Option.bind_some]
            try dsimp only
            rw [show (1 : Int32) = nI 1 from rfl, if_eq_t e3, show f_X13_of Kc 415 (nI i) 2 (sI u0 1300 415 0) = some (nI (cs t i 2), sI u0 1300 415 0) from m_of H0.tl (by omega) (k := 2) (by omega), Option.bind_some]
            try dsimp only
            rw [show (5 : Int32) = nI 5 from rfl, if_le_t (by omega) (by omega) (by omega), m_mayF, Option.bind_some, sI_sI, ib_f]
      · refine Bfail hv (e := 3) (w1 := w) ?_ Fr.rf hx.1 (fun u0 H0 G0 => ⟨0, 3, ?_, Or.inr (Or.inr ⟨rfl, rfl⟩)⟩)
        · unfold f_X12_adjourn
          rw [x_re3 hx, if_pos e, Option.bind_some, xk_l]
          try dsimp only
          rw [x_reqR, if_pos e2, Option.bind_some, xk_l]
          try dsimp only
          rw [x1205 hx.1, Option.bind_some, hx.pg, Option.bind_some]
          try dsimp only
          rw [ixa_n (by omega) (by omega), Option.bind_some, hx.pe (by omega), Option.bind_some, hx.p0 (by omega), show (1 : Int32) = nI 1 from rfl, if_eq_f (by omega) (by omega) e3]
        · unfold f_X13_adjourn
          rw [m_isCase H0, decide_eq_true e, Option.bind_some]
          try dsimp only
          rw [m_isT, Option.bind_some]
          try dsimp only
          rw [ib_t, m_isReason, decide_eq_true e2, Option.bind_some]
          try dsimp only
          rw [m_mayT, Option.bind_some, sI_sI]
          try dsimp only
          rw [ib_t, show f_X13_of Kc 415 (nI i) 0 (sI u0 1300 415 0) = some (nI (cs t i 0), sI u0 1300 415 0) from m_of H0.tl (by omega) (k := 0) (by omega), Option.bind_some]
          try dsimp only
          rw [show (1 : Int32) = nI 1 from rfl, if_eq_f (by omega) (by omega) e3, m_mayF, Option.bind_some, sI_sI, ib_f]
    · refine Bfail hv (e := 2) (w1 := w) ?_ Fr.rf hx.1 (fun u0 H0 G0 => ⟨0, 2, ?_, Or.inr (Or.inl ⟨rfl, rfl⟩)⟩)
      · unfold f_X12_adjourn
        rw [x_re3 hx, if_pos e, Option.bind_some, xk_l]
        try dsimp only
        rw [x_reqR, if_neg e2, Option.bind_some, xk_r]
      · unfold f_X13_adjourn
        rw [m_isCase H0, decide_eq_true e, Option.bind_some]
        try dsimp only
        rw [m_isT, Option.bind_some]
        try dsimp only
        rw [ib_t, m_isReason, decide_eq_false e2, Option.bind_some]
        try dsimp only
        rw [m_mayF, Option.bind_some, sI_sI, ib_f]
  · refine Bfail hv (e := 1) (w1 := w) ?_ Fr.rf hx.1 (fun u0 H0 G0 => ⟨0, 1, ?_, Or.inl ⟨rfl, rfl⟩⟩)
    · unfold f_X12_adjourn
      rw [x_re3 hx, if_neg e, Option.bind_some, xk_r]
    · unfold f_X13_adjourn
      rw [m_isCase H0, decide_eq_false e, Option.bind_some]
      try dsimp only
      rw [m_isF, Option.bind_some, ib_f]
theorem FN_TSm {w w1 : Wd} {A : Nat → Prop} (o : Ofi FN A w w1) (hA : ∀ x, A x → TAm x) : Fr TSm TAm w w1 := o.fr.mono (fun f x q => ⟨q.1, Or.inr ⟨by have := q.2.1; omega, by have := q.2.2; omega⟩⟩) hA
theorem b_planAll {w : Wd} (h : Inv w) : Both0 (f_X12_planAll Kc 0) (f_X13_planAll Kc 415) w := Both.to0 (E := E11) (by
  obtain ⟨b, s, t, hv⟩ := h
  have hx := hv.1.1
  have hp := hv.1.2.2.1
  refine Bmut (t' := (pSt s t (-nI 1) (cnt (wt t) (s 3))).1) (a := nI (pSt s t (-nI 1) (cnt (wt t) (s 3))).2) hv Fr.rf hx.1 (pok_pSt hx.gs hx.gt hp _ (Nat.le_refl _)).1 (fun w1 e1 k1 r1 => ?_) (fun u0 H0 G0 => ?_)
  · obtain ⟨w2, e2, k2, o2⟩ := x_planWaiting k1 (AB0 hx.gs.1.2.1)
    refine ⟨w2, ?_, k2, OF_MX o2 (fun x q => by unfold PA at q; omega)⟩
    unfold f_X12_planAll
    rw [e1, Option.bind_some, x1211 k1.1, Option.bind_some, i1205 k1.1, show (0 : Int32) = nI 0 from rfl, e2, Option.bind_some, Option.bind_some]
  · obtain ⟨u1, d1, r1, H1, g1, G1, l1⟩ := m_begin H0
    obtain ⟨u2, d2, H2, o2⟩ := m_plansAll H1 (G := -nI 1) (by rw [G1]; exact G0)
    refine ⟨nI (pSt s t (-nI 1) (cnt (wt t) (s 3))).2, u2, H2, r1.trans (FN_TSm o2 (fun x q => by unfold A2 at q; unfold TAm; omega)), by rw [o2.2.1 1300 415 (by unfold FN; omega)]; exact g1, by rw [o2.2.1 1315 415 (by unfold FN; omega), G1]; exact G0, fun k hk => by rw [o2.2.2 420 (by unfold A2; omega)]; exact l1 k hk, fun u3 d3 => ?_⟩
    unfold f_X13_planAll
    rw [Option.bind_some, d1, Option.bind_some, d2, Option.bind_some]
    try dsimp only
    rw [d3, Option.bind_some])
