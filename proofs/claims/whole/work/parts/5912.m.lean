/-! withdraw -/
theorem m1_ltq {a b : Nat} (ha : a < 2 ^ 31) (hb : b < 2 ^ 31) : nI a - nI 1 < nI b - nI 1 ↔ a < b := by
  have q : ∀ n, n < 2 ^ 31 → (nI n - nI 1).toInt = (n : Int) - 1 := fun n hn => by
    cases n with
    | zero => decide
    | succ k => rw [sub_nI (a := k + 1) (b := 1) (by omega), nI_toInt (by omega)]; omega
  rw [Int32.lt_iff_toInt_lt, q a ha, q b hb]
  omega
theorem m1_leq {a b : Nat} (ha : a < 2 ^ 31) (hb : b < 2 ^ 31) : nI a - nI 1 ≤ nI b - nI 1 ↔ a ≤ b := by
  have q : ∀ n, n < 2 ^ 31 → (nI n - nI 1).toInt = (n : Int) - 1 := fun n hn => by
    cases n with
    | zero => decide
    | succ k => rw [sub_nI (a := k + 1) (b := 1) (by omega), nI_toInt (by omega)]; omega
  rw [Int32.le_iff_toInt_le, q a ha, q b hb]
  omega
def wdT (t : Nat → Nat) (v d : Nat) : Nat → Nat := ups t (22 + v) (if d < t (22 + v) then d else t (22 + v))
theorem wdT_ne {t : Nat → Nat} {v d x : Nat} (h : x ≠ 22 + v) : wdT t v d x = t x := ups_ne h
theorem wdT_v {t : Nat → Nat} {v d : Nat} : wdT t v d (22 + v) = if d < t (22 + v) then d else t (22 + v) := ups_eq
theorem wdT_cs {t : Nat → Nat} {v d i k : Nat} (hv : v < 12) : cs (wdT t v d) i k = cs t i k := wdT_ne (by omega)
theorem wdT_hol {t : Nat → Nat} {v d e : Nat} (hT : t 1 ≤ 20) : isHol (wdT t v d) e = isHol t e := by
  unfold isHol
  rw [wdT_ne (by omega)]
  refine Bool.eq_iff_iff.mpr ?_
  rw [anyF_iff, anyF_iff]
  constructor
  · rintro ⟨k, k1, k2, k3⟩
    refine ⟨k, k1, k2, ?_⟩
    rw [wdT_ne (by omega)] at k3
    exact k3
  · rintro ⟨k, k1, k2, k3⟩
    refine ⟨k, k1, k2, ?_⟩
    rw [wdT_ne (by omega)]
    exact k3
theorem wdT_good {s t : Nat → Nat} (hT : GoodT s t) {v d : Nat} (hv : v < 12) : GoodT s (wdT t v d) := by
  obtain ⟨g1, g2, g3, g4, g5, g6, g7⟩ := hT
  refine ⟨by rw [wdT_ne (by omega)]; exact g1, by rw [wdT_ne (by omega)]; exact g2, fun k hk => ?_, fun j k hj hk e => ?_, fun i hi => ?_, fun i hi => by rw [wdT_ne (by omega)]; exact g6 i hi, fun i hi => ?_⟩
  · rw [wdT_ne (by omega)] at hk
    rw [wdT_ne (by omega)]; exact g3 k hk
  · rw [wdT_ne (by omega)] at hj hk
    rw [wdT_ne (by omega), wdT_ne (by omega)] at e
    exact g4 j k hj hk e
  · by_cases e : i = v
    · have := g5 i hi
      rw [e] at this ⊢
      rw [wdT_v]
      split <;> omega
    · rw [wdT_ne (by omega)]; exact g5 i hi
  · have hr : hrg (wdT t v d) i = hrg t i := by unfold hrg; rw [wdT_cs hv]
    rw [hr, wdT_cs hv, wdT_cs hv, wdT_cs hv, wdT_cs hv, wdT_cs hv, wdT_cs hv, wdT_cs hv]
    exact g7 i hi
theorem wdT_ok {s t : Nat → Nat} (h : POK s t) {v d : Nat} (hv : v < 12) : POK s (wdT t v d) := h.csq (wdT_ne (by omega)) (fun i k hi hk => wdT_cs hv)
theorem x_wd {w : Wd} {b : Nat} {s t : Nat → Nat} (h : HX w 73 b s t) {v d : Nat} (hv : v < s 2) (hd : d < 600) : HX (tI w 76 v (imin (nI (t (22 + v)) - nI 1) (nI d - nI 1))) 73 b s (wdT t v d) := by
  have hT := h.gt
  have g2 := hT.2.1
  have ub := SU_rg h.2.1.2.1
  have hs := h.gs.1
  have gv := hT.2.2.2.2.1 v (by omega)
  have ai : ∀ x, x ≠ 76 → aI (tI w 76 v (imin (nI (t (22 + v)) - nI 1) (nI d - nI 1))) x = aI w x := fun x hx => funext fun j => by rw [aI_tI, if_neg (fun q => hx q.1)]
  obtain ⟨v1, v2, v3, v4, v5⟩ := h.2.2.2.1
  refine ⟨h.1.tI, h.2.1, ?_, ?_, h.gs, wdT_good hT (by omega)⟩
  · obtain ⟨u1, u2, u3, u4, u5, u6, u7, u8⟩ := h.2.2.1
    refine ⟨u1, fun r hr => ?_, fun o ho => ?_, fun o ho k hk => ?_, fun i hi => ?_, u6, fun k hk => ?_, u8⟩
    · rw [ai _ (by omega)]; exact u2 r hr
    · rw [ai _ (by omega)]; exact u3 o ho
    · rw [ai (b + 4) (by omega), ai (b + 5) (by omega)]; exact u4 o ho k hk
    · rw [ai (b + 6) (by omega), ai (b + 8) (by omega), ai (b + 9) (by omega)]; exact u5 i hi
    · rw [ai _ (by omega)]; exact u7 k hk
  · refine ⟨⟨by rw [wdT_ne (by omega)]; exact v1.1, by rw [wdT_ne (by omega)]; exact v1.2⟩, fun e he => by rw [ai _ (by omega), wdT_hol g2]; exact v2 e he, fun i hi => ?_, fun i hi => by rw [ai _ (by omega), wdT_ne (by omega)]; exact v4 i hi, fun i hi => ?_⟩
    · rw [aI_tI]
      by_cases e : i = v
      · rw [if_pos ⟨rfl, e⟩, e, wdT_v]
        unfold imin
        by_cases e2 : d < t (22 + v)
        · rw [if_pos e2, if_pos ((m1_ltq (by omega) (by omega)).mpr e2)]
        · rw [if_neg e2, if_neg (fun q => e2 ((m1_ltq (by omega) (by omega)).mp q))]
      · rw [if_neg (fun q => e q.2), wdT_ne (by omega)]
        exact v3 i hi
    · have hr : hrg (wdT t v d) i = hrg t i := by unfold hrg; rw [wdT_cs (by omega)]
      have hc : ∀ k, cs (wdT t v d) i k = cs t i k := fun k => wdT_cs (by omega)
      simp only [hr, hc]
      rw [ai _ (by omega)]
      exact v5 i hi
theorem m_wd {w : Wd} {s t : Nat → Nat} (h : HM w s t) {v d : Nat} (hv : v < 12) : (d < t (22 + v) → HM (tI w 418 (22 + v) (nI d - nI 1)) s (wdT t v d)) ∧ (¬ d < t (22 + v) → HM w s (wdT t v d)) := by
  refine ⟨fun hd => ⟨h.1.tI, h.2.1, fun k hk => ?_, h.gs, wdT_good h.gt hv⟩, fun hd => ⟨h.1, h.2.1, fun k hk => ?_, h.gs, wdT_good h.gt hv⟩⟩
  · rw [aI_tI]
    by_cases e : k = 22 + v
    · rw [if_pos ⟨rfl, e⟩, if_pos (by omega), e, wdT_v, if_pos hd]
    · rw [if_neg (fun q => e q.2), wdT_ne e]
      exact h.2.2.1 k hk
  · by_cases e : k = 22 + v
    · rw [e, wdT_v, if_neg hd]
      exact h.2.2.1 (22 + v) (by omega)
    · rw [wdT_ne e]
      exact h.2.2.1 k hk
theorem b_withdraw {w : Wd} (h : Inv w) (x y : Int32) : Both (f_X12_withdraw Kc 0 x y) (f_X13_withdraw Kc 415 x y) E1122 w := by
  obtain ⟨b, s, t, hv⟩ := h
  have hx := hv.1.1
  have hp := hv.1.2.2.1
  have hs := hx.gs.1
  have h0 := hx.gt.1
  by_cases e : inR x (s 2)
  · by_cases e2 : inD y (t 0)
    · obtain ⟨v, hvv, rfl⟩ := inR_nI e
      obtain ⟨d, hd, rfl⟩ := nI_rg (x := y) (n := 600) (by have := e2.1; omega) (by have := e2.2; omega)
      have gh := wdT_good hx.gt (v := v) (d := d) (by omega)
      have gv := hx.gt.2.2.2.2.1 v (by omega)
      refine Bmut (t' := twT s (wdT t v d) (fun c => cs (wdT t v d) c 0 == 1 && (!decide (cs (wdT t v d) c 3 < d) && (s (136 + c)).testBit v)) 0 (s 3)) (a := nI (cnt (fun c => cs (wdT t v d) c 0 == 1 && (!decide (cs (wdT t v d) c 3 < d) && (s (136 + c)).testBit v)) (s 3))) hv Fr.rf hx.1 (pok_twT hx.gs gh (wdT_ok hp (by omega)) (by omega) _ (by omega)) (fun w1 e1 k1 r1 => ?_) (fun u0 H0 G0 => ?_)
      · have k2 := x_wd k1 hvv hd
        obtain ⟨w3, x3, k3, o3⟩ := x_wdL k2 (v := v) (d := d) (by omega) (by omega) (k := fun v1_44 v2_44 v3_44 v4_44 w11 => some (.inl v3_44, w11))
        refine ⟨w3, ?_, k3, ((ofi_tI (S := NS) (A := fun x => x = 76) rfl).fr.mono (fun _ _ q => q.elim) (fun x q => by unfold MA RG; omega)).trans (OF_MX o3 (fun x q => by unfold PD at q; omega))⟩
        unfold f_X12_withdraw
        rw [x_re2 hx, if_pos e, Option.bind_some, xk_l]
        try dsimp only
        rw [x_reqC hx, if_pos e2, Option.bind_some, xk_l]
        try dsimp only
        rw [e1, Option.bind_some, x1205 k1.1, Option.bind_some, t1003 k1.1 (by decide), Option.bind_some]
        try dsimp only
        rw [ixa_n (by omega) (by omega), Option.bind_some, Option.bind_some, Option.bind_some, show aI w1 76 v = nI (t (22 + v)) - nI 1 from k1.2.2.2.1.2.2.1 v hvv, show (1 : Int32) = nI 1 from rfl]
        exact x3
      · obtain ⟨u1, d1, r1, H1, g1, G1, l1⟩ := m_begin H0
        have mw := m_wd H1 (v := v) (d := d) (by omega)
        have pre : ∀ K : Wd → Option (Int32 × Wd), (∀ z, (f_X13_withdraw_L73 Kc 415 (fun v1_73 v2_73 v3_73 v4_73 w13 => (f_X13_done Kc 415 v3_73 w13).bind fun q26 => some (q26.1, q26.2)) fu (nI v) (nI d) 0 0 z) = K z) → f_X13_withdraw Kc 415 (nI v) (nI d) u0 = if d < t (22 + v) then K (tI u1 418 (22 + v) (nI d - nI 1)) else K u1 := fun K hK => by
          unfold f_X13_withdraw
          rw [m_isWitness H0, decide_eq_true e, Option.bind_some]
          try dsimp only
          rw [m_isT, Option.bind_some]
          try dsimp only
          rw [ib_t, x1303 H0.tl.1, Option.bind_some]
          try dsimp only
          rw [show ixa 0 370 = some 0 from rfl, Option.bind_some, H0.tl.T (by omega) (by omega), isIn_C h0, decide_eq_true e2, Option.bind_some]
          try dsimp only
          rw [m_mayT, Option.bind_some, sI_sI]
          try dsimp only
          rw [ib_t, d1, Option.bind_some, x1303 H1.1, Option.bind_some, show (22 : Int32) = nI 22 from rfl, nI_add]
          try dsimp only
          rw [ixa_n (by omega) (by omega), Option.bind_some, H1.To (by omega), show (1 : Int32) = nI 1 from rfl, Option.bind_some, Option.bind_some, hK, hK]
          by_cases e3 : d < t (22 + v)
          · rw [if_pos e3, if_neg (fun q => by have := (m1_leq (by omega) (by omega)).mp q; omega)]
          · rw [if_neg e3, if_pos ((m1_leq (by omega) (by omega)).mpr (by omega))]
        by_cases e3 : d < t (22 + v)
        · have H2 := mw.1 e3
          obtain ⟨u3, d3, H3, o3⟩ := m_wdL H2 (v := v) (d := d) (by omega) (by omega) (k := fun v1_73 v2_73 v3_73 v4_73 w13 => (f_X13_done Kc 415 v3_73 w13).bind fun q26 => some (q26.1, q26.2))
          have o4 := (ofi_tI (w := u1) (a := 418) (i := 22 + v) (v := nI d - nI 1) (S := NS) (A := fun x => x = 418) rfl).trans o3
          refine ⟨nI (cnt (fun c => cs (wdT t v d) c 0 == 1 && (!decide (cs (wdT t v d) c 3 < d) && (s (136 + c)).testBit v)) (s 3)), u3, H3, r1.trans (o4.fr.mono (fun _ _ q => q.elim) (fun x q => by unfold TAm; omega)), by rw [o4.2.1 _ _ (fun q => q)]; exact g1, by rw [o4.2.1 _ _ (fun q => q), G1]; exact G0, fun k hk => by rw [o4.2.2 420 (by omega)]; exact l1 k hk, fun u4 d4 => ?_⟩
          rw [pre _ (fun z => rfl), if_pos e3]
          refine d3.trans ?_
          rw [d4, Option.bind_some]
        · have H2 := mw.2 e3
          obtain ⟨u3, d3, H3, o4⟩ := m_wdL H2 (v := v) (d := d) (by omega) (by omega) (k := fun v1_73 v2_73 v3_73 v4_73 w13 => (f_X13_done Kc 415 v3_73 w13).bind fun q26 => some (q26.1, q26.2))
          refine ⟨nI (cnt (fun c => cs (wdT t v d) c 0 == 1 && (!decide (cs (wdT t v d) c 3 < d) && (s (136 + c)).testBit v)) (s 3)), u3, H3, r1.trans (o4.fr.mono (fun _ _ q => q.elim) (fun x q => by unfold TAm; omega)), by rw [o4.2.1 _ _ (fun q => q)]; exact g1, by rw [o4.2.1 _ _ (fun q => q), G1]; exact G0, fun k hk => by rw [o4.2.2 420 (by omega)]; exact l1 k hk, fun u4 d4 => ?_⟩
          rw [pre _ (fun z => rfl), if_neg e3]
          refine d3.trans ?_
          rw [d4, Option.bind_some]
    · refine Bfail hv (e := 2) (w1 := w) ?_ Fr.rf hx.1 (fun u0 H0 G0 => ⟨0, 2, ?_, Or.inr ⟨rfl, rfl⟩⟩)
      · unfold f_X12_withdraw
        rw [x_re2 hx, if_pos e, Option.bind_some, xk_l]
        try dsimp only
        rw [x_reqC hx, if_neg e2, Option.bind_some, xk_r]
      · unfold f_X13_withdraw
        rw [m_isWitness H0, decide_eq_true e, Option.bind_some]
        try dsimp only
        rw [m_isT, Option.bind_some]
        try dsimp only
        rw [ib_t, x1303 H0.tl.1, Option.bind_some]
        try dsimp only
        rw [show ixa 0 370 = some 0 from rfl, Option.bind_some, H0.tl.T (by omega) (by omega), isIn_C h0, decide_eq_false e2, Option.bind_some]
        try dsimp only
        rw [m_mayF, Option.bind_some, sI_sI, ib_f]
  · refine Bfail hv (e := 1) (w1 := w) ?_ Fr.rf hx.1 (fun u0 H0 G0 => ⟨0, 1, ?_, Or.inl ⟨rfl, rfl⟩⟩)
    · unfold f_X12_withdraw
      rw [x_re2 hx, if_neg e, Option.bind_some, xk_r]
    · unfold f_X13_withdraw
      rw [m_isWitness H0, decide_eq_false e, Option.bind_some]
      try dsimp only
      rw [m_isF, Option.bind_some, ib_f]
