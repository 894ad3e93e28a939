/-! What is tried and taken back. -/
theorem TSx_rg {f x : Nat} (h : TSx f x) : 133 ≤ x := by unfold TSx at h; omega
theorem cp133 {w : Wd} {b : Nat} {s t : Nat → Nat} (h : HX w 73 b s t) : ∃ w', f_X10_copyFrom Kc 133 (wR w 1205 0) w = some w' ∧ Fr TSx TAx w w' ∧ HX w' 133 b s t ∧ HX w' 73 b s t := by
  obtain ⟨w1, e1, o1, h1⟩ := x_copyFrom h (a := 133) (by decide) (by omega)
  have ub := SU_rg h.2.1.2.1
  have r1 := cpF o1
  refine ⟨w1, by rw [i1205 h.1]; exact e1, r1.mono (fun _ x q => Or.inl ⟨q.1, by have := q.2; omega⟩) (fun x q => Or.inl ⟨q.1, by have := q.2; omega⟩), h1, h.fr r1 h1.1 (fun f x q => ⟨fun z => by have := q.1; have := z.2; omega, fun z => by have := q.1; have := z.2; omega⟩) (fun x q => ⟨fun z => by have := q.1; have := z.2; omega, fun z => by have := q.1; have := z.2; omega⟩)⟩
theorem tx73 {w w' : Wd} {b : Nat} {s t : Nat → Nat} (h : HX w 73 b s t) (r : Fr TSx TAx w w') (f : FX w') : HX w' 73 b s t := by
  have ub := SU_rg h.2.1.2.1
  refine h.fr r f (fun f x q => ?_) (fun x q => ?_)
  · unfold TSx at q
    unfold RG RB
    omega
  · unfold TAx at q
    unfold RG RB
    omega
theorem HM.bk {w w' : Wd} {s t : Nat → Nat} (h : HM w s t) (f : FX w') (e1 : aI w' 416 = aI w 416) (e2 : ∀ k, k < 370 → aI w' 418 k = aI w 418 k) : HM w' s t := ⟨f, by rw [e1]; exact h.2.1, fun k hk => (e2 k hk).trans (h.2.2.1 k hk), h.2.2.2⟩
def SLp (f x : Nat) : Prop := x = 415 ∧ f = 1300
theorem b_lapsesIn {w : Wd} (h : Inv w) (x : Int32) : Both (f_X12_lapsesIn Kc 0 x) (f_X13_lapsesIn Kc 415 x) E21 w := Both.q h (fun b s t hx hm hp hg => by
  by_cases e : inP x (t 0)
  · obtain ⟨n, n0, n1, n2, rfl⟩ := inP_nI e
    obtain ⟨w1, e1, r1, k1, h1⟩ := cp133 hx
    obtain ⟨w2, e2, k2, o2⟩ := x_passDays k1 n0 n1
    have r2 : Fr TSx TAx w1 w2 := o2.fr.mono (fun _ x q => Or.inl (by unfold PD at q; omega)) (fun x q => Or.inl (by unfold PD at q; omega))
    have h2 := tx73 h1 r2 k2.1
    refine ⟨.inl (nI (cnt (fun i => cs (phT t (t 0 + n) (fin s t n)) i 0 == 3) (s 3)) - nI (cnt (fun i => cs t i 0 == 3) (s 3))), w2, ?_, r1.trans r2, k2.1, fun u0 H0 G0 => ?_⟩
    · unfold f_X12_lapsesIn
      rw [x_reqN hx, if_pos e, Option.bind_some, xk_l]
      try dsimp only
      rw [x1205 hx.1, Option.bind_some, show (3 : Int32) = nI 3 from rfl, x_countPhase hx (by omega), Option.bind_some]
      try dsimp only
      rw [x1208 hx.1, Option.bind_some, e1, Option.bind_some, x1208 k1.1, Option.bind_some, e2, Option.bind_some]
      try dsimp only
      rw [x1208 k2.1, Option.bind_some, x_countPhase k2 (by omega), Option.bind_some]
    · obtain ⟨u1, d1, p1, q1⟩ := m_tries (w := sI u0 1300 415 0) H0.1.sI
      have H1 : HM u1 s t := p1.HM H0.tl (by omega) (by omega)
      obtain ⟨u2, d2, H2, p2⟩ := m_passesAll H1 hp.1 n1
      obtain ⟨u3, d3, p3, q3⟩ := m_laysBack (w := u2) H2.1 (g := nI (cnt (fun i => cs (phT t (t 0 + n) (fin s t n)) i 0 == 3) (s 3)) - nI (cnt (fun i => cs t i 0 == 3) (s 3)))
      have p4 : Ofi SLp (fun x => x = 418 ∨ x = 421) u0 u3 := (((ofi_sI (S := SLp) (A := fun x => x = 418 ∨ x = 421) ⟨rfl, rfl⟩).trans (p1.mono (fun _ _ q => q.elim) (fun _ q => Or.inr q))).trans (p2.mono (fun _ _ q => q.elim) (fun _ q => Or.inl q))).trans (p3.mono (fun _ _ q => q.elim) (fun _ q => Or.inl q))
      refine ⟨_, u3, ?_, p4.fr.mono (fun f x q => ⟨q.1, Or.inl q.2⟩) (fun x q => Or.inl (by omega)), H0.bk (p3.FX H2.1) (by rw [p4.2.2 416 (by omega)]) (fun k hk => by rw [q3 k hk, p2.2.2 421 (by omega), q1 k hk]; rfl), by rw [p4.2.1 1315 415 (fun q => by have := q.2; omega)]; exact G0, rfl, ?_⟩
      · unfold f_X13_lapsesIn
        rw [m_canPass H0, decide_eq_true e, Option.bind_some]
        try dsimp only
        rw [m_isT, Option.bind_some]
        try dsimp only
        rw [ib_t, d1, Option.bind_some, show (3 : Int32) = nI 3 from rfl, m_manyIn H1 (by omega), Option.bind_some]
        try dsimp only
        rw [d2, Option.bind_some]
        try dsimp only
        rw [m_manyIn H2 (by omega), Option.bind_some]
        try dsimp only
        rw [d3, Option.bind_some]
      · rw [p3.2.1 _ _ (fun q => q), p2.2.1 _ _ (fun q => q), p1.2.1 _ _ (fun q => q), tl_t]
  · refine ⟨.inr 2, w, ?_, Fr.rf, hx.1, fun u0 H0 G0 => ⟨0, sI u0 1300 415 1, ?_, fr_sI ⟨rfl, Or.inl rfl⟩, H0.tl, tl_g G0, rfl, tl_t⟩⟩
    · unfold f_X12_lapsesIn
      rw [x_reqN hx, if_neg e, Option.bind_some, xk_r]
    · unfold f_X13_lapsesIn
      rw [m_canPass H0, decide_eq_false e, Option.bind_some]
      try dsimp only
      rw [m_isF, Option.bind_some, ib_f])
def plN (s t : Nat → Nat) (G : Int32) : Nat := (pSt s t G (cnt (wt t) (s 3))).2
theorem plN_le {s t : Nat → Nat} {G : Int32} (hS : GoodS s) : plN s t G ≤ 12 := by
  have h1 := hS.1.2.2.2
  have h2 := cnt_le (p := wt t) (s 3)
  have h3 := pSt_le (s := s) (t0 := t) (G := G) (cnt (wt t) (s 3))
  unfold plN
  omega
theorem x_forecast {w : Wd} {b : Nat} {s t : Nat → Nat} (h : HX w 73 b s t) {G : Int32} {ab : Nat} (hab : AB s G ab) : ∃ w', f_X12_forecastPlanned Kc 0 (nI ab) w = some (nI (plN s t G), w') ∧ Fr TSx TAx w w' ∧ HX w' 73 b s t := by
  obtain ⟨w1, e1, r1, k1, h1⟩ := cp133 h
  obtain ⟨w2, e2, k2, o2⟩ := x_planWaiting k1 hab
  have r2 : Fr TSx TAx w1 w2 := o2.fr.mono (fun _ x q => by unfold PA at q; unfold TSx; omega) (fun x q => by unfold PA at q; unfold TAx; omega)
  refine ⟨w2, ?_, r1.trans r2, tx73 h1 r2 k2.1⟩
  unfold f_X12_forecastPlanned
  rw [x1208 h.1, Option.bind_some, e1, Option.bind_some, x1211 k1.1, Option.bind_some, i1208 k1.1, e2, Option.bind_some]
  rfl
def SPl (f x : Nat) : Prop := x = 415 ∧ 1316 ≤ f ∧ f ≤ 1319
def APl (x : Nat) : Prop := x = 418 ∨ x = 421 ∨ x = 428
theorem m_plannableNow {u0 : Wd} {s t : Nat → Nat} (H0 : HM u0 s t) {G : Int32} (hg : wI u0 1315 415 = G) : ∃ u3, f_X13_plannableNow Kc 415 u0 = some (nI (plN s t G), u3) ∧ Ofi SPl APl u0 u3 ∧ HM u3 s t := by
  obtain ⟨u1, d1, p1, q1⟩ := m_tries H0.1
  have H1 : HM u1 s t := p1.HM H0 (by omega) (by omega)
  obtain ⟨u2, d2, H2, p2⟩ := m_plansAll H1 (G := G) (by rw [p1.2.1 _ _ (fun q => q)]; exact hg)
  obtain ⟨u3, d3, p3, q3⟩ := m_laysBack (w := u2) H2.1 (g := nI (plN s t G))
  have p4 : Ofi SPl APl u0 u3 := ((p1.mono (fun _ _ q => q.elim) (fun _ q => Or.inr (Or.inl q))).trans (p2.mono (fun _ _ q => q) (fun _ q => q.elim Or.inl (fun z => Or.inr (Or.inr z))))).trans (p3.mono (fun _ _ q => q.elim) (fun _ q => Or.inl q))
  refine ⟨u3, ?_, p4, H0.bk (p3.FX H2.1) (by rw [p4.2.2 416 (by unfold APl; omega)]) (fun k hk => by rw [q3 k hk, p2.2.2 421 (by unfold A2; omega), q1 k hk])⟩
  unfold f_X13_plannableNow
  rw [d1, Option.bind_some, d2, Option.bind_some]
  try dsimp only
  unfold plN at d3
  rw [d3, Option.bind_some]
  rfl
theorem Both0.q {α : Type} {X M : Wd → Option (α × Wd)} {w : Wd} (h : Inv w) (H : ∀ b s t, HX w 73 b s t → HM w s t → POK s t → wI w 1315 415 = -nI 1 → ∃ a w1, X w = some (a, w1) ∧ Fr TSx TAx w w1 ∧ FX w1 ∧ ∀ w2, HM w2 s t → wI w2 1315 415 = -nI 1 → ∃ w3, M w2 = some (a, w3) ∧ Fr TSm TAm w2 w3 ∧ HM w3 s t ∧ wI w3 1315 415 = -nI 1) : Both0 X M w := by
  have hb : Both (fun w => (X w).bind fun q => some ((.inl q.1 : α ⊕ Nat), q.2)) (fun w => (M w).bind fun q => some (q.1, sI q.2 1300 415 0)) E11 w := Both.q h (fun b s t c1 c2 c3 c4 => by
    obtain ⟨a, w1, e1, r1, f1, k⟩ := H b s t c1 c2 c3 c4
    refine ⟨.inl a, w1, by rw [e1]; rfl, r1, f1, fun w2 h2 g2 => ?_⟩
    obtain ⟨w3, e3, r3, h3, g3⟩ := k w2 h2 g2
    exact ⟨a, sI w3 1300 415 0, by rw [e3]; rfl, r3.trans (fr_sI ⟨rfl, Or.inl rfl⟩), h3.tl, tl_g g3, rfl, tl_t⟩)
  obtain ⟨b, s, t, ⟨c1, c2, c3, c4⟩, ⟨m, hs, p1, p2⟩, ⟨v, st, q1, q2⟩, o⟩ := h
  obtain ⟨a, w1, e1, r1, f1, k⟩ := H b s t c1 c2 c3 c4
  have ub := SU_rg c1.2.1.2.1
  obtain ⟨w3, e3, r3, h3, g3⟩ := k w1 (c2.fr r1 f1 (by unfold TAx; omega) (by unfold TAx; omega)) (by rw [(r1.1 1315 415 (by unfold TSx; omega)).1]; exact c4)
  have r13 : Fr (fun f x => TSx f x ∨ TSm f x) (fun x => TAx x ∨ x = 437 ∨ TAm x) w w3 := (r1.mono (fun _ _ q => Or.inl q) (fun _ q => Or.inl q)).trans (r3.mono (fun _ _ q => Or.inr q) (fun _ q => Or.inr (Or.inr q)))
  refine ⟨a, w1, w3, e1, e3, ⟨b, s, t, ⟨c1.fr r13 h3.1 (fun f x q => ?_) (fun x q => ?_), h3, c3, g3⟩, ⟨m, hs, p1.fr c1.2.1.2.1 r13 h3.1 (fun f x q => ?_) (fun x q => ?_), p2.fr r13 (by unfold TSx TSm; omega) (by unfold TAx TAm; omega)⟩, ⟨v, st, q1.fr c1.2.1.2.1 r13 h3.1 (fun f x q => ?_) (fun x q => ?_), q2.fr r13 (by unfold TSx TSm; omega) (by unfold TAx TAm; omega)⟩, o.fr c1.2.1.2.1 r13 (fun f x q => ?_) (fun x q => ?_)⟩⟩
  all_goals first | unfold TSx TSm at q | unfold TAx TAm at q
  all_goals try unfold RG RB
  all_goals try unfold inU
  all_goals omega
theorem b_plannable {w : Wd} (h : Inv w) : Both0 (f_X12_plannable Kc 0) (f_X13_plannable Kc 415) w := Both0.q h (fun b s t hx hm hp hg => by
  obtain ⟨w1, e1, r1, k1⟩ := x_forecast hx (AB0 hx.gs.1.2.1)
  refine ⟨nI (plN s t (-nI 1)), w1, ?_, r1, k1.1, fun u0 H0 G0 => ?_⟩
  · unfold f_X12_plannable
    rw [show (0 : Int32) = nI 0 from rfl, e1, Option.bind_some]
  · obtain ⟨u3, d3, p3, H3⟩ := m_plannableNow (u0 := sI u0 1300 415 0) H0.tl (tl_g G0)
    refine ⟨u3, ?_, (fr_sI ⟨rfl, Or.inl rfl⟩).trans (p3.fr.mono (fun f x q => ⟨q.1, Or.inr (by unfold SPl at q; omega)⟩) (fun x q => by unfold APl at q; unfold TAm; omega)), H3, by rw [p3.2.1 1315 415 (by unfold SPl; omega)]; exact tl_g G0⟩
    unfold f_X13_plannable
    rw [Option.bind_some, d3, Option.bind_some])
/-- the officer on whom most depends, and what is left without one -/
def kyO (P : Nat → Nat) (z : Nat) : Nat → Nat × Option Nat
  | 0 => (z, none)
  | c + 1 => if P c < (kyO P z c).1 then (P c, some c) else kyO P z c
theorem kyO_le {P : Nat → Nat} {z M : Nat} (hz : z ≤ M) (hP : ∀ c, P c ≤ M) : ∀ c, (kyO P z c).1 ≤ M
  | 0 => hz
  | c + 1 => by
    rw [kyO]
    split
    · exact hP c
    · exact kyO_le hz hP c
theorem AB1 {s : Nat → Nat} (h : s 1 ≤ 6) {c : Nat} (hc : c < s 1) : AB s (nI c) (2 ^ c) := ⟨Nat.pow_lt_pow_right (n := 6) (by omega) (by omega), fun o ho => by
  rw [Nat.testBit_two_pow]
  refine decide_eq_decide.mpr ⟨fun q => by rw [q], fun q => ?_⟩
  exact ((nI_eq (by omega) (by omega)).mp q).symm⟩
theorem b_keyOfficer {w : Wd} (h : Inv w) : Both0 (f_X12_keyOfficer Kc 0) (f_X13_keyOfficer Kc 415) w := Both0.q h (fun b s t hx hm hp hg => by
  have h6 := hx.gs.1.2.1
  have kl := fun c => kyO_le (P := fun o => plN s t (nI o)) (z := plN s t (-nI 1)) (M := 12) (plN_le hx.gs) (fun o => plN_le hx.gs) c
  generalize hK : kyO (fun o => plN s t (nI o)) (plN s t (-nI 1)) = K at *
  have K0 : K 0 = (plN s t (-nI 1), none) := by rw [← hK]; rfl
  have Ks : ∀ c, K (c + 1) = if plN s t (nI c) < (K c).1 then (plN s t (nI c), some c) else K c := fun c => by rw [← hK]; rfl
  obtain ⟨w1, e1, r1, k1⟩ := x_forecast hx (AB0 hx.gs.1.2.1)
  have xl : ∃ w', f_X12_keyOfficer_L10 Kc 0 (fun v1_10 v2_10 v3_10 w2 => some (v2_10, w2)) fu (nI (K 0).1) (oI (K 0).2) (nI 0) w1 = some (oI (K (s 1)).2, w') ∧ Fr TSx TAx w1 w' ∧ HX w' 73 b s t := by
    refine loop_q (fun n c w2 => f_X12_keyOfficer_L10 Kc 0 (fun v1_10 v2_10 v3_10 w2 => some (v2_10, w2)) n (nI (K c).1) (oI (K c).2) (nI c) w2) (fun c w2 => Fr TSx TAx w1 w2 ∧ HX w2 73 b s t) (fun r => ∃ w', r = some (oI (K (s 1)).2, w') ∧ Fr TSx TAx w1 w' ∧ HX w' 73 b s t) (s 1) (fun n w2 hI => ?_) (fun n c w2 hc hI ih => ?_) fu 0 w1 ⟨Fr.rf, k1⟩ (by omega) (fu_lt (by omega))
    · try dsimp only
      rw [f_X12_keyOfficer_L10, x1205 hI.2.1, Option.bind_some, hI.2.su, Option.bind_some, show (1 : Int32) = nI 1 from rfl, x_size hI.2 (by omega), Option.bind_some]
      try dsimp only
      rw [if_le_t (by omega) (by omega) (Nat.le_refl _)]
      exact ⟨w2, rfl, hI⟩
    · try dsimp only at ih ⊢
      obtain ⟨w3, e3, r3, k3⟩ := x_forecast hI.2 (AB1 h6 hc)
      have hp := Nat.pow_lt_pow_right (a := 2) (n := 6) (m := c) (by omega) (by omega)
      have l1 := kl c
      have l2 := plN_le (s := s) (t := t) (G := nI c) hx.gs
      rw [f_X12_keyOfficer_L10, x1205 hI.2.1, Option.bind_some, hI.2.su, Option.bind_some, show (1 : Int32) = nI 1 from rfl, x_size hI.2 (by omega), Option.bind_some]
      try dsimp only
      rw [if_le_f (by omega) (by omega) hc, show (31 : Int32) = nI 31 from rfl, shl_nI (by omega) (by omega), Nat.one_mul, e3, Option.bind_some]
      try dsimp only
      rw [nI_add]
      have := ih w3 ⟨hI.1.trans r3, k3⟩
      rw [Ks] at this
      by_cases e : plN s t (nI c) < (K c).1
      · rw [if_le_f (by omega) (by omega) e]
        rw [if_pos e] at this
        exact this
      · rw [if_le_t (by omega) (by omega) (by omega)]
        rw [if_neg e] at this
        exact this
  obtain ⟨w2, e2, r2, k2⟩ := xl
  rw [K0] at e2
  refine ⟨oI (K (s 1)).2, w2, ?_, r1.trans r2, k2.1, fun u0 H0 G0 => ?_⟩
  · unfold f_X12_keyOfficer
    rw [show (0 : Int32) = nI 0 from rfl, e1, Option.bind_some]
    exact e2
  · obtain ⟨u1, d1, p1, H1⟩ := m_plannableNow (u0 := sI u0 1300 415 0) H0.tl (tl_g G0)
    have t1 : Fr TSm TAm u0 u1 := (fr_sI ⟨rfl, Or.inl rfl⟩).trans (p1.fr.mono (fun f x q => ⟨q.1, Or.inr (by unfold SPl at q; omega)⟩) (fun x q => by unfold APl at q; unfold TAm; omega))
    have ml : ∃ w', f_X13_keyOfficer_L14 Kc 415 (fun v1_14 v2_14 v3_14 w3 => some (v1_14, w3)) fu (oI (K 0).2) (nI (K 0).1) (nI 0) u1 = some (oI (K (s 1)).2, w') ∧ Fr TSm TAm u1 w' ∧ HM w' s t ∧ wI w' 1315 415 = -nI 1 := by
      refine loop_q (fun n c w2 => f_X13_keyOfficer_L14 Kc 415 (fun v1_14 v2_14 v3_14 w3 => some (v1_14, w3)) n (oI (K c).2) (nI (K c).1) (nI c) w2) (fun c w2 => Fr TSm TAm u1 w2 ∧ HM w2 s t ∧ wI w2 1315 415 = -nI 1) (fun r => ∃ w', r = some (oI (K (s 1)).2, w') ∧ Fr TSm TAm u1 w' ∧ HM w' s t ∧ wI w' 1315 415 = -nI 1) (s 1) (fun n w2 hI => ?_) (fun n c w2 hc hI ih => ?_) fu 0 u1 ⟨Fr.rf, H1, by rw [p1.2.1 1315 415 (by unfold SPl; omega)]; exact tl_g G0⟩ (by omega) (fu_lt (by omega))
      · try dsimp only
        rw [f_X13_keyOfficer_L14, x1301 hI.2.1.1, Option.bind_some]
        try dsimp only
        rw [show ixa 1 170 = some 1 from rfl, Option.bind_some, hI.2.1.S (by omega), if_le_t (by omega) (by omega) (Nat.le_refl _)]
        exact ⟨w2, rfl, hI⟩
      · try dsimp only at ih ⊢
        obtain ⟨i1, i2, i3⟩ := hI
        have H3 : HM (sI w2 1315 415 (nI c)) s t := ⟨i2.1.sI, i2.2⟩
        obtain ⟨w3, e3, o3, k3⟩ := m_plannableNow H3 (G := nI c) (by rw [wI_sI, if_pos ⟨rfl, rfl⟩])
        have H4 : HM (sI w3 1315 415 (-1)) s t := ⟨k3.1.sI, k3.2⟩
        have l1 := kl c
        have l2 := plN_le (s := s) (t := t) (G := nI c) hx.gs
        rw [f_X13_keyOfficer_L14, x1301 i2.1, Option.bind_some]
        try dsimp only
        rw [show ixa 1 170 = some 1 from rfl, Option.bind_some, i2.S (by omega), if_le_f (by omega) (by omega) hc, Option.bind_some, e3, Option.bind_some, Option.bind_some, show nI c + 1 = nI (c + 1) from nI_add c 1]
        try dsimp only
        have := ih (sI w3 1315 415 (-1)) ⟨((i1.trans (fr_sI ⟨rfl, Or.inr ⟨by omega, by omega⟩⟩)).trans (o3.fr.mono (fun f x q => ⟨q.1, Or.inr (by unfold SPl at q; omega)⟩) (fun x q => by unfold APl at q; unfold TAm; omega))).trans (fr_sI ⟨rfl, Or.inr ⟨by omega, by omega⟩⟩), H4, by rw [wI_sI, if_pos ⟨rfl, rfl⟩]; rfl⟩
        rw [Ks] at this
        by_cases e : plN s t (nI c) < (K c).1
        · rw [if_lt_t (by omega) (by omega) e]
          rw [if_pos e] at this
          exact this
        · rw [if_lt_f (by omega) (by omega) (by omega)]
          rw [if_neg e] at this
          exact this
    obtain ⟨u2, d2, t2, H2, G2⟩ := ml
    rw [K0] at d2
    refine ⟨u2, ?_, t1.trans t2, H2, G2⟩
    unfold f_X13_keyOfficer
    rw [Option.bind_some, d1, Option.bind_some]
    exact d2)
