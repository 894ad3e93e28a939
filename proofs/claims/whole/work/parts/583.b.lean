/-! Calls that look for a hearing; counts; what was wrong. -/
theorem Both.q2 {α : Type} {X : Wd → Option ((α ⊕ Nat) × Wd)} {M : Wd → Option (α × Wd)} {E : Nat → Int32 → Prop} {w : Wd} (h : Inv w) (H : ∀ b s t, HX w 73 b s t → HM w s t → wI w 1315 415 = -nI 1 → ∃ r w1, X w = some (r, w1) ∧ Fr TSx TAx w w1 ∧ FX w1 ∧ ∀ w2, HM w2 s t → wI w2 1315 415 = -nI 1 → ∃ v w3, M w2 = some (v, w3) ∧ Ofi (fun f x => x = 415 ∧ (f = 1300 ∨ (1316 ≤ f ∧ f < 1320))) NA w2 w3 ∧ Rs E r v (wI w3 1300 415)) : Both X M E w := Both.q h (fun b s t c1 c2 c3 c4 => by
  obtain ⟨r, w1, e, r1, f1, k⟩ := H b s t c1 c2 c4
  refine ⟨r, w1, e, r1, f1, fun w2 h2 g2 => ?_⟩
  obtain ⟨v, w3, e3, o3, q⟩ := k w2 h2 g2
  exact ⟨v, w3, e3, o3.fr.mono (fun _ _ q => ⟨q.1, by have := q.2; omega⟩) (fun _ q => q.elim), o3.HM h2 (fun q => q) (fun q => q), by rw [o3.2.1 1315 415 (fun q => by have := q.2; omega)]; exact g2, q⟩)
theorem PL_fr {w w1 : Wd} (h : Off PL w w1) : Fr TSx TAx w w1 := h.fr.mono (fun _ x q => Or.inr ⟨q.1, by have := q.2; omega⟩) (fun x q => Or.inr ⟨q.1, by have := q.2; omega⟩)
theorem tl_ofi {w : Wd} {c : Int32} : Ofi (fun f x => x = 415 ∧ (f = 1300 ∨ (1316 ≤ f ∧ f < 1320))) NA w (sI w 1300 415 c) := ofi_sI ⟨rfl, Or.inl rfl⟩
theorem FN_ofi {w w1 : Wd} (h : Ofi FN NA w w1) : Ofi (fun f x => x = 415 ∧ (f = 1300 ∨ (1316 ≤ f ∧ f < 1320))) NA w w1 := h.mono (fun _ _ q => ⟨q.1, Or.inr ⟨q.2.1, by have := q.2.2; omega⟩⟩) (fun _ q => q)
theorem tl_g {w : Wd} {c g : Int32} (h : wI w 1315 415 = g) : wI (sI w 1300 415 c) 1315 415 = g := by rw [wI_sI, if_neg (by omega)]; exact h
theorem tl_t {w : Wd} {c : Int32} : wI (sI w 1300 415 c) 1300 415 = c := by rw [wI_sI, if_pos ⟨rfl, rfl⟩]
def E112233 (e : Nat) (c : Int32) : Prop := (e = 1 ∧ c = 1) ∨ (e = 2 ∧ c = 2) ∨ (e = 3 ∧ c = 3)
def E1132 (e : Nat) (c : Int32) : Prop := (e = 1 ∧ c = 1) ∨ (e = 3 ∧ c = 2)
def E41 (e : Nat) (c : Int32) : Prop := e = 4 ∧ c = 1
theorem x_reqH {w : Wd} {b : Nat} {s t : Nat → Nat} (h : HX w 73 b s t) {x d q r o : Int32} : f_X12_requireHearing Kc 0 x d q r o w = some (if inR x (s 3) ∧ inR r (s 0) ∧ inR o (s 1) then (if inR d 600 ∧ inR q 8 then .inl () else .inr 2) else .inr 1, w) := by
  unfold f_X12_requireHearing
  rw [x_re3 h]
  by_cases e1 : inR x (s 3)
  · rw [if_pos e1, Option.bind_some, xk_l]
    try dsimp only
    rw [x_re0 h]
    by_cases e2 : inR r (s 0)
    · rw [if_pos e2, Option.bind_some, xk_l]
      try dsimp only
      rw [x_re1 h]
      by_cases e3 : inR o (s 1)
      · rw [if_pos e3, Option.bind_some, xk_l]
        try dsimp only
        rw [x_reqD]
        by_cases e4 : inR d 600
        · rw [if_pos e4, Option.bind_some, xk_l]
          try dsimp only
          rw [x_reqS]
          by_cases e5 : inR q 8
          · rw [if_pos e5, Option.bind_some, xk_l, if_pos ⟨e1, e2, e3⟩, if_pos ⟨e4, e5⟩]
          · rw [if_neg e5, Option.bind_some, xk_r, if_pos ⟨e1, e2, e3⟩, if_neg (fun z => e5 z.2)]
        · rw [if_neg e4, Option.bind_some, xk_r, if_pos ⟨e1, e2, e3⟩, if_neg (fun z => e4 z.1)]
      · rw [if_neg e3, Option.bind_some, xk_r, if_neg (fun z => e3 z.2.2)]
    · rw [if_neg e2, Option.bind_some, xk_r, if_neg (fun z => e2 z.2.1)]
  · rw [if_neg e1, Option.bind_some, xk_r, if_neg (fun z => e1 z.1)]
theorem b_problem {w : Wd} (h : Inv w) (x d q r o : Int32) : Both (f_X12_problem Kc 0 x d q r o) (f_X13_problem Kc 415 x d q r o) E112233 w := Both.q2 h (fun b s t hx hm hg => by
  have hs := hx.gs.1
  by_cases e : inR x (s 3) ∧ inR r (s 0) ∧ inR o (s 1)
  · by_cases e2 : inR d 600 ∧ inR q 8
    · obtain ⟨i, hi, rfl⟩ := inR_nI e.1
      obtain ⟨r, hr, rfl⟩ := inR_nI e.2.1
      obtain ⟨o, ho, rfl⟩ := inR_nI e.2.2
      obtain ⟨d, hd, rfl⟩ := inR_nI e2.1
      obtain ⟨q, hq, rfl⟩ := inR_nI e2.2
      by_cases e3 : cs t i 0 ≤ 1
      · obtain ⟨w1, x1, o1⟩ := x_faultOf hx hi (d := d) (by omega) hq hr ho
        refine ⟨.inl (nI (flN s t (-nI 1) i d q r o)), w1, ?_, PL_fr o1, o1.FX hx.1, fun w2 h2 g2 => ⟨_, sI w2 1300 415 0, ?_, tl_ofi, rfl, tl_t⟩⟩
        · unfold f_X12_problem
          rw [x_reqH hx, if_pos e, if_pos e2, Option.bind_some, xk_l]
          try dsimp only
          rw [x_reqU hx (by omega), if_pos e3, Option.bind_some, xk_l]
          try dsimp only
          rw [x1211 hx.1, Option.bind_some, i1205 hx.1, x1, Option.bind_some]
        · unfold f_X13_problem
          rw [m_areThere h2, decide_eq_true e, Option.bind_some]
          try dsimp only
          rw [m_isT, Option.bind_some]
          try dsimp only
          rw [ib_t, m_isTime, decide_eq_true e2, Option.bind_some]
          try dsimp only
          rw [m_mayT, Option.bind_some, sI_sI]
          try dsimp only
          rw [ib_t, m_isOpen h2.tl (by omega), decide_eq_true e3, Option.bind_some]
          try dsimp only
          rw [m_mayT, Option.bind_some, sI_sI]
          try dsimp only
          rw [ib_t, m_problemOf h2.tl (tl_g g2) hi (by omega) (by omega) hr ho, Option.bind_some]
      · refine ⟨.inr 3, w, ?_, Fr.rf, hx.1, fun w2 h2 g2 => ⟨0, sI w2 1300 415 3, ?_, tl_ofi, Or.inr (Or.inr ⟨rfl, tl_t⟩)⟩⟩
        · unfold f_X12_problem
          rw [x_reqH hx, if_pos e, if_pos e2, Option.bind_some, xk_l]
          try dsimp only
          rw [x_reqU hx (by omega), if_neg e3, Option.bind_some, xk_r]
        · unfold f_X13_problem
          rw [m_areThere h2, decide_eq_true e, Option.bind_some]
          try dsimp only
          rw [m_isT, Option.bind_some]
          try dsimp only
          rw [ib_t, m_isTime, decide_eq_true e2, Option.bind_some]
          try dsimp only
          rw [m_mayT, Option.bind_some, sI_sI]
          try dsimp only
          rw [ib_t, m_isOpen h2.tl (by omega), decide_eq_false e3, Option.bind_some]
          try dsimp only
          rw [m_mayF, Option.bind_some, sI_sI, ib_f]
    · refine ⟨.inr 2, w, ?_, Fr.rf, hx.1, fun w2 h2 g2 => ⟨0, sI w2 1300 415 2, ?_, tl_ofi, Or.inr (Or.inl ⟨rfl, tl_t⟩)⟩⟩
      · unfold f_X12_problem
        rw [x_reqH hx, if_pos e, if_neg e2, Option.bind_some, xk_r]
      · unfold f_X13_problem
        rw [m_areThere h2, decide_eq_true e, Option.bind_some]
        try dsimp only
        rw [m_isT, Option.bind_some]
        try dsimp only
        rw [ib_t, m_isTime, decide_eq_false e2, Option.bind_some]
        try dsimp only
        rw [m_mayF, Option.bind_some, sI_sI, ib_f]
  · refine ⟨.inr 1, w, ?_, Fr.rf, hx.1, fun w2 h2 g2 => ⟨0, sI w2 1300 415 1, ?_, tl_ofi, Or.inl ⟨rfl, tl_t⟩⟩⟩
    · unfold f_X12_problem
      rw [x_reqH hx, if_neg e, Option.bind_some, xk_r]
    · unfold f_X13_problem
      rw [m_areThere h2, decide_eq_false e, Option.bind_some]
      try dsimp only
      rw [m_isF, Option.bind_some, ib_f])
theorem b_openDays {w : Wd} (h : Inv w) (x : Int32) : Both (f_X12_openDays Kc 0 x) (f_X13_openDays Kc 415 x) E1132 w := Both.q2 h (fun b s t hx hm hg => by
  have hs := hx.gs.1
  by_cases e : inR x (s 3)
  · obtain ⟨i, hi, rfl⟩ := inR_nI e
    by_cases e3 : cs t i 0 ≤ 1
    · obtain ⟨w1, x1, o1⟩ := x_countOpenDays hx hi
      refine ⟨.inl (nI (cnD s t (-nI 1) i (limD s t i))), w1, ?_, PL_fr o1, o1.FX hx.1, fun w2 h2 g2 => ?_⟩
      · unfold f_X12_openDays
        rw [x_re3 hx, if_pos e, Option.bind_some, xk_l]
        try dsimp only
        rw [x_reqU hx (by omega), if_pos e3, Option.bind_some, xk_l]
        try dsimp only
        rw [x1211 hx.1, Option.bind_some, i1205 hx.1, x1, Option.bind_some]
      · obtain ⟨w3, x3, o3⟩ := m_openDaysL (w := sI w2 1300 415 0) h2.tl (tl_g g2) hi (limD_le hx.gs hx.gt hi)
        refine ⟨_, w3, ?_, tl_ofi.trans (FN_ofi o3), rfl, by rw [FN_g o3 (by omega), tl_t]⟩
        unfold f_X13_openDays
        rw [m_isCase h2, decide_eq_true e, Option.bind_some]
        try dsimp only
        rw [m_isT, Option.bind_some]
        try dsimp only
        rw [ib_t, m_isOpen h2.tl (by omega), decide_eq_true e3, Option.bind_some]
        try dsimp only
        rw [m_mayT, Option.bind_some, sI_sI]
        try dsimp only
        rw [ib_t, m_lastDay h2.tl hi, Option.bind_some]
        try dsimp only
        rw [x1303 h2.tl.1, Option.bind_some]
        try dsimp only
        rw [show ixa 0 370 = some 0 from rfl, Option.bind_some, h2.tl.T (by omega) (by omega)]
        exact x3
    · refine ⟨.inr 3, w, ?_, Fr.rf, hx.1, fun w2 h2 g2 => ⟨0, sI w2 1300 415 2, ?_, tl_ofi, Or.inr ⟨rfl, tl_t⟩⟩⟩
      · unfold f_X12_openDays
        rw [x_re3 hx, if_pos e, Option.bind_some, xk_l]
        try dsimp only
        rw [x_reqU hx (by omega), if_neg e3, Option.bind_some, xk_r]
      · unfold f_X13_openDays
        rw [m_isCase h2, decide_eq_true e, Option.bind_some]
        try dsimp only
        rw [m_isT, Option.bind_some]
        try dsimp only
        rw [ib_t, m_isOpen h2.tl (by omega), decide_eq_false e3, Option.bind_some]
        try dsimp only
        rw [m_mayF, Option.bind_some, sI_sI, ib_f]
  · refine ⟨.inr 1, w, ?_, Fr.rf, hx.1, fun w2 h2 g2 => ⟨0, sI w2 1300 415 1, ?_, tl_ofi, Or.inl ⟨rfl, tl_t⟩⟩⟩
    · unfold f_X12_openDays
      rw [x_re3 hx, if_neg e, Option.bind_some, xk_r]
    · unfold f_X13_openDays
      rw [m_isCase h2, decide_eq_false e, Option.bind_some]
      try dsimp only
      rw [m_isF, Option.bind_some, ib_f])
theorem m_manyW {w : Wd} {s t : Nat → Nat} (h : HM w s t) : f_X13_manyIn Kc 415 0 w = some (nI (cnt (wt t) (s 3)), w) := m_manyIn h (p := 0) (by omega)
theorem b_urgent {w : Wd} (h : Inv w) (x : Int32) : Both (f_X12_urgent Kc 0 x) (f_X13_urgent Kc 415 x) E41 w := Both.q2 h (fun b s t hx hm hg => by
  have hs := hx.gs.1
  have hc := cnt_le (p := wt t) (s 3)
  obtain ⟨w1, x1, o1, k1⟩ := x_sortWaiting hx (v := wR w 1213 0) (m := 413) (x1213 hx.1) (by omega)
  have r1 : Fr TSx TAx w w1 := o1.fr.mono (fun _ _ q => q.elim) (fun x q => Or.inr ⟨by omega, by omega⟩)
  have f1 := o1.FX hx.1
  by_cases e : inR x (cnt (wt t) (s 3))
  · obtain ⟨k, hk, rfl⟩ := inR_nI e
    obtain ⟨v, hv, av⟩ := k1 k hk
    refine ⟨.inl (nI v), w1, ?_, r1, f1, fun w2 h2 g2 => ⟨_, sI w2 1300 415 0, ?_, tl_ofi, rfl, tl_t⟩⟩
    · unfold f_X12_urgent
      rw [x1205 hx.1, Option.bind_some, x1, Option.bind_some]
      try dsimp only
      rw [if_neg (fun q => by have := lt0.mp q; have := e.1; omega), if_pos ((nI_ltI (by omega) (by omega)).mpr hk), x1213 f1, Option.bind_some]
      try dsimp only
      rw [ixa_n (by omega) (by omega), Option.bind_some, av]
    · unfold f_X13_urgent
      rw [m_manyW h2, Option.bind_some]
      try dsimp only
      rw [isIn_n (n := cnt (wt t) (s 3)) (pm1 (n := cnt (wt t) (s 3)) (by omega)), decide_eq_true e, Option.bind_some]
      try dsimp only
      rw [m_isT, Option.bind_some]
      try dsimp only
      rw [ib_t, m_urgentAt h2.tl (by omega), Option.bind_some, hv]
      rfl
  · refine ⟨.inr 4, w1, ?_, r1, f1, fun w2 h2 g2 => ⟨0, sI w2 1300 415 1, ?_, tl_ofi, rfl, tl_t⟩⟩
    · unfold f_X12_urgent
      rw [x1205 hx.1, Option.bind_some, x1, Option.bind_some]
      try dsimp only
      by_cases e2 : x < 0
      · rw [if_pos e2]
      · rw [if_neg e2, if_neg (fun q => e ⟨by have : ¬ x.toInt < 0 := fun z => e2 (lt0.mpr z); omega, (ltn (by omega)).mp q⟩)]
    · unfold f_X13_urgent
      rw [m_manyW h2, Option.bind_some]
      try dsimp only
      rw [isIn_n (n := cnt (wt t) (s 3)) (pm1 (n := cnt (wt t) (s 3)) (by omega)), decide_eq_false e, Option.bind_some]
      try dsimp only
      rw [m_isF, Option.bind_some, ib_f])
theorem b_opening {w : Wd} (h : Inv w) (x y : Int32) : Both (f_X12_opening Kc 0 x y) (f_X13_opening Kc 415 x y) E1132 w := Both.q2 h (fun b s t hx hm hg => by
  have hs := hx.gs.1
  by_cases e : inR x (s 3)
  · by_cases e2 : inR y 4
    · obtain ⟨i, hi, rfl⟩ := inR_nI e
      obtain ⟨k, hk, rfl⟩ := inR_nI e2
      by_cases e3 : cs t i 0 ≤ 1
      · have x1 := x_findFirst hx hi (AB0 hs.2.1)
        have xf : f_X12_opening Kc 0 (nI i) (nI k) w = ((f_X6_findFirst Kc 404 (some 73) (nI i) (nI 0) w).bind fun q8 => if (b2i q8.1) = 0 then (some (.inl (-1), q8.2)) else (if nI k < 0 ∨ 2 < nI k then ((chk Kc 5 (wR q8.2 1211 0)).bind fun a11 => some (.inl (wI q8.2 611 a11), q8.2)) else if nI k = 0 then ((chk Kc 5 (wR q8.2 1211 0)).bind fun a13 => some (.inl (wI q8.2 608 a13), q8.2)) else if nI k = 1 then ((chk Kc 5 (wR q8.2 1211 0)).bind fun a15 => some (.inl (wI q8.2 609 a15), q8.2)) else if nI k = 2 then ((chk Kc 5 (wR q8.2 1211 0)).bind fun a17 => some (.inl (wI q8.2 610 a17), q8.2)) else none)) := by
          unfold f_X12_opening
          rw [x_re3 hx, if_pos e, Option.bind_some, xk_l]
          try dsimp only
          rw [if_neg (fun q => by have := lt0.mp q; have := e2.1; omega), if_pos (show nI k ≤ 3 from (nI_leI (a := k) (b := 3) (by omega) (by omega)).mpr (by omega)), x_reqU hx (by omega), if_pos e3, Option.bind_some, xk_l]
          try dsimp only
          rw [x1211 hx.1, Option.bind_some, i1205 hx.1]
          rfl
        have mf : ∀ w2, HM w2 s t → f_X13_opening Kc 415 (nI i) (nI k) w2 = ((f_X13_finds Kc 415 (nI i) (sI w2 1300 415 0)).bind fun q32 => if (b2i q32.1) = 0 then (some ((-1), q32.2)) else (if nI k < 0 ∨ 2 < nI k then (some ((wI q32.2 1319 415), q32.2)) else if nI k = 0 then (some ((wI q32.2 1316 415), q32.2)) else if nI k = 1 then (some ((wI q32.2 1317 415), q32.2)) else if nI k = 2 then (some ((wI q32.2 1318 415), q32.2)) else none)) := fun w2 h2 => by
          unfold f_X13_opening
          rw [m_isCase h2, decide_eq_true e, Option.bind_some]
          try dsimp only
          rw [ib_t, isIn_n (n := 4) rfl, decide_eq_true e2, Option.bind_some]
          try dsimp only
          rw [ib_t, m_isT, Option.bind_some]
          try dsimp only
          rw [ib_t, m_isOpen h2.tl (by omega), decide_eq_true e3, Option.bind_some]
          try dsimp only
          rw [m_mayT, Option.bind_some, sI_sI]
          try dsimp only
          rw [ib_t]
        cases q0 : fa s t (-nI 1) i with
        | none =>
          rw [q0] at x1
          obtain ⟨w1, x1, o1⟩ := x1
          refine ⟨.inl (-1), w1, ?_, PL_fr o1, o1.FX hx.1, fun w2 h2 g2 => ⟨_, sI w2 1300 415 0, ?_, tl_ofi, rfl, tl_t⟩⟩
          · rw [xf, x1, Option.bind_some]; rfl
          · rw [mf w2 h2, m_finds h2.tl (tl_g g2) hi, q0]; rfl
        | some z =>
          obtain ⟨d, q, r, o⟩ := z
          rw [q0] at x1
          obtain ⟨w1, x1, o1⟩ := x1
          have f1 : FX (setG w1 d q r o) := (((o1.FX hx.1).sI).sI).sI.sI
          have og : Fr TSx TAx w (setG w1 d q r o) := (PL_fr o1).trans (((((fr_sI (Or.inr ⟨by omega, by omega⟩) : Fr TSx TAx _ _).trans (fr_sI (Or.inr ⟨by omega, by omega⟩))).trans (fr_sI (Or.inr ⟨by omega, by omega⟩))).trans (fr_sI (Or.inr ⟨by omega, by omega⟩))))
          rcases (by omega : k = 0 ∨ k = 1 ∨ k = 2 ∨ k = 3) with rfl | rfl | rfl | rfl
          · refine ⟨.inl (nI d), setG w1 d q r o, ?_, og, f1, fun w2 h2 g2 => ⟨nI d, setF (sI w2 1300 415 0) d q r o, ?_, tl_ofi.trans (FN_ofi setF_ofi), rfl, by rw [FN_g (setF_ofi) (by omega), tl_t]⟩⟩
            · rw [xf, x1, Option.bind_some]
              try dsimp only
              rw [ib_t, if_neg (show ¬ (nI 0 < 0 ∨ 2 < nI 0) by decide), if_pos (show nI 0 = 0 from rfl), x1211 f1, Option.bind_some]
              rfl
            · rw [mf w2 h2, m_finds h2.tl (tl_g g2) hi, q0]
              try dsimp only [faR]
              rw [Option.bind_some]
              try dsimp only
              rw [ib_t, if_neg (show ¬ (nI 0 < 0 ∨ 2 < nI 0) by decide), if_pos (show nI 0 = 0 from rfl)]
              rfl
          · refine ⟨.inl (nI q), setG w1 d q r o, ?_, og, f1, fun w2 h2 g2 => ⟨nI q, setF (sI w2 1300 415 0) d q r o, ?_, tl_ofi.trans (FN_ofi setF_ofi), rfl, by rw [FN_g (setF_ofi) (by omega), tl_t]⟩⟩
            · rw [xf, x1, Option.bind_some]
              try dsimp only
              rw [ib_t, if_neg (show ¬ (nI 1 < 0 ∨ 2 < nI 1) by decide), if_neg (show ¬ nI 1 = 0 by decide), if_pos (show nI 1 = 1 from rfl), x1211 f1, Option.bind_some]
              rfl
            · rw [mf w2 h2, m_finds h2.tl (tl_g g2) hi, q0]
              try dsimp only [faR]
              rw [Option.bind_some]
              try dsimp only
              rw [ib_t, if_neg (show ¬ (nI 1 < 0 ∨ 2 < nI 1) by decide), if_neg (show ¬ nI 1 = 0 by decide), if_pos (show nI 1 = 1 from rfl)]
              rfl
          · refine ⟨.inl (nI r), setG w1 d q r o, ?_, og, f1, fun w2 h2 g2 => ⟨nI r, setF (sI w2 1300 415 0) d q r o, ?_, tl_ofi.trans (FN_ofi setF_ofi), rfl, by rw [FN_g (setF_ofi) (by omega), tl_t]⟩⟩
            · rw [xf, x1, Option.bind_some]
              try dsimp only
              rw [ib_t, if_neg (show ¬ (nI 2 < 0 ∨ 2 < nI 2) by decide), if_neg (show ¬ nI 2 = 0 by decide), if_neg (show ¬ nI 2 = 1 by decide), if_pos (show nI 2 = 2 from rfl), x1211 f1, Option.bind_some]
              rfl
            · rw [mf w2 h2, m_finds h2.tl (tl_g g2) hi, q0]
              try dsimp only [faR]
              rw [Option.bind_some]
              try dsimp only
              rw [ib_t, if_neg (show ¬ (nI 2 < 0 ∨ 2 < nI 2) by decide), if_neg (show ¬ nI 2 = 0 by decide), if_neg (show ¬ nI 2 = 1 by decide), if_pos (show nI 2 = 2 from rfl)]
              rfl
          · refine ⟨.inl (nI o), setG w1 d q r o, ?_, og, f1, fun w2 h2 g2 => ⟨nI o, setF (sI w2 1300 415 0) d q r o, ?_, tl_ofi.trans (FN_ofi setF_ofi), rfl, by rw [FN_g (setF_ofi) (by omega), tl_t]⟩⟩
            · rw [xf, x1, Option.bind_some]
              try dsimp only
              rw [ib_t, if_pos (show (nI 3 < 0 ∨ 2 < nI 3) by decide), x1211 f1, Option.bind_some]
              rfl
            · rw [mf w2 h2, m_finds h2.tl (tl_g g2) hi, q0]
              try dsimp only [faR]
              rw [Option.bind_some]
              try dsimp only
              rw [ib_t, if_pos (show (nI 3 < 0 ∨ 2 < nI 3) by decide)]
              rfl
      · refine ⟨.inr 3, w, ?_, Fr.rf, hx.1, fun w2 h2 g2 => ⟨0, sI w2 1300 415 2, ?_, tl_ofi, Or.inr ⟨rfl, tl_t⟩⟩⟩
        · unfold f_X12_opening
          rw [x_re3 hx, if_pos e, Option.bind_some, xk_l]
          try dsimp only
          rw [if_neg (fun q => by have := lt0.mp q; have := e2.1; omega), if_pos (show nI k ≤ 3 from (nI_leI (a := k) (b := 3) (by omega) (by omega)).mpr (by omega)), x_reqU hx (by omega), if_neg e3, Option.bind_some, xk_r]
        · unfold f_X13_opening
          rw [m_isCase h2, decide_eq_true e, Option.bind_some]
          try dsimp only
          rw [ib_t, isIn_n (n := 4) rfl, decide_eq_true e2, Option.bind_some]
          try dsimp only
          rw [ib_t, m_isT, Option.bind_some]
          try dsimp only
          rw [ib_t, m_isOpen h2.tl (by omega), decide_eq_false e3, Option.bind_some]
          try dsimp only
          rw [m_mayF, Option.bind_some, sI_sI, ib_f]
    · refine ⟨.inr 1, w, ?_, Fr.rf, hx.1, fun w2 h2 g2 => ⟨0, sI w2 1300 415 1, ?_, tl_ofi, Or.inl ⟨rfl, tl_t⟩⟩⟩
      · unfold f_X12_opening
        rw [x_re3 hx, if_pos e, Option.bind_some, xk_l]
        try dsimp only
        by_cases e4 : y < 0
        · rw [if_pos e4]
        · rw [if_neg e4, if_neg (show ¬ y ≤ 3 from fun q => e2 ⟨by have : ¬ y.toInt < 0 := fun z => e4 (lt0.mpr z); omega, by have := (len (n := 3) (by omega)).mp q; omega⟩)]
      · unfold f_X13_opening
        rw [m_isCase h2, decide_eq_true e, Option.bind_some]
        try dsimp only
        rw [ib_t, isIn_n (n := 4) rfl, decide_eq_false e2, Option.bind_some]
        try dsimp only
        rw [ib_f, m_isF, Option.bind_some, ib_f]
  · refine ⟨.inr 1, w, ?_, Fr.rf, hx.1, fun w2 h2 g2 => ⟨0, sI w2 1300 415 1, ?_, tl_ofi, Or.inl ⟨rfl, tl_t⟩⟩⟩
    · unfold f_X12_opening
      rw [x_re3 hx, if_neg e, Option.bind_some, xk_r]
    · unfold f_X13_opening
      rw [m_isCase h2, decide_eq_false e, Option.bind_some]
      try dsimp only
      rw [ib_f, m_isF, Option.bind_some, ib_f])
theorem b_adjournment {w : Wd} (h : Inv w) (x y z : Int32) : Both (f_X12_adjournment Kc 0 x y z) (f_X13_adjournment Kc 415 x y z) E11 w := Both.r h (fun b s t hx hm hg => by
  have hs := hx.gs.1
  by_cases e : inR x (s 3)
  · obtain ⟨i, hi, rfl⟩ := inR_nI e
    have c3 := hx.gt.c3 (i := i) (by omega)
    by_cases e2 : inR z 4
    · by_cases e3 : inR y (cs t i 2)
      · obtain ⟨q, hq, rfl⟩ := inR_nI e2
        obtain ⟨j, hj, rfl⟩ := inR_nI e3
        refine ⟨.inl (nI (cs t i (7 + (4 * j + q)))), ?_, fun w2 h2 g2 => ⟨_, 0, ?_, rfl, rfl⟩⟩
        · unfold f_X12_adjournment
          rw [x_re3 hx, if_pos e, Option.bind_some, xk_l]
          try dsimp only
          rw [x1205 hx.1, Option.bind_some, hx.pg, Option.bind_some]
          try dsimp only
          rw [ixa_n (by omega) (by omega), Option.bind_some, if_neg (fun q => by have := lt0.mp q; have := e3.1; omega), hx.pe (by omega), Option.bind_some, hx.p6 (by omega), if_le_f (by omega) (by omega) hj, if_neg (fun q => by have := lt0.mp q; have := e2.1; omega), show (4 : Int32) = nI 4 from rfl, if_lt_t (by omega) (by omega) hq, tlg hx.1 (by decide) (by omega), Option.bind_some, pk_mul, nI_add]
          try dsimp only
          rw [ixa_n (by omega) (by omega), Option.bind_some, show j * 4 + q = 4 * j + q by omega, (hx.2.2.2.1.2.2.2.2 i (by omega)).2.2.2.2.2 (4 * j + q) (by omega)]
        · unfold f_X13_adjournment
          rw [m_isCase h2, decide_eq_true e, Option.bind_some]
          try dsimp only
          rw [ib_t, isIn_n (n := 4) rfl, decide_eq_true e2, Option.bind_some]
          try dsimp only
          rw [ib_t, m_isT, Option.bind_some]
          try dsimp only
          rw [ib_t, show (2 : Int32) = nI 2 from rfl, m_of h2.tl (by omega) (by omega), Option.bind_some]
          try dsimp only
          rw [isIn_n (n := cs t i 2) (pm1 (by omega)), decide_eq_true e3, Option.bind_some]
          try dsimp only
          rw [m_isT, Option.bind_some, sI_sI]
          try dsimp only
          rw [ib_t, show (7 : Int32) = nI 7 from rfl, show (4 : Int32) = nI 4 from rfl, pk_mul, nI_add, nI_add, m_of h2.tl (by omega) (by omega), Option.bind_some, show 7 + 4 * j + q = 7 + (4 * j + q) by omega]
      · refine ⟨.inr 1, ?_, fun w2 h2 g2 => ⟨0, 1, ?_, rfl, rfl⟩⟩
        · unfold f_X12_adjournment
          rw [x_re3 hx, if_pos e, Option.bind_some, xk_l]
          try dsimp only
          rw [x1205 hx.1, Option.bind_some, hx.pg, Option.bind_some]
          try dsimp only
          rw [ixa_n (by omega) (by omega), Option.bind_some]
          by_cases e4 : y < 0
          · rw [if_pos e4]
          · rw [if_neg e4, hx.pe (by omega), Option.bind_some, hx.p6 (by omega), if_pos ((nle (by omega)).mpr (by
              have e5 : ¬ y.toInt < 0 := fun z => e4 (lt0.mpr z)
              by_cases e6 : y.toInt < (cs t i 2 : Int)
              · exact absurd ⟨by omega, e6⟩ e3
              · omega))]
        · unfold f_X13_adjournment
          rw [m_isCase h2, decide_eq_true e, Option.bind_some]
          try dsimp only
          rw [ib_t, isIn_n (n := 4) rfl, decide_eq_true e2, Option.bind_some]
          try dsimp only
          rw [ib_t, m_isT, Option.bind_some]
          try dsimp only
          rw [ib_t, show (2 : Int32) = nI 2 from rfl, m_of h2.tl (by omega) (by omega), Option.bind_some]
          try dsimp only
          rw [isIn_n (n := cs t i 2) (pm1 (by omega)), decide_eq_false e3, Option.bind_some]
          try dsimp only
          rw [m_isF, Option.bind_some, sI_sI, ib_f]
    · refine ⟨.inr 1, ?_, fun w2 h2 g2 => ⟨0, 1, ?_, rfl, rfl⟩⟩
      · unfold f_X12_adjournment
        rw [x_re3 hx, if_pos e, Option.bind_some, xk_l]
        try dsimp only
        rw [x1205 hx.1, Option.bind_some, hx.pg, Option.bind_some]
        try dsimp only
        rw [ixa_n (by omega) (by omega), Option.bind_some]
        by_cases e4 : y < 0
        · rw [if_pos e4]
        · rw [if_neg e4, hx.pe (by omega), Option.bind_some]
          by_cases e5 : wI w 706 (73 + 6 + 2 * i) ≤ y
          · rw [if_pos e5]
          · rw [if_neg e5]
            by_cases e6 : z < 0
            · rw [if_pos e6]
            · rw [if_neg e6, if_neg (show ¬ z < 4 from fun q => e2 ⟨by have : ¬ z.toInt < 0 := fun z => e6 (lt0.mpr z); omega, (ltn (n := 4) (by omega)).mp q⟩)]
      · unfold f_X13_adjournment
        rw [m_isCase h2, decide_eq_true e, Option.bind_some]
        try dsimp only
        rw [ib_t, isIn_n (n := 4) rfl, decide_eq_false e2, Option.bind_some]
        try dsimp only
        rw [ib_f, m_isF, Option.bind_some, ib_f]
  · refine ⟨.inr 1, ?_, fun w2 h2 g2 => ⟨0, 1, ?_, rfl, rfl⟩⟩
    · unfold f_X12_adjournment
      rw [x_re3 hx, if_neg e, Option.bind_some, xk_r]
    · unfold f_X13_adjournment
      rw [m_isCase h2, decide_eq_false e, Option.bind_some]
      try dsimp only
      rw [ib_f, m_isF, Option.bind_some, ib_f])
