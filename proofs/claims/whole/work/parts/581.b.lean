/-! Calls that read. -/
theorem sI_sI {w : Wd} {f a : Nat} {u v : Int32} : sI (sI w f a u) f a v = sI w f a v := by
  unfold sI up2
  refine congrArg (fun q => (q, w.2)) (funext fun x => funext fun y => ?_)
  dsimp only
  by_cases e : x = f ∧ y = a
  · rw [if_pos e, if_pos e]
  · rw [if_neg e, if_neg e, if_neg e]
theorem HM.tl {w : Wd} {s t : Nat → Nat} {c : Int32} (h : HM w s t) : HM (sI w 1300 415 c) s t := ⟨h.1.sI, h.2⟩
theorem xk_l {α β : Type} {a : α} {w : Wd} {k : α → Option ((β ⊕ Nat) × Wd)} : xk (.inl a, w) k = k a := rfl
theorem xk_r {α β : Type} {e : Nat} {w : Wd} {k : α → Option ((β ⊕ Nat) × Wd)} : xk (.inr e, w) k = some (.inr e, w) := rfl
theorem x_re0 {w : Wd} {b : Nat} {s t : Nat → Nat} (h : HX w 73 b s t) {x : Int32} : f_X12_requireExisting Kc 0 0 x w = some (if inR x (s 0) then .inl () else .inr 1, w) := x_reqE h (k := 0) (by omega)
theorem x_re1 {w : Wd} {b : Nat} {s t : Nat → Nat} (h : HX w 73 b s t) {x : Int32} : f_X12_requireExisting Kc 0 1 x w = some (if inR x (s 1) then .inl () else .inr 1, w) := x_reqE h (k := 1) (by omega)
theorem x_re2 {w : Wd} {b : Nat} {s t : Nat → Nat} (h : HX w 73 b s t) {x : Int32} : f_X12_requireExisting Kc 0 2 x w = some (if inR x (s 2) then .inl () else .inr 1, w) := x_reqE h (k := 2) (by omega)
theorem x_re3 {w : Wd} {b : Nat} {s t : Nat → Nat} (h : HX w 73 b s t) {x : Int32} : f_X12_requireExisting Kc 0 3 x w = some (if inR x (s 3) then .inl () else .inr 1, w) := x_reqE h (k := 3) (by omega)
theorem Both.r {α : Type} {X : Wd → Option ((α ⊕ Nat) × Wd)} {M : Wd → Option (α × Wd)} {E : Nat → Int32 → Prop} {w : Wd} (h : Inv w) (H : ∀ b s t, HX w 73 b s t → HM w s t → wI w 1315 415 = -nI 1 → ∃ r, X w = some (r, w) ∧ ∀ w2, HM w2 s t → wI w2 1315 415 = -nI 1 → ∃ v c, M w2 = some (v, sI w2 1300 415 c) ∧ Rs E r v c) : Both X M E w := Both.q h (fun b s t c1 c2 c3 c4 => by
  obtain ⟨r, e, k⟩ := H b s t c1 c2 c4
  refine ⟨r, w, e, Fr.rf, c1.1, fun w2 h2 g2 => ?_⟩
  obtain ⟨v, c, e2, q⟩ := k w2 h2 g2
  refine ⟨v, _, e2, fr_sI ⟨rfl, Or.inl rfl⟩, h2.tl, by rw [wI_sI, if_neg (by omega)]; exact g2, ?_⟩
  rw [wI_sI, if_pos ⟨rfl, rfl⟩]
  exact q)
def E11 (e : Nat) (c : Int32) : Prop := e = 1 ∧ c = 1
def E21 (e : Nat) (c : Int32) : Prop := e = 2 ∧ c = 1
def E1122 (e : Nat) (c : Int32) : Prop := (e = 1 ∧ c = 1) ∨ (e = 2 ∧ c = 2)
theorem b_slack {w : Wd} (h : Inv w) (x : Int32) : Both (f_X12_slack Kc 0 x) (f_X13_slack Kc 415 x) E11 w := Both.r h (fun b s t hx hm hg => by
  have hs := hx.gs.1
  by_cases e : inR x (s 3)
  · obtain ⟨i, hi, rfl⟩ := inR_nI e
    refine ⟨.inl (nI (wkIn t (t 0) (limD s t i + 1 - t 0))), ?_, fun w2 h2 g2 => ⟨_, 0, ?_, rfl, rfl⟩⟩
    · unfold f_X12_slack
      rw [x_re3 hx, if_pos e, Option.bind_some, xk_l]
      try dsimp only
      rw [x1205 hx.1, Option.bind_some, x_slackOf hx hi, Option.bind_some]
    · unfold f_X13_slack
      rw [m_isCase h2, decide_eq_true e, Option.bind_some]
      try dsimp only
      rw [m_isT, Option.bind_some]
      try dsimp only
      rw [ib_t, m_slackOf h2.tl hi, Option.bind_some]
  · refine ⟨.inr 1, ?_, fun w2 h2 g2 => ⟨0, 1, ?_, rfl, rfl⟩⟩
    · unfold f_X12_slack
      rw [x_re3 hx, if_neg e, Option.bind_some, xk_r]
    · unfold f_X13_slack
      rw [m_isCase h2, decide_eq_false e, Option.bind_some]
      try dsimp only
      rw [m_isF, Option.bind_some, ib_f])
theorem b_load {w : Wd} (h : Inv w) (x : Int32) : Both (f_X12_load Kc 0 x) (f_X13_load Kc 415 x) E11 w := Both.r h (fun b s t hx hm hg => by
  have hs := hx.gs.1
  by_cases e : inR x (s 1)
  · obtain ⟨i, hi, rfl⟩ := inR_nI e
    refine ⟨.inl (nI (loadN s t i (s 3))), ?_, fun w2 h2 g2 => ⟨_, 0, ?_, rfl, rfl⟩⟩
    · unfold f_X12_load
      rw [x_re1 hx, if_pos e, Option.bind_some, xk_l]
      try dsimp only
      rw [x1205 hx.1, Option.bind_some, x_loadOf hx (by omega), Option.bind_some]
    · unfold f_X13_load
      rw [m_isOfficer h2, decide_eq_true e, Option.bind_some]
      try dsimp only
      rw [m_isT, Option.bind_some]
      try dsimp only
      rw [ib_t, m_loadOf h2.tl (by omega), Option.bind_some]
  · refine ⟨.inr 1, ?_, fun w2 h2 g2 => ⟨0, 1, ?_, rfl, rfl⟩⟩
    · unfold f_X12_load
      rw [x_re1 hx, if_neg e, Option.bind_some, xk_r]
    · unfold f_X13_load
      rw [m_isOfficer h2, decide_eq_false e, Option.bind_some]
      try dsimp only
      rw [m_isF, Option.bind_some, ib_f])
theorem b_lengthening {w : Wd} (h : Inv w) (x : Int32) : Both (f_X12_lengthening Kc 0 x) (f_X13_lengthening Kc 415 x) E21 w := Both.r h (fun b s t hx hm hg => by
  have hs := hx.gs.1
  by_cases e : inR x 4
  · obtain ⟨i, hi, rfl⟩ := inR_nI e
    refine ⟨.inl (nI (s (160 + i))), ?_, fun w2 h2 g2 => ⟨_, 0, ?_, rfl, rfl⟩⟩
    · unfold f_X12_lengthening
      rw [x_reqR, if_pos e, Option.bind_some, xk_l]
      try dsimp only
      rw [x1205 hx.1, Option.bind_some, hx.su, Option.bind_some, u911 hx.1 hx.2.1.2.1, Option.bind_some]
      try dsimp only
      rw [ixa_n hi (by omega), Option.bind_some, hx.2.2.1.2.2.2.2.2.2.1 i hi]
    · unfold f_X13_lengthening
      rw [m_isReason, decide_eq_true e, Option.bind_some]
      try dsimp only
      rw [m_isT, Option.bind_some]
      try dsimp only
      rw [ib_t, x1301 h2.1.sI, Option.bind_some, show (160 : Int32) = nI 160 from rfl, nI_add]
      try dsimp only
      rw [ixa_n (by omega) (by omega), Option.bind_some, h2.tl.S (by omega)]
  · refine ⟨.inr 2, ?_, fun w2 h2 g2 => ⟨0, 1, ?_, rfl, rfl⟩⟩
    · unfold f_X12_lengthening
      rw [x_reqR, if_neg e, Option.bind_some, xk_r]
    · unfold f_X13_lengthening
      rw [m_isReason, decide_eq_false e, Option.bind_some]
      try dsimp only
      rw [m_isF, Option.bind_some, ib_f])
theorem b_isWorkingDay {w : Wd} (h : Inv w) (x : Int32) : Both (f_X12_isWorkingDay Kc 0 x) (f_X13_isWorkingDay Kc 415 x) E21 w := Both.r h (fun b s t hx hm hg => by
  by_cases e : inR x 600
  · obtain ⟨d, hd, rfl⟩ := inR_nI e
    refine ⟨.inl (wkg t d), ?_, fun w2 h2 g2 => ⟨_, 0, ?_, rfl, rfl⟩⟩
    · unfold f_X12_isWorkingDay
      rw [x_reqD, if_pos e, Option.bind_some, xk_l]
      try dsimp only
      rw [x1205 hx.1, Option.bind_some, x_works hx (by omega), Option.bind_some]
    · unfold f_X13_isWorkingDay
      rw [m_isDay, decide_eq_true e, Option.bind_some]
      try dsimp only
      rw [m_isT, Option.bind_some]
      try dsimp only
      rw [ib_t, m_isWorking h2.tl (by omega), Option.bind_some]
      cases wkg t d <;> rfl
  · refine ⟨.inr 2, ?_, fun w2 h2 g2 => ⟨false, 1, ?_, rfl, rfl⟩⟩
    · unfold f_X12_isWorkingDay
      rw [x_reqD, if_neg e, Option.bind_some, xk_r]
    · unfold f_X13_isWorkingDay
      rw [m_isDay, decide_eq_false e, Option.bind_some]
      try dsimp only
      rw [m_isF, Option.bind_some, ib_f])
theorem b_workingDays {w : Wd} (h : Inv w) (x y : Int32) : Both (f_X12_workingDays Kc 0 x y) (f_X13_workingDays Kc 415 x y) E21 w := Both.r h (fun b s t hx hm hg => by
  by_cases e : inS x y
  · obtain ⟨p, hp, rfl⟩ := nI_rg (x := x) (n := 600) e.1 (by have := e.2; omega)
    obtain ⟨q, hq, rfl⟩ := nI_rg (x := y) (n := 600) (by have := e.1; have := e.2; omega) (by have := e.2; omega)
    refine ⟨.inl (nI (wkIn t p (q + 1 - p))), ?_, fun w2 h2 g2 => ⟨_, 0, ?_, rfl, rfl⟩⟩
    · unfold f_X12_workingDays
      rw [x_reqP, if_pos e, Option.bind_some, xk_l]
      try dsimp only
      rw [x1205 hx.1, Option.bind_some, x_countWorking hx (by omega) (by omega), Option.bind_some]
    · unfold f_X13_workingDays
      rw [m_isSpan, decide_eq_true e, Option.bind_some]
      try dsimp only
      rw [m_isT, Option.bind_some]
      try dsimp only
      rw [ib_t, m_workingIn h2.tl (by omega) (by omega), Option.bind_some]
  · refine ⟨.inr 2, ?_, fun w2 h2 g2 => ⟨0, 1, ?_, rfl, rfl⟩⟩
    · unfold f_X12_workingDays
      rw [x_reqP, if_neg e, Option.bind_some, xk_r]
    · unfold f_X13_workingDays
      rw [m_isSpan, decide_eq_false e, Option.bind_some]
      try dsimp only
      rw [m_isF, Option.bind_some, ib_f])
theorem b_isOff {w : Wd} (h : Inv w) (x y : Int32) : Both (f_X12_isOff Kc 0 x y) (f_X13_isOff Kc 415 x y) E1122 w := Both.r h (fun b s t hx hm hg => by
  have hs := hx.gs.1
  by_cases e : inR x (s 1)
  · by_cases e2 : inR y 600
    · obtain ⟨i, hi, rfl⟩ := inR_nI e
      obtain ⟨d, hd, rfl⟩ := inR_nI e2
      refine ⟨.inl (awayS s i d), ?_, fun w2 h2 g2 => ⟨_, 0, ?_, rfl, rfl⟩⟩
      · unfold f_X12_isOff
        rw [x_re1 hx, if_pos e, Option.bind_some, xk_l]
        try dsimp only
        rw [x_reqD, if_pos e2, Option.bind_some, xk_l]
        try dsimp only
        rw [x1205 hx.1, Option.bind_some, hx.su, Option.bind_some, x_isAway hx hi (by omega), Option.bind_some]
      · unfold f_X13_isOff
        rw [m_isOfficer h2, decide_eq_true e, Option.bind_some]
        try dsimp only
        rw [m_isT, Option.bind_some]
        try dsimp only
        rw [ib_t, m_isDay, decide_eq_true e2, Option.bind_some]
        try dsimp only
        rw [m_mayT, Option.bind_some, sI_sI]
        try dsimp only
        rw [ib_t, m_isOffOn h2.tl hi (by omega) (g := -nI 1) (by rw [wI_sI, if_neg (by omega)]; exact g2), Option.bind_some, decide_eq_false (fun q => neg1_eq (a := i) (by omega) q.symm), Bool.or_false]
        cases awayS s i d <;> rfl
    · refine ⟨.inr 2, ?_, fun w2 h2 g2 => ⟨false, 2, ?_, Or.inr ⟨rfl, rfl⟩⟩⟩
      · unfold f_X12_isOff
        rw [x_re1 hx, if_pos e, Option.bind_some, xk_l]
        try dsimp only
        rw [x_reqD, if_neg e2, Option.bind_some, xk_r]
      · unfold f_X13_isOff
        rw [m_isOfficer h2, decide_eq_true e, Option.bind_some]
        try dsimp only
        rw [m_isT, Option.bind_some]
        try dsimp only
        rw [ib_t, m_isDay, decide_eq_false e2, Option.bind_some]
        try dsimp only
        rw [m_mayF, Option.bind_some, sI_sI, ib_f]
  · refine ⟨.inr 1, ?_, fun w2 h2 g2 => ⟨false, 1, ?_, Or.inl ⟨rfl, rfl⟩⟩⟩
    · unfold f_X12_isOff
      rw [x_re1 hx, if_neg e, Option.bind_some, xk_r]
    · unfold f_X13_isOff
      rw [m_isOfficer h2, decide_eq_false e, Option.bind_some]
      try dsimp only
      rw [m_isF, Option.bind_some, ib_f])
theorem b_caseAt {w : Wd} (h : Inv w) (x y z : Int32) : Both (f_X12_caseAt Kc 0 x y z) (f_X13_caseAt Kc 415 x y z) E1122 w := Both.r h (fun b s t hx hm hg => by
  have hs := hx.gs.1
  by_cases e : inR x (s 0)
  · by_cases e2 : inR y 600 ∧ inR z 8
    · obtain ⟨i, hi, rfl⟩ := inR_nI e
      obtain ⟨d, hd, rfl⟩ := inR_nI e2.1
      obtain ⟨q, hq, rfl⟩ := inR_nI e2.2
      refine ⟨.inl (oI (fstF (tkn s t i d q) 0 (s 3))), ?_, fun w2 h2 g2 => ⟨_, 0, ?_, rfl, rfl⟩⟩
      · unfold f_X12_caseAt
        rw [x_re0 hx, if_pos e, Option.bind_some, xk_l]
        try dsimp only
        rw [x_reqD, if_pos e2.1, Option.bind_some, xk_l]
        try dsimp only
        rw [x_reqS, if_pos e2.2, Option.bind_some, xk_l]
        try dsimp only
        rw [x1205 hx.1, Option.bind_some, x_caseTaking hx (by omega) (by omega) (by omega), Option.bind_some]
      · unfold f_X13_caseAt
        rw [m_isRoom h2, decide_eq_true e, Option.bind_some]
        try dsimp only
        rw [m_isT, Option.bind_some]
        try dsimp only
        rw [ib_t, m_isTime, decide_eq_true e2, Option.bind_some]
        try dsimp only
        rw [m_mayT, Option.bind_some, sI_sI]
        try dsimp only
        rw [ib_t]
        exact m_caseAtL h2.tl (by omega) (by omega) (by omega)
    · refine ⟨.inr 2, ?_, fun w2 h2 g2 => ⟨0, 2, ?_, Or.inr ⟨rfl, rfl⟩⟩⟩
      · unfold f_X12_caseAt
        rw [x_re0 hx, if_pos e, Option.bind_some, xk_l]
        try dsimp only
        by_cases e3 : inR y 600
        · rw [x_reqD, if_pos e3, Option.bind_some, xk_l]
          try dsimp only
          rw [x_reqS, if_neg (fun q => e2 ⟨e3, q⟩), Option.bind_some, xk_r]
        · rw [x_reqD, if_neg e3, Option.bind_some, xk_r]
      · unfold f_X13_caseAt
        rw [m_isRoom h2, decide_eq_true e, Option.bind_some]
        try dsimp only
        rw [m_isT, Option.bind_some]
        try dsimp only
        rw [ib_t, m_isTime, decide_eq_false e2, Option.bind_some]
        try dsimp only
        rw [m_mayF, Option.bind_some, sI_sI, ib_f]
  · refine ⟨.inr 1, ?_, fun w2 h2 g2 => ⟨0, 1, ?_, Or.inl ⟨rfl, rfl⟩⟩⟩
    · unfold f_X12_caseAt
      rw [x_re0 hx, if_neg e, Option.bind_some, xk_r]
    · unfold f_X13_caseAt
      rw [m_isRoom h2, decide_eq_false e, Option.bind_some]
      try dsimp only
      rw [m_isF, Option.bind_some, ib_f])
theorem b_isBarred {w : Wd} (h : Inv w) (x y : Int32) : Both (f_X12_isBarred Kc 0 x y) (f_X13_isBarred Kc 415 x y) E11 w := Both.r h (fun b s t hx hm hg => by
  have hs := hx.gs.1
  by_cases e : inR x (s 1)
  · by_cases e2 : inR y (s 3)
    · obtain ⟨i, hi, rfl⟩ := inR_nI e
      obtain ⟨j, hj, rfl⟩ := inR_nI e2
      refine ⟨.inl (brd s t i j), ?_, fun w2 h2 g2 => ⟨_, 0, ?_, rfl, rfl⟩⟩
      · unfold f_X12_isBarred
        rw [x_re1 hx, if_pos e, Option.bind_some, xk_l]
        try dsimp only
        rw [x_re3 hx, if_pos e2, Option.bind_some, xk_l]
        try dsimp only
        rw [x1205 hx.1, Option.bind_some, x_barredOfficers hx hj, Option.bind_some]
        try dsimp only
        rw [x_has (Nat.lt_trans (brN_lt hx.gs hx.gt hj) (by omega)) (by omega), Option.bind_some, brN_bit]
      · unfold f_X13_isBarred
        rw [m_isOfficer h2, decide_eq_true e, Option.bind_some]
        try dsimp only
        rw [ib_t, m_isCase h2, decide_eq_true e2, Option.bind_some]
        try dsimp only
        rw [ib_t, m_isT, Option.bind_some]
        try dsimp only
        rw [ib_t, m_isBarredFrom h2.tl (by omega) hj, Option.bind_some]
        cases brd s t i j <;> rfl
    · refine ⟨.inr 1, ?_, fun w2 h2 g2 => ⟨false, 1, ?_, rfl, rfl⟩⟩
      · unfold f_X12_isBarred
        rw [x_re1 hx, if_pos e, Option.bind_some, xk_l]
        try dsimp only
        rw [x_re3 hx, if_neg e2, Option.bind_some, xk_r]
      · unfold f_X13_isBarred
        rw [m_isOfficer h2, decide_eq_true e, Option.bind_some]
        try dsimp only
        rw [ib_t, m_isCase h2, decide_eq_false e2, Option.bind_some]
        try dsimp only
        rw [ib_f, m_isF, Option.bind_some, ib_f]
  · refine ⟨.inr 1, ?_, fun w2 h2 g2 => ⟨false, 1, ?_, rfl, rfl⟩⟩
    · unfold f_X12_isBarred
      rw [x_re1 hx, if_neg e, Option.bind_some, xk_r]
    · unfold f_X13_isBarred
      rw [m_isOfficer h2, decide_eq_false e, Option.bind_some]
      try dsimp only
      rw [ib_f, m_isF, Option.bind_some, ib_f])
