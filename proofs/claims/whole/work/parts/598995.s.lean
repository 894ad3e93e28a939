/-! Reading a setup: statement by statement. -/
def semM (q : Wd) : Option Wd := if wI q 1328 415 = 3 then ((f_X13_needs Kc 415 true 1 q).bind fun q23 => (f_X13_goOn Kc 415 q23).bind fun q24 => some q24) else ((f_X13_needs Kc 415 false 1 q).bind fun q21 => (f_X13_goOn Kc 415 q21).bind fun q22 => some q22)
theorem sw_d : ∀ k, k < 21 → swm.getD k 0 = (if k = 0 then 1 else if k = 1 then 2 else if k = 3 then 3 else if k = 5 then 4 else if k = 7 then 5 else if k = 12 then 6 else if k = 13 then 7 else if k = 14 then 8 else if k = 15 then 9 else (0 : Int32)) := by decide +kernel
theorem tokO_d : ∀ k, k < 21 → tokO.getD k 0 = nI k := by decide +kernel
theorem lk_statement {w0 m0 wx wm : Wd} {n : Nat} {bf : Nat → Int32} {b p0 p : Nat} {s t : Nat → Nat} {nm : Nat → Nat → List Nat} (hx : XQr w0 wx n bf b p0 p (cS s) s t nm) (hm : MQr m0 wm n bf p (cS s) s t nm) (hg : GD s t nm) : ∃ rm, f_X13_statement Kc 415 wm = rm.bind semM ∧ Lk w0 m0 n bf b p0 (f_X5_takesStatement Kc 36 wx) rm := by
  have k21 : ktT n bf p < 21 := by have := (tk_o (n := n) (bf := bf) (p := p)).2.2.2.1; omega
  have iw : ∀ i, i < 16 → f_X13_isWord Kc 415 (nI i) wm = some (decide (ktT n bf p = i), wm) := fun i hi => m_isWord hm.1 hi
  have sw := sw_d _ k21
  have X : f_X5_takesStatement Kc 36 wx = if swm.getD (ktT n bf p) 0 < 1 ∨ 9 < swm.getD (ktT n bf p) 0 then f_X5_fail Kc 36 1 wx else if swm.getD (ktT n bf p) 0 = 1 then f_X5_takesHoliday Kc 36 wx else if swm.getD (ktT n bf p) 0 = 2 then f_X5_takesRoom Kc 36 wx else if swm.getD (ktT n bf p) 0 = 3 then f_X5_takesOfficer Kc 36 wx else if swm.getD (ktT n bf p) 0 = 4 then f_X5_takesWitness Kc 36 wx else if swm.getD (ktT n bf p) 0 = 5 then f_X5_takesCase Kc 36 wx else if swm.getD (ktT n bf p) 0 = 6 then f_X5_takesBar Kc 36 wx else if swm.getD (ktT n bf p) 0 = 7 then f_X5_takesConflict Kc 36 wx else if swm.getD (ktT n bf p) 0 = 8 then f_X5_takesLengthen Kc 36 wx else if swm.getD (ktT n bf p) 0 = 9 then f_X5_takesCap Kc 36 wx else none := by
    unfold f_X5_takesStatement
    rw [x500 hx.1.1, Option.bind_some, hx.1.2.2.2.2.1.2.2.1, show tki (some (ktT n bf p)) = some (ktT n bf p) from if_pos k21, Option.bind_some]
    unfold f_Jx29ce0_ordinal_8abf5
    rw [Option.bind_some]
    try dsimp only
    rw [show tokO.getD (ktT n bf p) 0 = nI (ktT n bf p) from tokO_d _ k21, ixa_n k21 (by omega), Option.bind_some, bind_pr, bind_pr, bind_pr, bind_pr, bind_pr, bind_pr, bind_pr, bind_pr, bind_pr, bind_pr]
  have M : f_X13_statement Kc 415 wm = (if ktT n bf p = 0 then f_X13_readsHoliday Kc 415 wm else if ktT n bf p = 1 then f_X13_readsRoom Kc 415 wm else if ktT n bf p = 3 then f_X13_readsOfficer Kc 415 wm else if ktT n bf p = 5 then f_X13_readsWitness Kc 415 wm else if ktT n bf p = 7 then f_X13_readsCase Kc 415 wm else if ktT n bf p = 12 then f_X13_readsBar Kc 415 wm else if ktT n bf p = 13 then f_X13_readsConflict Kc 415 wm else if ktT n bf p = 14 then f_X13_readsLengthen Kc 415 wm else if ktT n bf p = 15 then f_X13_readsCap Kc 415 wm else f_X13_needs Kc 415 false 1 wm).bind semM := by
    unfold f_X13_statement
    rw [show f_X13_isWord Kc 415 0 wm = _ from iw 0 (by omega), Option.bind_some]
    try dsimp only
    by_cases e0 : ktT n bf p = 0
    · rw [decide_eq_true e0, ib_t, if_pos e0]; rfl
    rw [decide_eq_false e0, ib_f, if_neg e0, show f_X13_isWord Kc 415 1 wm = _ from iw 1 (by omega), Option.bind_some]
    try dsimp only
    by_cases e1 : ktT n bf p = 1
    · rw [decide_eq_true e1, ib_t, if_pos e1]; rfl
    rw [decide_eq_false e1, ib_f, if_neg e1, show f_X13_isWord Kc 415 3 wm = _ from iw 3 (by omega), Option.bind_some]
    try dsimp only
    by_cases e3 : ktT n bf p = 3
    · rw [decide_eq_true e3, ib_t, if_pos e3]; rfl
    rw [decide_eq_false e3, ib_f, if_neg e3, show f_X13_isWord Kc 415 5 wm = _ from iw 5 (by omega), Option.bind_some]
    try dsimp only
    by_cases e5 : ktT n bf p = 5
    · rw [decide_eq_true e5, ib_t, if_pos e5]; rfl
    rw [decide_eq_false e5, ib_f, if_neg e5, show f_X13_isWord Kc 415 7 wm = _ from iw 7 (by omega), Option.bind_some]
    try dsimp only
    by_cases e7 : ktT n bf p = 7
    · rw [decide_eq_true e7, ib_t, if_pos e7]; rfl
    rw [decide_eq_false e7, ib_f, if_neg e7, show f_X13_isWord Kc 415 12 wm = _ from iw 12 (by omega), Option.bind_some]
    try dsimp only
    by_cases e12 : ktT n bf p = 12
    · rw [decide_eq_true e12, ib_t, if_pos e12]; rfl
    rw [decide_eq_false e12, ib_f, if_neg e12, show f_X13_isWord Kc 415 13 wm = _ from iw 13 (by omega), Option.bind_some]
    try dsimp only
    by_cases e13 : ktT n bf p = 13
    · rw [decide_eq_true e13, ib_t, if_pos e13]; rfl
    rw [decide_eq_false e13, ib_f, if_neg e13, show f_X13_isWord Kc 415 14 wm = _ from iw 14 (by omega), Option.bind_some]
    try dsimp only
    by_cases e14 : ktT n bf p = 14
    · rw [decide_eq_true e14, ib_t, if_pos e14]; rfl
    rw [decide_eq_false e14, ib_f, if_neg e14, show f_X13_isWord Kc 415 15 wm = _ from iw 15 (by omega), Option.bind_some]
    try dsimp only
    by_cases e15 : ktT n bf p = 15
    · rw [decide_eq_true e15, ib_t, if_pos e15]; rfl
    rw [decide_eq_false e15, ib_f, if_neg e15]; rfl
  refine ⟨_, M, ?_⟩
  rw [X, sw]
  clear M X sw
  by_cases e0 : ktT n bf p = 0
  · rw [if_pos e0, if_pos e0]; exact lk_holiday hx hm hg
  rw [if_neg e0, if_neg e0]
  by_cases e1 : ktT n bf p = 1
  · rw [if_pos e1, if_pos e1]; exact lk_room hx hm hg
  rw [if_neg e1, if_neg e1]
  by_cases e3 : ktT n bf p = 3
  · rw [if_pos e3, if_pos e3]; exact lk_officer hx hm hg
  rw [if_neg e3, if_neg e3]
  by_cases e5 : ktT n bf p = 5
  · rw [if_pos e5, if_pos e5]; exact lk_witness hx hm hg
  rw [if_neg e5, if_neg e5]
  by_cases e7 : ktT n bf p = 7
  · rw [if_pos e7, if_pos e7]; exact lk_case hx hm hg
  rw [if_neg e7, if_neg e7]
  by_cases e12 : ktT n bf p = 12
  · rw [if_pos e12, if_pos e12]; exact lk_bar hx hm hg
  rw [if_neg e12, if_neg e12]
  by_cases e13 : ktT n bf p = 13
  · rw [if_pos e13, if_pos e13]; exact lk_conflict hx hm hg
  rw [if_neg e13, if_neg e13]
  by_cases e14 : ktT n bf p = 14
  · rw [if_pos e14, if_pos e14]; exact lk_lengthen hx hm hg
  rw [if_neg e14, if_neg e14]
  by_cases e15 : ktT n bf p = 15
  · rw [if_pos e15, if_pos e15]; exact lk_cap hx hm hg
  rw [if_neg e15, if_neg e15]
  obtain ⟨wx5, ex5, hx5⟩ := x_fail hx.1 (u := 1) (e := 1) rfl
  obtain ⟨wm5, em5, hm5⟩ := hm.1.fail (u := 1) (e := 1) rfl (by omega) (by omega)
  rw [if_pos (show (0 : Int32) < 1 ∨ 9 < (0 : Int32) by decide), ex5, em5]
  exact Or.inl ⟨_, wx5, wm5, rfl, rfl, hx5, hm5⟩
theorem sem_fine {m0 wm : Wd} {n : Nat} {bf : Nat → Int32} {p : Nat} {c s t : Nat → Nat} {nm : Nat → Nat → List Nat} (hm : MQr m0 wm n bf p c s t nm) : (ktT n bf p = 18 → ∃ wm', semM wm = some wm' ∧ MQr m0 wm' n bf (enT n bf p) c s t nm) ∧ (ktT n bf p ≠ 18 → ∃ wm', semM wm = some wm' ∧ MFl m0 wm' (1, skT n bf p)) := by
  have t3 := hm.1.2.2.2.1.2.2.1
  have ty := (tk_o (n := n) (bf := bf) (p := p))
  unfold semM
  rw [t3]
  refine ⟨fun e => ?_, fun e => ?_⟩
  · obtain ⟨wm1, em1, hm1⟩ := hm.go
    rw [if_pos (show nI (tyT n bf p) = 3 by rw [ty.2.1.mp e]; rfl), hm.1.need, Option.bind_some, em1, Option.bind_some]
    exact ⟨wm1, rfl, hm1⟩
  · obtain ⟨wm5, em5, hm5⟩ := hm.1.fail (u := 1) (e := 1) rfl (by omega) (by omega)
    rw [if_neg (show ¬ nI (tyT n bf p) = 3 from fun z => e (ty.2.1.mpr ((nI_eq (b := 3) (by omega) (by omega)).mp z))), em5, Option.bind_some, n_goOn hm5.ne, Option.bind_some]
    exact ⟨wm5, rfl, hm5⟩
theorem sem_n {w : Wd} (h : wI w 1331 415 ≠ 0) : semM w = some w := by
  unfold semM
  rw [n_needs h, n_needs h, Option.bind_some, n_goOn h, Option.bind_some]
  split <;> rfl
theorem XQr_rb {w0 wx : Wd} {n : Nat} {bf : Nat → Int32} {b p0 p : Nat} {s t : Nat → Nat} {nm : Nat → Nat → List Nat} (hx : XQr w0 wx n bf b p0 p (cS s) s t nm) : XQr w0 wx n bf b p p (cS s) s t nm := ⟨⟨hx.1.1, hx.1.2.1, ⟨hx.1.2.2.1.1, Nat.le_refl _, hx.1.2.2.1.2.2⟩, hx.1.2.2.2⟩, hx.2⟩
def LpO (w0 m0 : Wd) (n : Nat) (bf : Nat → Int32) (b : Nat) (K : Wd → Option (Int32 × Wd)) (rx : Option (Bool × Wd)) (rm : Option (Int32 × Wd)) : Prop := (∃ e wx wm, rx = some (false, wx) ∧ rm = K wm ∧ XFl w0 wx b e ∧ MFl m0 wm e) ∨ ∃ p s t nm wx wm, rx = some (true, wx) ∧ rm = K wm ∧ XQr w0 wx n bf b p p (cS s) s t nm ∧ MQr m0 wm n bf p (cS s) s t nm ∧ GD s t nm
theorem lk_loop {w0 m0 : Wd} {n : Nat} {bf : Nat → Int32} {b : Nat} {u1 : Option Nat} {u2 : Int32} {K : Wd → Option (Int32 × Wd)} : ∀ m p s t nm wx wm cnt f1 f2, n - p ≤ m → cnt + (n - p) ≤ 900 → m + 1 < f1 → m + 2 < f2 → XQr w0 wx n bf b p p (cS s) s t nm → MQr m0 wm n bf p (cS s) s t nm → GD s t nm → LpO w0 m0 n bf b K (f_X5_read_L28 Kc 36 (fun _ _ _ w7 => some (false, w7)) f1 u1 u2 (nI cnt) wx) (f_X13_parse_L23 Kc 415 K f2 wm) := by
  intro m
  induction m with
  | zero =>
    intro p s t nm wx wm cnt f1 f2 hm0 hc hf1 hf2 hx hm hg
    obtain ⟨f1, rfl⟩ : ∃ g, f1 = g + 1 := ⟨f1 - 1, by omega⟩
    obtain ⟨f2, rfl⟩ : ∃ g, f2 = g + 1 := ⟨f2 - 1, by omega⟩
    have ty := (tk_o (n := n) (bf := bf) (p := p))
    have pn := hx.1.2.2.1.1
    have e19 : ktT n bf p = 19 := by
      have := skT_rg (bf := bf) pn
      unfold ktT
      rw [if_pos (by omega)]
    rw [f_X5_read_L28, show (900 : Int32) = nI 900 from rfl, if_lt_f (by omega) (by omega) (by omega), x500 hx.1.1, Option.bind_some, hx.1.2.2.2.2.1.2.2.1, tk_B, Option.bind_some, if_pos (show some (ktT n bf p) = some 19 by rw [e19]), f_X13_parse_L23, hm.1.fine, Option.bind_some, ib_t]
    try dsimp only
    rw [hm.1.2.2.2.1.2.2.1, if_pos (show nI (tyT n bf p) = 0 by rw [ty.2.2.1.mp e19]; rfl)]
    exact Or.inr ⟨p, s, t, nm, wx, wm, rfl, rfl, hx, hm, hg⟩
  | succ m ih =>
    intro p s t nm wx wm cnt f1 f2 hm0 hc hf1 hf2 hx hm hg
    obtain ⟨f1, rfl⟩ : ∃ g, f1 = g + 1 := ⟨f1 - 1, by omega⟩
    obtain ⟨f2, rfl⟩ : ∃ g, f2 = g + 2 := ⟨f2 - 2, by omega⟩
    have ty := (tk_o (n := n) (bf := bf) (p := p))
    have pn := hx.1.2.2.1.1
    rw [f_X5_read_L28, show (900 : Int32) = nI 900 from rfl, if_lt_f (by omega) (by omega) (by omega), x500 hx.1.1, Option.bind_some, hx.1.2.2.2.2.1.2.2.1, tk_B, Option.bind_some, f_X13_parse_L23, hm.1.fine, Option.bind_some, ib_t]
    try dsimp only
    rw [hm.1.2.2.2.1.2.2.1]
    by_cases e19 : ktT n bf p = 19
    · rw [if_pos (show some (ktT n bf p) = some 19 by rw [e19]), if_pos (show nI (tyT n bf p) = 0 by rw [ty.2.2.1.mp e19]; rfl)]
      exact Or.inr ⟨p, s, t, nm, wx, wm, rfl, rfl, hx, hm, hg⟩
    · rw [if_neg (show ¬ some (ktT n bf p) = some 19 from fun z => e19 (by injection z)), if_neg (show ¬ nI (tyT n bf p) = 0 from fun z => e19 (ty.2.2.1.mpr ((nI_eq (b := 0) (by omega) (by omega)).mp z)))]
      obtain ⟨rm, er, hl⟩ := lk_statement hx hm hg
      have stop : ∀ {w e}, MFl m0 w e → f_X13_parse_L23 Kc 415 K (f2 + 1) w = K w := fun {w e} h => by
        rw [f_X13_parse_L23, n_fine h.ne, Option.bind_some, ib_f]
      rcases hl with ⟨e, wx1, wm1, x1, x2, x3, x4⟩ | ⟨p1, s1, t1, nm1, wx1, wm1, x1, x2, x3, x4, x5⟩
      · rw [x1, Option.bind_some, ib_f, er, x2, Option.bind_some, sem_n x4.ne, Option.bind_some, stop x4]
        exact Or.inl ⟨e, wx1, wm1, rfl, rfl, x3, x4⟩
      · rw [x1, Option.bind_some, ib_t, er, x2, Option.bind_some]
        unfold f_X5_takes
        try dsimp only
        rw [x500 x3.1.1, Option.bind_some, x3.1.2.2.2.2.1.2.2.1, tk_B, Option.bind_some, tk_B2 (by omega), Option.bind_some]
        by_cases e18 : ktT n bf p1 = 18
        · obtain ⟨wx2, ex2, hx2, _⟩ := x3.adv
          obtain ⟨wm2, em2, hm2⟩ := (sem_fine x4).1 e18
          rw [if_pos (show some (ktT n bf p1) = some 18 by rw [e18]), ex2, Option.bind_some, Option.bind_some, em2, Option.bind_some]
          try dsimp only
          rw [ib_t, show nI cnt + 1 = nI (cnt + 1) from nI_add cnt 1]
          have lt := (nx_lt (bf := bf) x3.1.2.2.1.1 (show ktT n bf p1 ≠ 19 by omega)).2
          have ge := x3.1.2.2.1.2.1
          have le := hx2.1.2.2.1.1
          exact ih _ _ _ _ wx2 wm2 (cnt + 1) f1 (f2 + 1) (by omega) (by omega) (by omega) (by omega) (XQr_rb hx2) hm2 x5
        · obtain ⟨wx2, ex2, hx2⟩ := x_fail x3.1 (u := 1) (e := 1) rfl
          obtain ⟨wm2, em2, hm2⟩ := (sem_fine x4).2 e18
          rw [if_neg (show ¬ some (ktT n bf p1) = some 18 from fun z => e18 (by injection z)), ex2, Option.bind_some, Option.bind_some, em2, Option.bind_some]
          try dsimp only
          rw [ib_f, stop hm2]
          exact Or.inl ⟨_, wx2, wm2, rfl, rfl, hx2, hm2⟩
