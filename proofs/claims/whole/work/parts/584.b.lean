/-! Calls that throw nothing; doubles. -/
def TSa (f x : Nat) : Prop := TSx f x ∨ (x = 415 ∧ (f = 1300 ∨ (1316 ≤ f ∧ f < 1320)))
def TAa (x : Nat) : Prop := TAx x ∨ x = 417 ∨ x = 419 ∨ x = 420 ∨ x = 421 ∨ (428 ≤ x ∧ x < 431) ∨ x = 437
theorem Inv.fr {w w' : Wd} (h : Inv w) (k : Fr TSa TAa w w') (hf : FX w') : Inv w' := by
  obtain ⟨b, s, t, ⟨c1, c2, c3, c4⟩, ⟨m, hs, p1, p2⟩, ⟨v, st, q1, q2⟩, o⟩ := h
  have ub := SU_rg c1.2.1.2.1
  refine ⟨b, s, t, ⟨c1.fr k hf (fun f x q => ?_) (fun x q => ?_), c2.fr k hf (by unfold TAa TAx; omega) (by unfold TAa TAx; omega), c3, by rw [(k.1 1315 415 (by unfold TSa TSx; omega)).1]; exact c4⟩, ⟨m, hs, p1.fr c1.2.1.2.1 k hf (fun f x q => ?_) (fun x q => ?_), p2.fr k (by unfold TSa TSx; omega) (by unfold TAa TAx; omega)⟩, ⟨v, st, q1.fr c1.2.1.2.1 k hf (fun f x q => ?_) (fun x q => ?_), q2.fr k (by unfold TSa TSx; omega) (by unfold TAa TAx; omega)⟩, o.fr c1.2.1.2.1 k (fun f x q => ?_) (fun x q => ?_)⟩
  all_goals first | unfold TSa TSx at q | unfold TAa TAx at q
  all_goals try unfold RG RB
  all_goals try unfold inU
  all_goals omega
theorem Inv.FX {w : Wd} (h : Inv w) : FX w := by
  obtain ⟨b, s, t, ⟨c1, _⟩, _⟩ := h
  exact c1.1
theorem Inv.tl {w : Wd} {c : Int32} (h : Inv w) : Inv (sI w 1300 415 c) := h.fr (fr_sI (Or.inr ⟨rfl, Or.inl rfl⟩)) h.FX.sI
def Both0 {α : Type} (X M : Wd → Option (α × Wd)) (w : Wd) : Prop := ∃ a w1 w2, X w = some (a, w1) ∧ M w1 = some (a, w2) ∧ Inv w2
theorem Both0.r {α : Type} {X M : Wd → Option (α × Wd)} {w : Wd} (h : Inv w) {a : α} (hx : X w = some (a, w)) (hm : M w = some (a, sI w 1300 415 0)) : Both0 X M w := ⟨a, w, _, hx, hm, h.tl⟩
theorem b_errorCode {w : Wd} (h : Inv w) : Both0 (f_X12_errorCode Kc 0) (f_X13_errorCode Kc 415) w := Both0.r h (a := wI w 1203 0) rfl (by
  obtain ⟨b, s, t, _, _, _, _, _, _, e, _⟩ := h
  unfold f_X13_errorCode
  rw [Option.bind_some, wI_sI, if_neg (by omega), e.1])
theorem b_errorOffset {w : Wd} (h : Inv w) : Both0 (f_X12_errorOffset Kc 0) (f_X13_errorOffset Kc 415) w := Both0.r h (a := wI w 1204 0) rfl (by
  obtain ⟨b, s, t, _, _, _, _, _, _, e, _⟩ := h
  unfold f_X13_errorOffset
  rw [Option.bind_some, wI_sI, if_neg (by omega), e.2])
theorem b_count {w : Wd} (h : Inv w) (x : Int32) : Both0 (f_X12_count Kc 0 x) (f_X13_count Kc 415 x) w := by
  obtain ⟨b, s, t, ⟨hx, hm, c3, c4⟩, ⟨m, hs, p1, p2⟩, o⟩ := id h
  have hs := hx.gs.1
  by_cases e : inR x 14
  · obtain ⟨k, hk, rfl⟩ := inR_nI e
    have hcase : k = 0 ∨ k = 1 ∨ k = 2 ∨ k = 3 ∨ k = 4 ∨ k = 5 ∨ k = 6 ∨ k = 7 ∨ k = 8 ∨ k = 9 ∨ k = 10 ∨ k = 11 ∨ k = 12 ∨ k = 13 := (by decide : ∀ k, k < 14 → k = 0 ∨ k = 1 ∨ k = 2 ∨ k = 3 ∨ k = 4 ∨ k = 5 ∨ k = 6 ∨ k = 7 ∨ k = 8 ∨ k = 9 ∨ k = 10 ∨ k = 11 ∨ k = 12 ∨ k = 13) k hk
    rcases hcase with rfl | rfl | rfl | rfl | rfl | rfl | rfl | rfl | rfl | rfl | rfl | rfl | rfl | rfl
    · refine Both0.r h (a := nI (s 0)) ?_ ?_
      · unfold f_X12_count
        rw [if_neg (show ¬ (nI 0 < 0 ∨ 13 < nI 0) by decide), if_pos (show nI 0 = 0 from rfl)]
        rw [x1205 hx.1, Option.bind_some, hx.su, Option.bind_some, show (0 : Int32) = nI 0 from rfl, x_size hx (by omega), Option.bind_some]
      · unfold f_X13_count
        rw [Option.bind_some]
        try dsimp only
        rw [if_neg (show ¬ (nI 0 < 0 ∨ 9 < nI 0) by decide), if_pos (show nI 0 = 0 from rfl)]
        rw [x1301 hm.1.sI, Option.bind_some]
        try dsimp only
        rw [show ixa 0 170 = some 0 from rfl, Option.bind_some, hm.tl.S (by omega)]
    · refine Both0.r h (a := nI (s 1)) ?_ ?_
      · unfold f_X12_count
        rw [if_neg (show ¬ (nI 1 < 0 ∨ 13 < nI 1) by decide), if_neg (show ¬ nI 1 = 0 by decide), if_pos (show nI 1 = 1 from rfl)]
        rw [x1205 hx.1, Option.bind_some, hx.su, Option.bind_some, show (1 : Int32) = nI 1 from rfl, x_size hx (by omega), Option.bind_some]
      · unfold f_X13_count
        rw [Option.bind_some]
        try dsimp only
        rw [if_neg (show ¬ (nI 1 < 0 ∨ 9 < nI 1) by decide), if_neg (show ¬ nI 1 = 0 by decide), if_pos (show nI 1 = 1 from rfl)]
        rw [x1301 hm.1.sI, Option.bind_some]
        try dsimp only
        rw [show ixa 1 170 = some 1 from rfl, Option.bind_some, hm.tl.S (by omega)]
    · refine Both0.r h (a := nI (s 2)) ?_ ?_
      · unfold f_X12_count
        rw [if_neg (show ¬ (nI 2 < 0 ∨ 13 < nI 2) by decide), if_neg (show ¬ nI 2 = 0 by decide), if_neg (show ¬ nI 2 = 1 by decide), if_pos (show nI 2 = 2 from rfl)]
        rw [x1205 hx.1, Option.bind_some, hx.su, Option.bind_some, show (2 : Int32) = nI 2 from rfl, x_size hx (by omega), Option.bind_some]
      · unfold f_X13_count
        rw [Option.bind_some]
        try dsimp only
        rw [if_neg (show ¬ (nI 2 < 0 ∨ 9 < nI 2) by decide), if_neg (show ¬ nI 2 = 0 by decide), if_neg (show ¬ nI 2 = 1 by decide), if_pos (show nI 2 = 2 from rfl)]
        rw [x1301 hm.1.sI, Option.bind_some]
        try dsimp only
        rw [show ixa 2 170 = some 2 from rfl, Option.bind_some, hm.tl.S (by omega)]
    · refine Both0.r h (a := nI (s 3)) ?_ ?_
      · unfold f_X12_count
        rw [if_neg (show ¬ (nI 3 < 0 ∨ 13 < nI 3) by decide), if_neg (show ¬ nI 3 = 0 by decide), if_neg (show ¬ nI 3 = 1 by decide), if_neg (show ¬ nI 3 = 2 by decide), if_pos (show nI 3 = 3 from rfl)]
        rw [x1205 hx.1, Option.bind_some, hx.su, Option.bind_some, show (3 : Int32) = nI 3 from rfl, x_size hx (by omega), Option.bind_some]
      · unfold f_X13_count
        rw [Option.bind_some]
        try dsimp only
        rw [if_neg (show ¬ (nI 3 < 0 ∨ 9 < nI 3) by decide), if_neg (show ¬ nI 3 = 0 by decide), if_neg (show ¬ nI 3 = 1 by decide), if_neg (show ¬ nI 3 = 2 by decide), if_pos (show nI 3 = 3 from rfl)]
        rw [x1301 hm.1.sI, Option.bind_some]
        try dsimp only
        rw [show ixa 3 170 = some 3 from rfl, Option.bind_some, hm.tl.S (by omega)]
    · refine Both0.r h (a := nI (t 1)) ?_ ?_
      · unfold f_X12_count
        rw [if_neg (show ¬ (nI 4 < 0 ∨ 13 < nI 4) by decide), if_neg (show ¬ nI 4 = 0 by decide), if_neg (show ¬ nI 4 = 1 by decide), if_neg (show ¬ nI 4 = 2 by decide), if_neg (show ¬ nI 4 = 3 by decide), if_pos (show nI 4 = 4 from rfl)]
        rw [x1205 hx.1, Option.bind_some, t1002 hx.1 (by decide), Option.bind_some, hx.2.2.2.1.1.2]
      · unfold f_X13_count
        rw [Option.bind_some]
        try dsimp only
        rw [if_neg (show ¬ (nI 4 < 0 ∨ 9 < nI 4) by decide), if_neg (show ¬ nI 4 = 0 by decide), if_neg (show ¬ nI 4 = 1 by decide), if_neg (show ¬ nI 4 = 2 by decide), if_neg (show ¬ nI 4 = 3 by decide), if_pos (show nI 4 = 4 from rfl)]
        rw [x1303 hm.1.sI, Option.bind_some]
        try dsimp only
        rw [show ixa 1 370 = some 1 from rfl, Option.bind_some, hm.tl.T (by omega) (by omega)]
    · refine Both0.r h (a := nI (popS (fun i => t (34 + i)) (s 3))) ?_ ?_
      · unfold f_X12_count
        rw [if_neg (show ¬ (nI 5 < 0 ∨ 13 < nI 5) by decide), if_neg (show ¬ nI 5 = 0 by decide), if_neg (show ¬ nI 5 = 1 by decide), if_neg (show ¬ nI 5 = 2 by decide), if_neg (show ¬ nI 5 = 3 by decide), if_neg (show ¬ nI 5 = 4 by decide), if_pos (show nI 5 = 5 from rfl)]
        rw [x1205 hx.1, Option.bind_some, x_countBars hx, Option.bind_some]
      · unfold f_X13_count
        rw [Option.bind_some]
        try dsimp only
        rw [if_neg (show ¬ (nI 5 < 0 ∨ 9 < nI 5) by decide), if_neg (show ¬ nI 5 = 0 by decide), if_neg (show ¬ nI 5 = 1 by decide), if_neg (show ¬ nI 5 = 2 by decide), if_neg (show ¬ nI 5 = 3 by decide), if_neg (show ¬ nI 5 = 4 by decide), if_pos (show nI 5 = 5 from rfl)]
        rw [m_allBars hm.tl, Option.bind_some]
    · refine Both0.r h (a := nI (popS (fun i => s (148 + i)) (s 3)) / nI 2) ?_ ?_
      · unfold f_X12_count
        rw [if_neg (show ¬ (nI 6 < 0 ∨ 13 < nI 6) by decide), if_neg (show ¬ nI 6 = 0 by decide), if_neg (show ¬ nI 6 = 1 by decide), if_neg (show ¬ nI 6 = 2 by decide), if_neg (show ¬ nI 6 = 3 by decide), if_neg (show ¬ nI 6 = 4 by decide), if_neg (show ¬ nI 6 = 5 by decide), if_pos (show nI 6 = 6 from rfl)]
        rw [x1205 hx.1, Option.bind_some, hx.su, Option.bind_some, x_countConflicts hx, Option.bind_some]
      · unfold f_X13_count
        rw [Option.bind_some]
        try dsimp only
        rw [if_neg (show ¬ (nI 6 < 0 ∨ 9 < nI 6) by decide), if_neg (show ¬ nI 6 = 0 by decide), if_neg (show ¬ nI 6 = 1 by decide), if_neg (show ¬ nI 6 = 2 by decide), if_neg (show ¬ nI 6 = 3 by decide), if_neg (show ¬ nI 6 = 4 by decide), if_neg (show ¬ nI 6 = 5 by decide), if_pos (show nI 6 = 6 from rfl)]
        rw [m_allConflicts hm.tl, Option.bind_some]
    · refine Both0.r h (a := nI (t 0)) ?_ ?_
      · unfold f_X12_count
        rw [if_neg (show ¬ (nI 7 < 0 ∨ 13 < nI 7) by decide), if_neg (show ¬ nI 7 = 0 by decide), if_neg (show ¬ nI 7 = 1 by decide), if_neg (show ¬ nI 7 = 2 by decide), if_neg (show ¬ nI 7 = 3 by decide), if_neg (show ¬ nI 7 = 4 by decide), if_neg (show ¬ nI 7 = 5 by decide), if_neg (show ¬ nI 7 = 6 by decide), if_pos (show nI 7 = 7 from rfl)]
        rw [x1205 hx.1, Option.bind_some, hx.dy]
      · unfold f_X13_count
        rw [Option.bind_some]
        try dsimp only
        rw [if_neg (show ¬ (nI 7 < 0 ∨ 9 < nI 7) by decide), if_neg (show ¬ nI 7 = 0 by decide), if_neg (show ¬ nI 7 = 1 by decide), if_neg (show ¬ nI 7 = 2 by decide), if_neg (show ¬ nI 7 = 3 by decide), if_neg (show ¬ nI 7 = 4 by decide), if_neg (show ¬ nI 7 = 5 by decide), if_neg (show ¬ nI 7 = 6 by decide), if_pos (show nI 7 = 7 from rfl)]
        rw [x1303 hm.1.sI, Option.bind_some]
        try dsimp only
        rw [show ixa 0 370 = some 0 from rfl, Option.bind_some, hm.tl.T (by omega) (by omega)]
    · refine Both0.r h (a := nI (s 164)) ?_ ?_
      · unfold f_X12_count
        rw [if_neg (show ¬ (nI 8 < 0 ∨ 13 < nI 8) by decide), if_neg (show ¬ nI 8 = 0 by decide), if_neg (show ¬ nI 8 = 1 by decide), if_neg (show ¬ nI 8 = 2 by decide), if_neg (show ¬ nI 8 = 3 by decide), if_neg (show ¬ nI 8 = 4 by decide), if_neg (show ¬ nI 8 = 5 by decide), if_neg (show ¬ nI 8 = 6 by decide), if_neg (show ¬ nI 8 = 7 by decide), if_pos (show nI 8 = 8 from rfl)]
        rw [x1205 hx.1, Option.bind_some, hx.su, Option.bind_some, hx.2.2.1.2.2.2.2.2.2.2]
      · unfold f_X13_count
        rw [Option.bind_some]
        try dsimp only
        rw [if_neg (show ¬ (nI 8 < 0 ∨ 9 < nI 8) by decide), if_neg (show ¬ nI 8 = 0 by decide), if_neg (show ¬ nI 8 = 1 by decide), if_neg (show ¬ nI 8 = 2 by decide), if_neg (show ¬ nI 8 = 3 by decide), if_neg (show ¬ nI 8 = 4 by decide), if_neg (show ¬ nI 8 = 5 by decide), if_neg (show ¬ nI 8 = 6 by decide), if_neg (show ¬ nI 8 = 7 by decide), if_pos (show nI 8 = 8 from rfl)]
        rw [x1301 hm.1.sI, Option.bind_some]
        try dsimp only
        rw [show ixa 164 170 = some 164 from rfl, Option.bind_some, hm.tl.S (by omega)]
    · refine Both0.r h (a := nI m) ?_ ?_
      · unfold f_X12_count
        rw [if_neg (show ¬ (nI 9 < 0 ∨ 13 < nI 9) by decide), if_neg (show ¬ nI 9 = 0 by decide), if_neg (show ¬ nI 9 = 1 by decide), if_neg (show ¬ nI 9 = 2 by decide), if_neg (show ¬ nI 9 = 3 by decide), if_neg (show ¬ nI 9 = 4 by decide), if_neg (show ¬ nI 9 = 5 by decide), if_neg (show ¬ nI 9 = 6 by decide), if_neg (show ¬ nI 9 = 7 by decide), if_neg (show ¬ nI 9 = 8 by decide), if_pos (show nI 9 = 9 from rfl)]
        rw [p1.1]
      · unfold f_X13_count
        rw [Option.bind_some]
        try dsimp only
        rw [if_neg (show ¬ (nI 9 < 0 ∨ 9 < nI 9) by decide), if_neg (show ¬ nI 9 = 0 by decide), if_neg (show ¬ nI 9 = 1 by decide), if_neg (show ¬ nI 9 = 2 by decide), if_neg (show ¬ nI 9 = 3 by decide), if_neg (show ¬ nI 9 = 4 by decide), if_neg (show ¬ nI 9 = 5 by decide), if_neg (show ¬ nI 9 = 6 by decide), if_neg (show ¬ nI 9 = 7 by decide), if_neg (show ¬ nI 9 = 8 by decide), if_pos (show nI 9 = 9 from rfl)]
        rw [wI_sI, if_neg (by omega), p2.1]
    · refine Both0.r h (a := nI (cnt (fun i => cs t i 0 == 0) (s 3))) ?_ ?_
      · unfold f_X12_count
        rw [if_neg (show ¬ (nI 10 < 0 ∨ 13 < nI 10) by decide), if_neg (show ¬ nI 10 = 0 by decide), if_neg (show ¬ nI 10 = 1 by decide), if_neg (show ¬ nI 10 = 2 by decide), if_neg (show ¬ nI 10 = 3 by decide), if_neg (show ¬ nI 10 = 4 by decide), if_neg (show ¬ nI 10 = 5 by decide), if_neg (show ¬ nI 10 = 6 by decide), if_neg (show ¬ nI 10 = 7 by decide), if_neg (show ¬ nI 10 = 8 by decide), if_neg (show ¬ nI 10 = 9 by decide), if_pos (show nI 10 = 10 from rfl)]
        rw [x1205 hx.1, Option.bind_some, show (0 : Int32) = nI 0 from rfl, x_countPhase hx (by omega), Option.bind_some]
      · unfold f_X13_count
        rw [Option.bind_some]
        try dsimp only
        rw [if_pos (show (nI 10 < 0 ∨ 9 < nI 10) by decide), isIn_sp, decide_eq_true (by decide), Option.bind_some]
        try dsimp only
        rw [ib_t, show nI 10 - 10 = nI 0 from by decide, m_manyIn hm.tl (by omega), Option.bind_some]
    · refine Both0.r h (a := nI (cnt (fun i => cs t i 0 == 1) (s 3))) ?_ ?_
      · unfold f_X12_count
        rw [if_neg (show ¬ (nI 11 < 0 ∨ 13 < nI 11) by decide), if_neg (show ¬ nI 11 = 0 by decide), if_neg (show ¬ nI 11 = 1 by decide), if_neg (show ¬ nI 11 = 2 by decide), if_neg (show ¬ nI 11 = 3 by decide), if_neg (show ¬ nI 11 = 4 by decide), if_neg (show ¬ nI 11 = 5 by decide), if_neg (show ¬ nI 11 = 6 by decide), if_neg (show ¬ nI 11 = 7 by decide), if_neg (show ¬ nI 11 = 8 by decide), if_neg (show ¬ nI 11 = 9 by decide), if_neg (show ¬ nI 11 = 10 by decide), if_pos (show nI 11 = 11 from rfl)]
        rw [x1205 hx.1, Option.bind_some, show (1 : Int32) = nI 1 from rfl, x_countPhase hx (by omega), Option.bind_some]
      · unfold f_X13_count
        rw [Option.bind_some]
        try dsimp only
        rw [if_pos (show (nI 11 < 0 ∨ 9 < nI 11) by decide), isIn_sp, decide_eq_true (by decide), Option.bind_some]
        try dsimp only
        rw [ib_t, show nI 11 - 10 = nI 1 from by decide, m_manyIn hm.tl (by omega), Option.bind_some]
    · refine Both0.r h (a := nI (cnt (fun i => cs t i 0 == 2) (s 3))) ?_ ?_
      · unfold f_X12_count
        rw [if_neg (show ¬ (nI 12 < 0 ∨ 13 < nI 12) by decide), if_neg (show ¬ nI 12 = 0 by decide), if_neg (show ¬ nI 12 = 1 by decide), if_neg (show ¬ nI 12 = 2 by decide), if_neg (show ¬ nI 12 = 3 by decide), if_neg (show ¬ nI 12 = 4 by decide), if_neg (show ¬ nI 12 = 5 by decide), if_neg (show ¬ nI 12 = 6 by decide), if_neg (show ¬ nI 12 = 7 by decide), if_neg (show ¬ nI 12 = 8 by decide), if_neg (show ¬ nI 12 = 9 by decide), if_neg (show ¬ nI 12 = 10 by decide), if_neg (show ¬ nI 12 = 11 by decide), if_pos (show nI 12 = 12 from rfl)]
        rw [x1205 hx.1, Option.bind_some, show (2 : Int32) = nI 2 from rfl, x_countPhase hx (by omega), Option.bind_some]
      · unfold f_X13_count
        rw [Option.bind_some]
        try dsimp only
        rw [if_pos (show (nI 12 < 0 ∨ 9 < nI 12) by decide), isIn_sp, decide_eq_true (by decide), Option.bind_some]
        try dsimp only
        rw [ib_t, show nI 12 - 10 = nI 2 from by decide, m_manyIn hm.tl (by omega), Option.bind_some]
    · refine Both0.r h (a := nI (cnt (fun i => cs t i 0 == 3) (s 3))) ?_ ?_
      · unfold f_X12_count
        rw [if_neg (show ¬ (nI 13 < 0 ∨ 13 < nI 13) by decide), if_neg (show ¬ nI 13 = 0 by decide), if_neg (show ¬ nI 13 = 1 by decide), if_neg (show ¬ nI 13 = 2 by decide), if_neg (show ¬ nI 13 = 3 by decide), if_neg (show ¬ nI 13 = 4 by decide), if_neg (show ¬ nI 13 = 5 by decide), if_neg (show ¬ nI 13 = 6 by decide), if_neg (show ¬ nI 13 = 7 by decide), if_neg (show ¬ nI 13 = 8 by decide), if_neg (show ¬ nI 13 = 9 by decide), if_neg (show ¬ nI 13 = 10 by decide), if_neg (show ¬ nI 13 = 11 by decide), if_neg (show ¬ nI 13 = 12 by decide), if_pos (show nI 13 = 13 from rfl)]
        rw [x1205 hx.1, Option.bind_some, show (3 : Int32) = nI 3 from rfl, x_countPhase hx (by omega), Option.bind_some]
      · unfold f_X13_count
        rw [Option.bind_some]
        try dsimp only
        rw [if_pos (show (nI 13 < 0 ∨ 9 < nI 13) by decide), isIn_sp, decide_eq_true (by decide), Option.bind_some]
        try dsimp only
        rw [ib_t, show nI 13 - 10 = nI 3 from by decide, m_manyIn hm.tl (by omega), Option.bind_some]
  · refine Both0.r h (a := -1) ?_ ?_
    · unfold f_X12_count
      rw [if_pos (show x < 0 ∨ 13 < x from nR_or (n := 13) (by omega) e)]
    · unfold f_X13_count
      have h9 : (9 : Int32).toInt = 9 := rfl
      have e1 : ¬ inR x 10 := fun q => e ⟨q.1, by have := q.2; omega⟩
      rw [Option.bind_some]
      try dsimp only
      rw [if_pos (show x < 0 ∨ 9 < x from nR_or (n := 9) (by omega) e1), isIn_sp, Int32.toInt_toInt64, show (10 : Int64).toInt = 10 from rfl, show (13 : Int64).toInt = 13 from rfl, decide_eq_false (fun q => e ⟨by have := q.1; omega, by have := q.2; omega⟩), Option.bind_some]
      rfl
