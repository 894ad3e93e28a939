variable {X : Kd}
theorem rk_ex {s t : Nat → Nat} : ∀ c, c ≤ 12 → ∀ j, j < cnt (wt t) c → ∃ i, i < c ∧ wt t i = true ∧ rk s t i c = j
  | 0, _, j, hj => by simp [cnt, sm] at hj
  | c + 1, h12, j, hj => by
    have ih := rk_ex (s := s) (t := t) c (by omega)
    cases ew : wt t c with
    | false =>
      have en : cnt (wt t) (c + 1) = cnt (wt t) c := by rw [cnt_succ, ew]; rfl
      have rs : ∀ i, rk s t i (c + 1) = rk s t i c := fun i => by rw [rk_succ, ew]; rfl
      obtain ⟨i, i1, i2, i3⟩ := ih j (by omega)
      exact ⟨i, by omega, i2, by rw [rs]; exact i3⟩
    | true =>
      have hmn : ∀ i, i < c → kyN s t i ≠ kyN s t c := fun i hi q => by
        have q1 := kyN_mod (s := s) (t := t) (i := i) (by omega)
        have q2 := kyN_mod (s := s) (t := t) (i := c) (by omega)
        omega
      have en : cnt (wt t) (c + 1) = cnt (wt t) c + 1 := by rw [cnt_succ, ew]; rfl
      have rs : ∀ i, i < c → wt t i = true → (kyN s t i < kyN s t c ∧ rk s t i (c + 1) = rk s t i c ∧ rk s t i c < rk s t c c) ∨ (kyN s t c < kyN s t i ∧ rk s t i (c + 1) = rk s t i c + 1 ∧ rk s t c c ≤ rk s t i c) := fun i hi hw => by
        rcases Nat.lt_or_gt_of_ne (hmn i hi) with q | q
        · exact Or.inl ⟨q, by rw [rk_succ, decide_eq_false (by omega), Bool.and_false]; rfl, rk_lt hi hw q⟩
        · exact Or.inr ⟨q, by rw [rk_succ, decide_eq_true (by omega), ew]; rfl, rk_le (by omega)⟩
      have rc : rk s t c (c + 1) = rk s t c c := by rw [rk_succ, decide_eq_false (by omega), Bool.and_false]; rfl
      by_cases ej : j = rk s t c c
      · exact ⟨c, by omega, ew, by rw [rc, ej]⟩
      · by_cases ej2 : j < rk s t c c
        · obtain ⟨i, i1, i2, i3⟩ := ih j (by have := rk_wle (s := s) (t := t) (i := c) (c := c); omega)
          rcases rs i (by omega) i2 with ⟨q1, q2, q3⟩ | ⟨q1, q2, q3⟩
          · exact ⟨i, by omega, i2, by omega⟩
          · omega
        · obtain ⟨i, i1, i2, i3⟩ := ih (j - 1) (by omega)
          rcases rs i (by omega) i2 with ⟨q1, q2, q3⟩ | ⟨q1, q2, q3⟩
          · omega
          · exact ⟨i, by omega, i2, by omega⟩
theorem urg_ex {s t : Nat → Nat} (hS : GoodS s) {k : Nat} (hk : k < cnt (wt t) (s 3)) : ∃ v, urg s t k = some v ∧ v < s 3 := by
  obtain ⟨i, i1, i2, i3⟩ := rk_ex (s := s) (t := t) (s 3) hS.1.2.2.2 k hk
  exact ⟨i, urg_at hS i1 i2 i3, i1⟩
theorem pSt_s {s t0 : Nat → Nat} {G : Int32} {k v : Nat} (h : urg s t0 k = some v) : pSt s t0 G (k + 1) = (plX s (pSt s t0 G k).1 G v, (pSt s t0 G k).2 + bn (fa s (pSt s t0 G k).1 G v).isSome) := by
  rw [pSt, h]
def PA (a x : Nat) : Prop := (404 ≤ x ∧ x ≤ 408) ∨ (a + 6 ≤ x ∧ x < a + 30)
theorem PL_PA {a x : Nat} (h : PL x) : PA a x := Or.inl ⟨h.1, by have := h.2; omega⟩
theorem x_setFound {w : Wd} {a b : Nat} {s t : Nat → Nat} (h : HX w a b s t) {i d q r o : Nat} (hi : i < s 3) (hd : t 0 ≤ d ∧ d < 600) (hq : q + s (100 + i) < 9) (hr : r < s 0) (ho : o < s 1) (f1 : wI w 608 404 = nI d) (f2 : wI w 609 404 = nI q) (f3 : wI w 610 404 = nI r) (f4 : wI w 611 404 = nI o) : ∃ w', f_X6_setFound (Kx X) 404 (some a) (nI i) w = some w' ∧ HX w' a b s (plT t i d q r o) ∧ Ofi (fun _ x => x = a + 6 + 2 * i) NA w w' := by
  have h12 := h.gs.1.2.2.2
  obtain ⟨w1, e1, h1, o1⟩ := x_setHearing (X := X) h hi hd hq hr ho
  unfold f_X6_setFound
  rw [h.ca, Option.bind_some, h.pg, Option.bind_some]
  try dsimp only
  rw [ixa_n (by omega) (by omega), Option.bind_some, h.pe (by omega), Option.bind_some, f1, f2, f3, f4, e1, Option.bind_some]
  exact ⟨w1, rfl, h1, o1⟩
theorem x_planWaiting {w : Wd} {a b : Nat} {s t : Nat → Nat} (h : HX w a b s t) {G : Int32} {ab : Nat} (hab : AB s G ab) : ∃ w', f_X6_planWaiting (Kx X) 404 (some a) (nI ab) w = some (nI (pSt s t G (cnt (wt t) (s 3))).2, w') ∧ HX w' a b s (pSt s t G (cnt (wt t) (s 3))).1 ∧ Off (PA a) w w' := by
  have h12 := h.gs.1.2.2.2
  have hc := cnt_le (p := wt t) (s 3)
  obtain ⟨w1, e1, o1, q1⟩ := x_sortWaiting (X := X) h (x603 h.1) (by omega)
  unfold f_X6_planWaiting
  rw [h.ca, Option.bind_some, e1, Option.bind_some]
  try dsimp only
  have h1 : HX w1 a b s t := o1.HX h (fun _ _ q => q.elim) (fun x q => by omega)
  refine loop_q (fun f k w2 => f_X6_planWaiting_L15 (Kx X) 404 (fun v1_15 v2_15 v3_15 v4_15 v5_15 w3 => some (v4_15, w3)) f (some a) (nI ab) (nI (cnt (wt t) (s 3))) (nI (pSt s t G k).2) (nI k) w2) (fun k w2 => Off (PA a) w w2 ∧ HX w2 a b s (pSt s t G k).1 ∧ ∀ j, j < cnt (wt t) (s 3) → ∃ i, urg s t j = some i ∧ aI w2 408 j = nI i) (fun r => ∃ w', r = some (nI (pSt s t G (cnt (wt t) (s 3))).2, w') ∧ HX w' a b s (pSt s t G (cnt (wt t) (s 3))).1 ∧ Off (PA a) w w') (cnt (wt t) (s 3)) (fun f w2 hI => ?_) (fun f k w2 hk hI ih => ?_) fu 0 w1 ⟨o1.off (fun _ _ q => q.elim) (fun x q => Or.inl (by omega)), h1, q1⟩ (by omega) (fu_lt (by omega))
  · try dsimp only
    rw [f_X6_planWaiting_L15, if_le_t (by omega) (by omega) (Nat.le_refl _)]
    exact ⟨w2, rfl, hI.2.1, hI.1⟩
  · try dsimp only at ih ⊢
    obtain ⟨v, ev, av⟩ := hI.2.2 k hk
    have hv := (urg_some ev).1
    have ha : a + 30 ≤ 404 := (by decide : ∀ a, a ∈ SA → a + 30 ≤ 404) a h.2.1.1
    have ff := x_findFirst (X := X) hI.2.1 (G := G) hv hab
    have ps := pSt_s (G := G) ev
    rw [ps] at ih
    try dsimp only at ih
    rw [f_X6_planWaiting_L15, if_le_f (by omega) (by omega) hk, x603 hI.2.1.1, Option.bind_some]
    try dsimp only
    rw [ixa_n (by omega) (by omega), Option.bind_some, av]
    unfold plX at ih
    cases e5 : fa s (pSt s t G k).1 G v with
    | none =>
      rw [e5] at ff ih
      obtain ⟨w3, e3, o3⟩ := ff
      rw [e3, Option.bind_some]
      try dsimp only
      rw [if_pos (by decide), show nI k + 1 = nI (k + 1) from nI_add k 1]
      refine ih w3 ⟨hI.1.trans (o3.mono (fun x q => PL_PA q)), o3.HX hI.2.1 PL_ge, fun j hj => ?_⟩
      obtain ⟨i, i1, i2⟩ := hI.2.2 j hj
      exact ⟨i, i1, by rw [(o3.2.2 408 (fun q => by have := q.2; omega)).2.2.2.1]; exact i2⟩
    | some x =>
      obtain ⟨d, q, r, o⟩ := x
      have g := fa_good hI.2.1.gs hI.2.1.gt hv e5
      rw [e5] at ff ih
      obtain ⟨w3, e3, o3⟩ := ff
      have o4 : Off PL w2 (setG w3 d q r o) := o3.trans setG_off
      have h4 := o4.HX hI.2.1 PL_ge
      have b4 : ∀ j, j < cnt (wt t) (s 3) → ∃ i, urg s t j = some i ∧ aI (setG w3 d q r o) 408 j = nI i := fun j hj => by
        obtain ⟨i, i1, i2⟩ := hI.2.2 j hj
        exact ⟨i, i1, by rw [(o4.2.2 408 (fun q => by have := q.2; omega)).2.2.2.1]; exact i2⟩
      obtain ⟨w5, e6, h5, o5⟩ := x_setFound (X := X) h4 hv g.1 g.2.1 g.2.2.1 g.2.2.2 setG_608 setG_609 setG_610 setG_611
      obtain ⟨i0, j1, j2⟩ := b4 k hk
      have ei : i0 = v := by rw [ev] at j1; exact (Option.some.inj j1).symm
      subst ei
      rw [e3, Option.bind_some]
      try dsimp only
      rw [if_neg (by decide), x603 h4.1, Option.bind_some]
      try dsimp only
      rw [ixa_n (by omega) (by omega), Option.bind_some, j2, e6, Option.bind_some, show nI k + 1 = nI (k + 1) from nI_add k 1, show nI (pSt s t G k).2 + 1 = nI ((pSt s t G k).2 + 1) from nI_add _ 1]
      refine ih w5 ⟨(hI.1.trans (o4.mono (fun x q => PL_PA q))).trans (o5.off (fun f x q => Or.inr (by omega)) (fun x q => q.elim)), h5, fun j hj => ?_⟩
      obtain ⟨i, i1, i2⟩ := b4 j hj
      exact ⟨i, i1, by rw [o5.2.2 408 (fun q => q)]; exact i2⟩

