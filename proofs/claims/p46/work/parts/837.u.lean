variable {X : Kd}
def NS (_ _ : Nat) : Prop := False
theorem x_insert {w : Wd} {v : Option Nat} {m n K p : Nat} (hv : cha (Kx X) 20 v = some (m, 12)) (hn : n < 12) (hp : p ≤ n) (h1 : ∀ j, j < p → aI w m j ≤ nI K) (h2 : ∀ j, p ≤ j → j < n → ¬ (aI w m j ≤ nI K)) : ∃ w', f_X10_insert (Kx X) v (nI n) (nI K) w = some w' ∧ Ofi NS (fun x => x = m) w w' ∧ (∀ j, j < p → aI w' m j = aI w m j) ∧ aI w' m p = nI K ∧ ∀ j, p ≤ j → j < n → aI w' m (j + 1) = aI w m j := by
  unfold f_X10_insert
  have key : ∀ x f w1, p ≤ x → x ≤ n → x < f → Ofi NS (fun x => x = m) w w1 → (∀ j, j < x → aI w1 m j = aI w m j) → (∀ j, x ≤ j → j < n → aI w1 m (j + 1) = aI w m j) → ∃ w', f_X10_insert_L2 (Kx X) (fun v0_2 v1_2 v2_2 v3_2 w1 => (cha (Kx X) 20 v0_2).bind fun a9 => (ixa v3_2 a9.2).bind fun j10 => (some (tI w1 a9.1 j10 v2_2)).bind fun w11 => some w11) f v (nI n) (nI K) (nI x) w1 = some w' ∧ Ofi NS (fun x => x = m) w w' ∧ (∀ j, j < p → aI w' m j = aI w m j) ∧ aI w' m p = nI K ∧ ∀ j, p ≤ j → j < n → aI w' m (j + 1) = aI w m j := by
    intro x
    induction x with
    | zero =>
      intro f w1 hx1 hx2 hf o e1 e2
      obtain ⟨g, rfl⟩ : ∃ g, f = g + 1 := ⟨f - 1, by omega⟩
      have ep : p = 0 := by omega
      subst ep
      rw [f_X10_insert_L2]
      simp (disch := first | omega | assumption) only [il, Option.bind_some, ixa_n, nI_add, pk_mul, if_le_t, if_le_f, if_lt_t, if_lt_f, if_eq_t, if_eq_f, ↓ifb', hv]
      refine ⟨_, rfl, o.trans (ofi_tI rfl), fun j hj => by omega, ?_, fun j h3 h4 => ?_⟩
      · rw [aI_tI, if_pos ⟨rfl, rfl⟩]
      · rw [aI_tI, if_neg (by omega)]; exact e2 j h3 h4
    | succ x ih =>
      intro f w1 hx1 hx2 hf o e1 e2
      obtain ⟨g, rfl⟩ : ∃ g, f = g + 1 := ⟨f - 1, by omega⟩
      rw [f_X10_insert_L2]
      by_cases ep : p = x + 1
      · have q := h1 x (by omega)
        rw [← e1 x (by omega)] at q
        simp (disch := first | omega | assumption) only [il, Option.bind_some, ixa_n, nI_add, pk_mul, if_le_t, if_le_f, if_lt_t, if_lt_f, if_eq_t, if_eq_f, ↓ifb', hv, sub_nI, Nat.add_sub_cancel, if_pos q]
        refine ⟨_, rfl, o.trans (ofi_tI rfl), fun j hj => ?_, ?_, fun j h3 h4 => ?_⟩
        · rw [aI_tI, if_neg (by omega)]; exact e1 j (by omega)
        · rw [ep, aI_tI, if_pos ⟨rfl, rfl⟩]
        · rw [aI_tI, if_neg (by omega)]; exact e2 j (by omega) h4
      · have q := h2 x (by omega) (by omega)
        rw [← e1 x (by omega)] at q
        simp (disch := first | omega | assumption) only [il, Option.bind_some, ixa_n, nI_add, pk_mul, if_le_t, if_le_f, if_lt_t, if_lt_f, if_eq_t, if_eq_f, ↓ifb', hv, sub_nI, Nat.add_sub_cancel, if_neg q, nI_m1]
        refine ih g _ (by omega) (by omega) (by omega) (o.trans (ofi_tI rfl)) (fun j hj => ?_) (fun j h3 h4 => ?_)
        · rw [aI_tI, if_neg (by omega)]; exact e1 j (by omega)
        · rw [aI_tI]
          by_cases ej : j = x
          · rw [if_pos ⟨rfl, by omega⟩, ej]; exact e1 x (by omega)
          · rw [if_neg (by omega)]; exact e2 j (by omega) h4
  exact key n fu w hp (Nat.le_refl n) (fu_lt (by omega)) Ofi.rf (fun _ _ => rfl) (fun j h3 h4 => by omega)
theorem nI_leN {a b : Nat} (ha : a < 2 ^ 31) (hb : b < 2 ^ 31) : nI a ≤ nI b ↔ a ≤ b := nI_leI ha hb
def QSrt (n : Nat) (s t : Nat → Nat) (w : Wd) (m : Nat) (c : Nat) : Prop := n = cnt (wt t) c ∧ (∀ i, i < c → wt t i = true → aI w m (rk s t i c) = nI (kyN s t i)) ∧ ∀ j, j < n → ∃ i, i < c ∧ wt t i = true ∧ rk s t i c = j
theorem x_sortWaiting {w : Wd} {a b : Nat} {s t : Nat → Nat} (h : HX w a b s t) {v : Option Nat} {m : Nat} (hv : cha (Kx X) 20 v = some (m, 12)) (hm : 404 ≤ m) : ∃ w', f_X10_sortWaiting (Kx X) a v w = some (nI (cnt (wt t) (s 3)), w') ∧ Ofi NS (fun x => x = m) w w' ∧ ∀ k, k < cnt (wt t) (s 3) → ∃ i, urg s t k = some i ∧ aI w' m k = nI i := by
  have h12 := h.gs.1.2.2.2
  unfold f_X10_sortWaiting
  have fin : ∀ w1, Ofi NS (fun x => x = m) w w1 → QSrt (cnt (wt t) (s 3)) s t w1 m (s 3) → ∃ w', f_X10_sortWaiting_L55 (Kx X) a (fun v1_55 v2_55 v3_55 w13 => some (v2_55, w13)) fu v (nI (cnt (wt t) (s 3))) (nI 0) w1 = some (nI (cnt (wt t) (s 3)), w') ∧ Ofi NS (fun x => x = m) w w' ∧ ∀ k, k < cnt (wt t) (s 3) → ∃ i, urg s t k = some i ∧ aI w' m k = nI i := by
    intro w1 o1 Q1
    have hc := cnt_le (p := wt t) (s 3)
    have hQ : ∀ k, k < cnt (wt t) (s 3) → ∃ i, i < s 3 ∧ urg s t k = some i ∧ aI w1 m k = nI (kyN s t i) := fun k hk => by
      obtain ⟨i, i1, i2, i3⟩ := Q1.2.2 k hk
      refine ⟨i, i1, urg_at h.gs i1 i2 i3, ?_⟩
      rw [← i3]
      exact Q1.2.1 i i1 i2
    refine loop_q (fun f c w2 => f_X10_sortWaiting_L55 (Kx X) a (fun v1_55 v2_55 v3_55 w13 => some (v2_55, w13)) f v (nI (cnt (wt t) (s 3))) (nI c) w2) (fun c w2 => Ofi NS (fun x => x = m) w w2 ∧ (∀ k, c ≤ k → aI w2 m k = aI w1 m k) ∧ ∀ k, k < c → ∃ i, urg s t k = some i ∧ aI w2 m k = nI i) (fun r => ∃ w', r = some (nI (cnt (wt t) (s 3)), w') ∧ Ofi NS (fun x => x = m) w w' ∧ ∀ k, k < cnt (wt t) (s 3) → ∃ i, urg s t k = some i ∧ aI w' m k = nI i) (cnt (wt t) (s 3)) (fun f w2 hI => ?_) (fun f c w2 hcc hI ih => ?_) fu 0 w1 ⟨o1, fun _ _ => rfl, fun k hk => by omega⟩ (by omega) (fu_lt (by omega))
    · try dsimp only
      rw [f_X10_sortWaiting_L55]
      simp (disch := first | omega | assumption) only [il, Option.bind_some, ixa_n, nI_add, pk_mul, if_le_t, if_le_f, if_lt_t, if_lt_f, if_eq_t, if_eq_f, ↓ifb']
      exact ⟨w2, rfl, hI.1, hI.2.2⟩
    · try dsimp only at ih ⊢
      obtain ⟨i, i1, i2, i3⟩ := hQ c hcc
      have e1 : aI w2 m c = nI (kyN s t i) := by rw [hI.2.1 c (by omega)]; exact i3
      have e2 := kyN_lt h.gs h.gt i1
      have e3 := kyN_mod (s := s) (t := t) (i := i) (by omega)
      rw [f_X10_sortWaiting_L55, if_le_f (by omega) (by omega) hcc, hv, Option.bind_some]
      try dsimp only
      rw [ixa_n (by omega) (by omega), Option.bind_some, Option.bind_some, Option.bind_some, e1, show (12 : Int32) = nI 12 from rfl, rem_nI (by omega) (by omega) (by omega), e3, show nI c + 1 = nI (c + 1) from nI_add c 1]
      refine ih _ ⟨hI.1.trans (ofi_tI rfl), fun k hk => ?_, fun k hk => ?_⟩
      · rw [aI_tI, if_neg (by omega)]; exact hI.2.1 k (by omega)
      · by_cases ek : k = c
        · subst ek
          exact ⟨i, i2, by rw [aI_tI, if_pos ⟨rfl, rfl⟩]⟩
        · obtain ⟨i', i1', i2'⟩ := hI.2.2 k (by omega)
          exact ⟨i', i1', by rw [aI_tI, if_neg (by omega)]; exact i2'⟩
  refine loop_q (fun f c w1 => f_X10_sortWaiting_L4 (Kx X) a (fun v1_4 v2_4 v3_4 w1 => f_X10_sortWaiting_L55 (Kx X) a (fun v1_55 v2_55 v3_55 w13 => some (v2_55, w13)) fu v1_4 v2_4 0 w1) f v (nI (cnt (wt t) c)) (nI c) w1) (fun c w1 => Ofi NS (fun x => x = m) w w1 ∧ QSrt (cnt (wt t) c) s t w1 m c) (fun r => ∃ w', r = some (nI (cnt (wt t) (s 3)), w') ∧ Ofi NS (fun x => x = m) w w' ∧ ∀ k, k < cnt (wt t) (s 3) → ∃ i, urg s t k = some i ∧ aI w' m k = nI i) (s 3) (fun f w1 hI => ?_) (fun f c w1 hc hI ih => ?_) fu 0 w ⟨Ofi.rf, rfl, fun i hi => by omega, fun j hj => by simp [cnt, sm] at hj⟩ (by omega) (fu_lt (by omega))
  · have h1 := hI.1.HX h (fun _ _ q => q.elim) (fun x q => by omega)
    try dsimp only
    rw [f_X10_sortWaiting_L4, h1.su, Option.bind_some, show (3 : Int32) = nI 3 from rfl, x_size h1 (by omega), Option.bind_some, if_le_t (by omega) (by omega) (by omega)]
    exact fin w1 hI.1 hI.2
  · have h0 := h
    have h := hI.1.HX h0 (fun _ _ q => q.elim) (fun x q => by omega)
    have hcl := cnt_le (p := wt t) c
    have c3 := h.gt.c3 (i := c) (by omega)
    try dsimp only at ih ⊢
    rw [f_X10_sortWaiting_L4, h.su, Option.bind_some, show (3 : Int32) = nI 3 from rfl, x_size h (by omega), Option.bind_some, if_le_f (by omega) (by omega) hc, hv, Option.bind_some]
    try dsimp only
    rw [if_le_f (by omega) (by omega) (by omega), h.pg, Option.bind_some]
    try dsimp only
    rw [ixa_n (by omega) (by omega), Option.bind_some, h.pe (by omega), Option.bind_some, h.p0 (by omega), show (0 : Int32) = nI 0 from rfl]
    by_cases e : cs t c 0 = 0
    · have ew : wt t c = true := by simp [wt, e]
      have ky := kyN_lt h.gs h.gt hc
      rw [if_eq_t e, x_urgencyKey h hc, Option.bind_some]
      try dsimp only
      have hmn : ∀ i, i < c → kyN s t i ≠ kyN s t c := fun i hi q => by
        have q1 := kyN_mod (s := s) (t := t) (i := i) (by omega)
        have q2 := kyN_mod (s := s) (t := t) (i := c) (by omega)
        omega
      obtain ⟨w2, e2, o2, a1, a2, a3⟩ := x_insert (X := X) (w := w1) (n := cnt (wt t) c) (K := kyN s t c) (p := rk s t c c) hv (by omega) rk_wle (fun j hj => by
        obtain ⟨i, i1, i2, i3⟩ := hI.2.2.2 j (by have := rk_wle (s := s) (t := t) (i := c) (c := c); omega)
        have kyi := kyN_lt h.gs h.gt (i := i) (by omega)
        rw [← i3, hI.2.2.1 i i1 i2, nI_leN (by omega) (by omega)]
        by_cases q : kyN s t i ≤ kyN s t c
        · exact q
        · have := rk_le (s := s) (t := t) (i := c) (j := i) (c := c) (by omega)
          omega) (fun j hj hj2 => by
        obtain ⟨i, i1, i2, i3⟩ := hI.2.2.2 j hj2
        have kyi := kyN_lt h.gs h.gt (i := i) (by omega)
        rw [← i3, hI.2.2.1 i i1 i2, nI_leN (by omega) (by omega)]
        intro q
        have := rk_lt (s := s) (t := t) (i := i) (j := c) (c := c) i1 i2 (by have := hmn i i1; omega)
        omega)
      rw [e2, Option.bind_some, show nI (cnt (wt t) c) + 1 = nI (cnt (wt t) c + 1) from nI_add _ 1, show nI c + 1 = nI (c + 1) from nI_add c 1]
      have en : cnt (wt t) (c + 1) = cnt (wt t) c + 1 := by rw [cnt_succ, ew]; rfl
      have rs : ∀ i, i < c → wt t i = true → (kyN s t i < kyN s t c ∧ rk s t i (c + 1) = rk s t i c ∧ rk s t i c < rk s t c c) ∨ (kyN s t c < kyN s t i ∧ rk s t i (c + 1) = rk s t i c + 1 ∧ rk s t c c ≤ rk s t i c) := fun i hi hw => by
        rcases Nat.lt_or_gt_of_ne (hmn i hi) with q | q
        · exact Or.inl ⟨q, by rw [rk_succ, decide_eq_false (by omega), Bool.and_false]; rfl, rk_lt hi hw q⟩
        · exact Or.inr ⟨q, by rw [rk_succ, decide_eq_true (by omega), ew]; rfl, rk_le (by omega)⟩
      have rc : rk s t c (c + 1) = rk s t c c := by rw [rk_succ, decide_eq_false (by omega), Bool.and_false]; rfl
      rw [en] at ih
      refine ih _ ⟨hI.1.trans o2, en.symm, fun i hi hw => ?_, fun j hj => ?_⟩
      · by_cases ei : i = c
        · subst ei
          rw [rc]; exact a2
        · rcases rs i (by omega) hw with ⟨q1, q2, q3⟩ | ⟨q1, q2, q3⟩
          · rw [q2, a1 _ q3]; exact hI.2.2.1 i (by omega) hw
          · rw [q2, a3 _ q3 (rk_w (by omega) hw)]; exact hI.2.2.1 i (by omega) hw
      · by_cases ej : j = rk s t c c
        · exact ⟨c, by omega, ew, by rw [rc, ej]⟩
        · by_cases ej2 : j < rk s t c c
          · obtain ⟨i, i1, i2, i3⟩ := hI.2.2.2 j (by have := rk_wle (s := s) (t := t) (i := c) (c := c); omega)
            rcases rs i (by omega) i2 with ⟨q1, q2, q3⟩ | ⟨q1, q2, q3⟩
            · exact ⟨i, by omega, i2, by omega⟩
            · omega
          · obtain ⟨i, i1, i2, i3⟩ := hI.2.2.2 (j - 1) (by omega)
            rcases rs i (by omega) i2 with ⟨q1, q2, q3⟩ | ⟨q1, q2, q3⟩
            · omega
            · exact ⟨i, by omega, i2, by omega⟩
    · have ew : wt t c = false := by simp [wt, e]
      have en : cnt (wt t) (c + 1) = cnt (wt t) c := by rw [cnt_succ, ew]; rfl
      have rs : ∀ i, rk s t i (c + 1) = rk s t i c := fun i => by rw [rk_succ, ew]; rfl
      rw [if_eq_f (by omega) (by omega) e, show nI c + 1 = nI (c + 1) from nI_add c 1]
      rw [en] at ih
      refine ih _ ⟨hI.1, en.symm, fun i hi hw => ?_, fun j hj => ?_⟩
      · have hne : i ≠ c := fun q => by subst q; rw [ew] at hw; cases hw
        rw [rs]; exact hI.2.2.1 i (by omega) hw
      · obtain ⟨i, i1, i2, i3⟩ := hI.2.2.2 j hj
        exact ⟨i, by omega, i2, by rw [rs]; exact i3⟩

