/-! The reference's days, one after another. -/
theorem cnt_z {p : Nat → Bool} : ∀ n, (∀ j, j < n → p j = false) → cnt p n = 0
  | 0, _ => rfl
  | n + 1, h => by
    rw [cnt_succ, cnt_z n (fun j h1 => h j (by omega)), h n (by omega)]
    rfl
theorem fin_0 {s t : Nat → Nat} (hP : PlanOK t) {i : Nat} (hi : i < 12) : fin s t 0 i = cs t i 0 := by
  unfold fin
  rw [if_neg (fun q => by have := hP i hi q.2.1; omega), if_neg (fun q => by omega)]
theorem hdN_0 {s t : Nat → Nat} (hP : PlanOK t) (h12 : s 3 ≤ 12) : hdN s t 0 = 0 := cnt_z _ (fun i hi => by
  cases e : (cs t i 0 == 1)
  · rfl
  · have := hP i (by omega) (by simpa using e)
    rw [Bool.true_and, decide_eq_false (by omega)])
theorem hdN_le {s t : Nat → Nat} {n : Nat} : hdN s t n ≤ s 3 := cnt_le _
theorem phT_fin0 {s t : Nat → Nat} (hP : PlanOK t) {x : Nat} (hx : x < 370) : phT t (t 0 + 0) (fin s t 0) x = t x := by
  unfold phT
  by_cases x0 : x = 0
  · rw [if_pos x0, x0, Nat.add_zero]
  · rw [if_neg x0]
    by_cases x1 : 46 ≤ x ∧ (x - 46) % 27 = 0
    · rw [if_pos x1, fin_0 hP (by omega)]
      unfold cs
      congr 1
      omega
    · rw [if_neg x1]
theorem m_passesAll {w : Wd} {s t : Nat → Nat} (h : HM w s t) (hP : PlanOK t) {n : Nat} (hn : t 0 + n < 600) : ∃ w', f_X13_passesAll Kc 415 (nI n) w = some (nI (hdN s t n), w') ∧ HM w' s (phT t (t 0 + n) (fin s t n)) ∧ Ofi NS (fun x => x = 418) w w' := by
  have h12 := h.gs.1.2.2.2
  have hT := h.gt
  have st : HM w s (phT t (t 0 + 0) (fin s t 0)) := (h.hr.eqv (fun x hx => phT_fin0 hP hx)).hm h.gs (phT_good hT (by omega) (fin_PH hT 0))
  have z0 := hdN_0 (s := s) hP h12
  suffices main : ∃ w', f_X13_passesAll_L4 Kc 415 (fun v1_4 v2_4 v3_4 w1 => some (v2_4, w1)) fu (nI n) (nI (hdN s t 0)) (nI 0) w = some (nI (hdN s t n), w') ∧ HM w' s (phT t (t 0 + n) (fin s t n)) ∧ Ofi NS (fun x => x = 418) w w' by
    rw [z0] at main
    exact main
  refine loop_q (fun f k w1 => f_X13_passesAll_L4 Kc 415 (fun v1_4 v2_4 v3_4 w1 => some (v2_4, w1)) f (nI n) (nI (hdN s t k)) (nI k) w1) (fun k w1 => HM w1 s (phT t (t 0 + k) (fin s t k)) ∧ Ofi NS (fun x => x = 418) w w1) (fun r => ∃ w', r = some (nI (hdN s t n), w') ∧ HM w' s (phT t (t 0 + n) (fin s t n)) ∧ Ofi NS (fun x => x = 418) w w') n (fun f w1 hI => ?_) (fun f k w1 hk hI ih => ?_) fu 0 w ⟨st, Ofi.rf⟩ (by omega) (fu_lt (by omega))
  · try dsimp only
    rw [f_X13_passesAll_L4, if_le_t (by omega) (by omega) (Nat.le_refl _)]
    exact ⟨w1, rfl, hI.1, hI.2⟩
  · try dsimp only at ih ⊢
    obtain ⟨w2, e2, h2, o2⟩ := m_passes hI.1 hT (fin_PH hT k) (by omega)
    rw [fin_s] at h2
    rw [hdN_s] at ih
    rw [f_X13_passesAll_L4, if_le_f (by omega) (by omega) hk, e2, Option.bind_some]
    try dsimp only
    rw [nI_add, show nI k + 1 = nI (k + 1) from nI_add k 1]
    exact ih w2 ⟨h2, hI.2.trans o2⟩
