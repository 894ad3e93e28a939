/-! The reference goes back. -/
theorem m_back {w : Wd} (h : FX w) {n : Nat} (hn : n < 8) (h9 : wI w 1309 415 = nI n) {k : Int32 → Wd → Option (Int32 × Wd)} : ∃ w', f_X13_undo_L33 Kc 415 k fu (nI 0) w = k (nI 370) w' ∧ Ofi NS (fun x => x = 418) w w' ∧ ∀ x, x < 370 → aI w' 418 x = aI w 423 (370 * n + x) := by
  refine loop_q (fun f c w1 => f_X13_undo_L33 Kc 415 k f (nI c) w1) (fun c w1 => Ofi NS (fun x => x = 418) w w1 ∧ ∀ x, x < c → aI w1 418 x = aI w 423 (370 * n + x)) (fun r => ∃ w', r = k (nI 370) w' ∧ Ofi NS (fun x => x = 418) w w' ∧ ∀ x, x < 370 → aI w' 418 x = aI w 423 (370 * n + x)) 370 (fun f w1 hI => ?_) (fun f c w1 hc hI ih => ?_) fu 0 w ⟨Ofi.rf, fun x hx => by omega⟩ (by omega) (fu_lt (by omega))
  · try dsimp only
    rw [f_X13_undo_L33]
    simp (disch := first | omega | assumption) only [il, Option.bind_some, ixa_n, nI_add, pk_mul, if_le_t, if_le_f, if_lt_t, if_lt_f, if_eq_t, if_eq_f, ↓ifb']
    exact ⟨w1, rfl, hI.1, hI.2⟩
  · try dsimp only at ih ⊢
    have fx := hI.1.FX h
    have e9 : wI w1 1309 415 = nI n := (hI.1.2.1 _ _ (fun q => q)).trans h9
    rw [f_X13_undo_L33]
    simp (disch := first | omega | assumption) only [il, Option.bind_some, ixa_n, nI_add, pk_mul, if_le_t, if_le_f, if_lt_t, if_lt_f, if_eq_t, if_eq_f, ↓ifb', x1303 fx, x1308 fx, e9]
    refine ih _ ⟨hI.1.tIx, fun x hx => ?_⟩
    rw [aI_tI]
    by_cases e : x = c
    · rw [if_pos ⟨rfl, e⟩, e, hI.1.2.2 423 (by omega)]
    · rw [if_neg (fun q => e q.2)]; exact hI.2 x (by omega)
theorem m_tries {w : Wd} (h : FX w) : ∃ w', f_X13_tries Kc 415 w = some w' ∧ Ofi NS (fun x => x = 421) w w' ∧ ∀ k, k < 370 → aI w' 421 k = aI w 418 k := by
  obtain ⟨w1, e1, o1, q1⟩ := m_copies (w := w) (x1303 h) (x1306 h) (by omega)
  unfold f_X13_tries
  rw [e1, Option.bind_some]
  exact ⟨w1, rfl, o1, q1⟩
theorem m_laysBack {w : Wd} (h : FX w) {g : Int32} : ∃ w', f_X13_laysBack Kc 415 g w = some (g, w') ∧ Ofi NS (fun x => x = 418) w w' ∧ ∀ k, k < 370 → aI w' 418 k = aI w 421 k := by
  obtain ⟨w1, e1, o1, q1⟩ := m_copies (w := w) (x1306 h) (x1303 h) (by omega)
  unfold f_X13_laysBack
  rw [e1, Option.bind_some]
  exact ⟨w1, rfl, o1, q1⟩
