/-! The reference's copies and its history. -/
theorem m_copies {w : Wd} {u v : Option Nat} {m1 m2 : Nat} (hu : cha Kc 20 u = some (m1, 370)) (hv : cha Kc 20 v = some (m2, 370)) (hne : m1 ≠ m2) : ∃ w', f_X13_copies Kc u v w = some w' ∧ Ofi NS (fun x => x = m2) w w' ∧ ∀ k, k < 370 → aI w' m2 k = aI w m1 k := by
  unfold f_X13_copies
  refine loop_q (fun n c w1 => f_X13_copies_L2 Kc (fun v0_2 v1_2 v2_2 w1 => some w1) n u v (nI c) w1) (fun c w1 => Ofi NS (fun x => x = m2) w w1 ∧ ∀ k, k < c → aI w1 m2 k = aI w m1 k) (fun r => ∃ w', r = some w' ∧ Ofi NS (fun x => x = m2) w w' ∧ ∀ k, k < 370 → aI w' m2 k = aI w m1 k) 370 (fun n w1 hI => ?_) (fun n c w1 hc hI ih => ?_) fu 0 w ⟨Ofi.rf, fun k hk => by omega⟩ (by omega) (fu_lt (by omega))
  · try dsimp only
    rw [f_X13_copies_L2]
    simp (disch := first | omega | assumption) only [il, Option.bind_some, ixa_n, nI_add, pk_mul, if_le_t, if_le_f, if_lt_t, if_lt_f, if_eq_t, if_eq_f, ↓ifb']
    exact ⟨w1, rfl, hI.1, hI.2⟩
  · try dsimp only at ih ⊢
    rw [f_X13_copies_L2]
    simp (disch := first | omega | assumption) only [il, Option.bind_some, ixa_n, nI_add, pk_mul, if_le_t, if_le_f, if_lt_t, if_lt_f, if_eq_t, if_eq_f, ↓ifb', hu, hv]
    refine ih _ ⟨hI.1.tIx, fun k hk => ?_⟩
    rw [aI_tI]
    by_cases e : k = c
    · rw [if_pos ⟨rfl, e⟩, e, hI.1.2.2 m1 hne]
    · rw [if_neg (fun q => e q.2)]; exact hI.2 k (by omega)
theorem m_starts {w : Wd} (h : FX w) : ∃ w', f_X13_starts Kc 415 w = some w' ∧ Ofi NS (fun x => x = 420) w w' ∧ ∀ k, k < 370 → aI w' 420 k = aI w 418 k := by
  obtain ⟨w1, e1, o1, q1⟩ := m_copies (w := w) (x1303 h) (x1305 h) (by omega)
  unfold f_X13_starts
  rw [e1, Option.bind_some]
  exact ⟨w1, rfl, o1, q1⟩
theorem m_keep1 {w : Wd} (h : FX w) {n : Nat} (hn : n < 8) (h9 : wI w 1309 415 = nI n) {k : Int32 → Wd → Option Wd} : ∃ w', f_X13_keeps_L52 Kc 415 k fu (nI 0) w = k (nI 370) w' ∧ Ofi NS (fun x => x = 423) w w' ∧ ∀ x, aI w' 423 x = if 370 * n ≤ x ∧ x < 370 * n + 370 then aI w 420 (x - 370 * n) else aI w 423 x := by
  refine loop_q (fun f c w1 => f_X13_keeps_L52 Kc 415 k f (nI c) w1) (fun c w1 => Ofi NS (fun x => x = 423) w w1 ∧ ∀ x, aI w1 423 x = if 370 * n ≤ x ∧ x < 370 * n + c then aI w 420 (x - 370 * n) else aI w 423 x) (fun r => ∃ w', r = k (nI 370) w' ∧ Ofi NS (fun x => x = 423) w w' ∧ ∀ x, aI w' 423 x = if 370 * n ≤ x ∧ x < 370 * n + 370 then aI w 420 (x - 370 * n) else aI w 423 x) 370 (fun f w1 hI => ?_) (fun f c w1 hc hI ih => ?_) fu 0 w ⟨Ofi.rf, fun x => by rw [if_neg (by omega)]⟩ (by omega) (fu_lt (by omega))
  · try dsimp only
    rw [f_X13_keeps_L52]
    simp (disch := first | omega | assumption) only [il, Option.bind_some, ixa_n, nI_add, pk_mul, if_le_t, if_le_f, if_lt_t, if_lt_f, if_eq_t, if_eq_f, ↓ifb']
    exact ⟨w1, rfl, hI.1, hI.2⟩
  · try dsimp only at ih ⊢
    have fx := hI.1.FX h
    have e9 : wI w1 1309 415 = nI n := (hI.1.2.1 _ _ (fun q => q)).trans h9
    rw [f_X13_keeps_L52]
    simp (disch := first | omega | assumption) only [il, Option.bind_some, ixa_n, nI_add, pk_mul, if_le_t, if_le_f, if_lt_t, if_lt_f, if_eq_t, if_eq_f, ↓ifb', x1305 fx, x1308 fx, e9]
    refine ih _ ⟨hI.1.tIx, fun x => ?_⟩
    rw [aI_tI]
    by_cases e : x = 370 * n + c
    · rw [if_pos ⟨rfl, e⟩, if_pos (by omega), hI.1.2.2 420 (by omega), e]
      congr 1
      omega
    · rw [if_neg (fun q => e q.2), hI.2 x]
      by_cases e2 : 370 * n ≤ x ∧ x < 370 * n + c
      · rw [if_pos e2, if_pos (by omega)]
      · rw [if_neg e2, if_neg (by omega)]
theorem m_keep8 {w : Wd} (h : FX w) {k : Int32 → Wd → Option Wd} : ∃ w', f_X13_keeps_L11 Kc 415 k fu (nI 0) w = k (nI 2590) w' ∧ Ofi NS (fun x => x = 423) w w' ∧ ∀ x, aI w' 423 x = if x < 2590 then aI w 423 (x + 370) else aI w 423 x := by
  refine loop_q (fun f c w1 => f_X13_keeps_L11 Kc 415 k f (nI c) w1) (fun c w1 => Ofi NS (fun x => x = 423) w w1 ∧ ∀ x, aI w1 423 x = if x < c then aI w 423 (x + 370) else aI w 423 x) (fun r => ∃ w', r = k (nI 2590) w' ∧ Ofi NS (fun x => x = 423) w w' ∧ ∀ x, aI w' 423 x = if x < 2590 then aI w 423 (x + 370) else aI w 423 x) 2590 (fun f w1 hI => ?_) (fun f c w1 hc hI ih => ?_) fu 0 w ⟨Ofi.rf, fun x => by rw [if_neg (by omega)]⟩ (by omega) (fu_lt (by omega))
  · try dsimp only
    rw [f_X13_keeps_L11]
    simp (disch := first | omega | assumption) only [il, Option.bind_some, ixa_n, nI_add, pk_mul, if_le_t, if_le_f, if_lt_t, if_lt_f, if_eq_t, if_eq_f, ↓ifb']
    exact ⟨w1, rfl, hI.1, hI.2⟩
  · try dsimp only at ih ⊢
    have fx := hI.1.FX h
    rw [f_X13_keeps_L11]
    simp (disch := first | omega | assumption) only [il, Option.bind_some, ixa_n, nI_add, pk_mul, if_le_t, if_le_f, if_lt_t, if_lt_f, if_eq_t, if_eq_f, ↓ifb', x1308 fx]
    refine ih _ ⟨hI.1.tIx, fun x => ?_⟩
    rw [aI_tI]
    by_cases e : x = c
    · rw [if_pos ⟨rfl, e⟩, if_pos (by omega), hI.2 (c + 370), if_neg (by omega), e]
    · rw [if_neg (fun q => e q.2), hI.2 x]
      by_cases e2 : x < c
      · rw [if_pos e2, if_pos (by omega)]
      · rw [if_neg e2, if_neg (by omega)]
def HN (f x : Nat) : Prop := x = 415 ∧ f = 1309
def A23 (x : Nat) : Prop := x = 423
theorem m_keeps {w : Wd} (h : FX w) {n : Nat} (hn : n < 8) (h9 : wI w 1309 415 = nI n) : ∃ w', f_X13_keeps Kc 415 w = some w' ∧ Ofi HN A23 w w' ∧ wI w' 1309 415 = nI (n + 1) ∧ ∀ x, aI w' 423 x = if 370 * n ≤ x ∧ x < 370 * n + 370 then aI w 420 (x - 370 * n) else aI w 423 x := by
  obtain ⟨w1, e1, o1, q1⟩ := m_keep1 h hn h9 (k := fun v1_52 w2 => (some (sI w2 1309 415 ((wI w2 1309 415) + 1))).bind fun w9 => some w9)
  have e9 : wI w1 1309 415 = nI n := (o1.2.1 _ _ (fun q => q)).trans h9
  unfold f_X13_keeps
  rw [h9, show (8 : Int32) = nI 8 from rfl, if_eq_f (by omega) (by omega) (by omega)]
  refine ⟨sI w1 1309 415 (nI (n + 1)), ?_, (o1.mono (fun _ _ q => q.elim) (fun _ q => q)).trans (ofi_sI ⟨rfl, rfl⟩), by rw [wI_sI, if_pos ⟨rfl, rfl⟩], fun x => by rw [aI_sI]; exact q1 x⟩
  refine e1.trans ?_
  rw [Option.bind_some, e9, show nI n + 1 = nI (n + 1) from nI_add n 1]
theorem m_keepsF {w : Wd} (h : FX w) (h9 : wI w 1309 415 = nI 8) : ∃ w', f_X13_keeps Kc 415 w = some w' ∧ Ofi HN A23 w w' ∧ wI w' 1309 415 = nI 8 ∧ ∀ x, aI w' 423 x = if x < 2590 then aI w 423 (x + 370) else if x < 2960 then aI w 420 (x - 2590) else aI w 423 x := by
  obtain ⟨w1, e1, o1, q1⟩ := m_keep8 h (k := fun v1_11 w10 => (some (sI w10 1309 415 ((wI w10 1309 415) - 1))).bind fun w16 => f_X13_keeps_L52 Kc 415 (fun v1_52 w17 => (some (sI w17 1309 415 ((wI w17 1309 415) + 1))).bind fun w18 => some w18) fu (nI 0) w16)
  have e9 : wI w1 1309 415 = nI 8 := (o1.2.1 _ _ (fun q => q)).trans h9
  have o2 : Ofi HN A23 w (sI w1 1309 415 (nI 7)) := (o1.mono (fun _ _ q => q.elim) (fun _ q => q)).trans (ofi_sI ⟨rfl, rfl⟩)
  obtain ⟨w3, e3, o3, q3⟩ := m_keep1 (w := sI w1 1309 415 (nI 7)) (o2.FX h) (n := 7) (by omega) (by rw [wI_sI, if_pos ⟨rfl, rfl⟩]) (k := fun v1_52 w17 => (some (sI w17 1309 415 ((wI w17 1309 415) + 1))).bind fun w18 => some w18)
  have e93 : wI w3 1309 415 = nI 7 := (o3.2.1 _ _ (fun q => q)).trans (by rw [wI_sI, if_pos ⟨rfl, rfl⟩])
  unfold f_X13_keeps
  rw [h9, show (8 : Int32) = nI 8 from rfl, if_eq_t rfl]
  refine ⟨sI w3 1309 415 (nI 8), ?_, (o2.trans (o3.mono (fun _ _ q => q.elim) (fun _ q => q))).trans (ofi_sI ⟨rfl, rfl⟩), by rw [wI_sI, if_pos ⟨rfl, rfl⟩], fun x => ?_⟩
  · refine e1.trans ?_
    rw [Option.bind_some, e9, show nI 8 - 1 = nI 7 from sub_nI (a := 8) (b := 1) (by omega), e3, Option.bind_some, e93]
    rfl
  · rw [aI_sI, q3 x, aI_sI, aI_sI, q1 x, o1.2.2 420 (by omega)]
    by_cases x1 : x < 2590
    · rw [if_neg (by omega), if_pos x1, if_pos x1]
    · rw [if_neg x1, if_neg x1]
      by_cases x2 : x < 2960
      · rw [if_pos (by omega), if_pos x2]
      · rw [if_neg (by omega), if_neg x2]
