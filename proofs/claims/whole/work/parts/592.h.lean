/-! undo, saveState, restoreState -/
def E31 (e : Nat) (c : Int32) : Prop := e = 3 ∧ c = 1
theorem f437 {w1 w2 : Wd} (f1 : FX w1) (r2 : Fr NS A437 w1 w2) : FX w2 := f1.fr r2 (fun p _ q => q) (fun p hp q => (by decide +kernel : ∀ p, p ∈ fet → p.1 ≠ 437) p hp q)
theorem b_undo {w : Wd} (h : Inv w) : Both (f_X12_undo Kc 0) (f_X13_undo Kc 415) E31 w := by
  obtain ⟨b, s, t, hv⟩ := h
  have hv' := hv
  obtain ⟨⟨c1, c2, c3, c4⟩, ⟨m, hs, p1, p2⟩, ⟨v, st, q1, q2⟩, o⟩ := hv
  have hb := c1.2.1.2.1
  cases m with
  | zero =>
    refine ⟨.inr 3, w, x_undo0 p1.1, fun w2 r2 => ?_⟩
    have f2 := f437 c1.1 r2
    have i2 : Inv w2 := Inv.fr ⟨b, s, t, hv'⟩ (r2.mono (fun _ _ q => q.elim) (fun x q => by unfold A437 at q; unfold TAa; omega)) f2
    exact ⟨0, _, m_undo0 (p2.fr r2 (fun q => q) (by unfold A437; omega)).1, i2.tl, rfl, rfl, tl_t⟩
  | succ m =>
    obtain ⟨w1, e1, r1, k1, hs1⟩ := x_undo c1 p1
    refine ⟨.inl (nI m), w1, e1, fun w2 r2 => ?_⟩
    have f2 := f437 k1.1 r2
    have r12 : Fr SUn (fun x => RG 73 x ∨ x = 437) w w2 := (r1.mono (fun _ _ q => q) (fun _ q => Or.inl q)).trans (r2.mono (fun _ _ q => q.elim) (fun _ q => Or.inr q))
    obtain ⟨w3, e3, r3, g3, H3, P3, ok3⟩ := m_undo (c2.fr r12 f2 (by unfold RG; omega) (by unfold RG; omega)) (p2.fr r12 (by unfold SUn RG; omega) (by unfold RG; omega))
    have r23 : Fr SMt (fun x => x = 418 ∨ x = 437) w1 w3 := (r2.mono (fun _ _ q => q.elim) (fun _ q => Or.inr q)).trans (r3.mono (fun _ _ q => q) (fun _ q => Or.inl q))
    have r13 : Fr (fun f x => SUn f x ∨ SMt f x) (fun x => RG 73 x ∨ x = 437 ∨ x = 418) w w3 := (r12.mono (fun _ _ q => Or.inl q) (fun x q => q.elim Or.inl (fun z => Or.inr (Or.inl z)))).trans (r3.mono (fun _ _ q => Or.inr q) (fun _ q => Or.inr (Or.inr q)))
    have ub := SU_rg hb
    refine ⟨nI m, w3, e3, ⟨b, s, hs m, ⟨k1.fr r23 H3.1 (fun f x q => ?_) (fun x q => ?_), H3, ok3, ?_⟩, ⟨m, hs, hs1.fr hb r23 H3.1 (fun f x q => ?_) (fun x q => ?_), P3⟩, ⟨v, st, q1.fr hb r13 H3.1 (fun f x q => ?_) (fun x q => ?_), q2.fr r13 (by unfold SUn SMt RG; omega) (by unfold RG; omega)⟩, o.fr hb r13 (fun f x q => ?_) (fun x q => ?_)⟩, (r3.2 437 (by omega)).2.1, rfl, g3⟩
    case refine_3 => rw [(r13.1 1315 415 (by unfold SUn SMt RG; omega)).1]; exact c4
    all_goals try simp only [SUn, SMt, RG] at q
    all_goals try unfold RG RB
    all_goals try unfold inU
    all_goals omega
theorem b_saveState {w : Wd} (h : Inv w) : Both0 (f_X12_saveState Kc 0) (f_X13_saveState Kc 415) w := by
  obtain ⟨b, s, t, ⟨c1, c2, c3, c4⟩, ⟨m, hs, p1, p2⟩, ⟨v, st, q1, q2⟩, o⟩ := h
  have hb := c1.2.1.2.1
  obtain ⟨w1, e1, r1, k1, s1⟩ := x_saveState c1
  obtain ⟨w2, e2, r2, H2, s2⟩ := m_saveState (c2.fr r1 k1.1 (by unfold RG; omega) (by unfold RG; omega)) c3
  have r12 : Fr (fun f x => (f = 1207 ∧ x = 0) ∨ RG 103 x ∨ SMs f x) (fun x => RG 103 x ∨ x = 422) w w2 := (r1.mono (fun _ _ q => q.elim Or.inl (fun z => Or.inr (Or.inl z))) (fun _ q => Or.inl q)).trans (r2.mono (fun _ _ q => Or.inr (Or.inr q)) (fun _ q => Or.inr q))
  have ub := SU_rg hb
  refine ⟨nI (t 0), w1, w2, e1, e2, ⟨b, s, t, ⟨k1.fr r2 H2.1 (fun f x q => ?_) (fun x q => ?_), H2, c3, ?_⟩, ⟨m, hs, p1.fr hb r12 H2.1 (fun f x q => ?_) (fun x q => ?_), p2.fr r12 (by unfold SMs RG; omega) (by unfold RG; omega)⟩, ⟨true, t, s1.fr hb r2 H2.1 (fun f x q => ?_) (fun x q => ?_), s2⟩, o.fr hb r12 (fun f x q => ?_) (fun x q => ?_)⟩⟩
  case refine_3 => rw [(r12.1 1315 415 (by unfold SMs RG; omega)).1]; exact c4
  all_goals try simp only [SMs, RG] at q
  all_goals try unfold RG RB
  all_goals try unfold inU
  all_goals omega
theorem b_restoreState {w : Wd} (h : Inv w) : Both (f_X12_restoreState Kc 0) (f_X13_restoreState Kc 415) E31 w := by
  obtain ⟨b, s, t, hv⟩ := h
  have hv' := hv
  obtain ⟨⟨c1, c2, c3, c4⟩, ⟨m, hs, p1, p2⟩, ⟨v, st, q1, q2⟩, o⟩ := hv
  have hb := c1.2.1.2.1
  cases v with
  | false =>
    refine ⟨.inr 3, w, x_restoreN q1.1, fun w2 r2 => ?_⟩
    have f2 := f437 c1.1 r2
    have i2 : Inv w2 := Inv.fr ⟨b, s, t, hv'⟩ (r2.mono (fun _ _ q => q.elim) (fun x q => by unfold A437 at q; unfold TAa; omega)) f2
    exact ⟨0, _, m_restoreN (q2.fr r2 (fun q => q) (by unfold A437; omega)).1, i2.tl, rfl, rfl, tl_t⟩
  | true =>
    obtain ⟨w1, e1, r1, k1, n1⟩ := x_restore c1 q1
    refine ⟨.inl (nI (st 0)), w1, e1, fun w2 r2 => ?_⟩
    have f2 := f437 k1.1 r2
    have r12 : Fr SUn (fun x => RG 73 x ∨ x = 437) w w2 := (r1.mono (fun _ _ q => q) (fun _ q => Or.inl q)).trans (r2.mono (fun _ _ q => q.elim) (fun _ q => Or.inr q))
    obtain ⟨w3, e3, r3, g3, H3, n3⟩ := m_restore (c2.fr r12 f2 (by unfold RG; omega) (by unfold RG; omega)) (q2.fr r12 (by unfold SUn RG; omega) (by unfold RG; omega))
    have r23 : Fr SMt (fun x => x = 418 ∨ x = 437) w1 w3 := (r2.mono (fun _ _ q => q.elim) (fun _ q => Or.inr q)).trans (r3.mono (fun _ _ q => q) (fun _ q => Or.inl q))
    have r13 : Fr (fun f x => SUn f x ∨ SMt f x) (fun x => RG 73 x ∨ x = 437 ∨ x = 418) w w3 := (r12.mono (fun _ _ q => Or.inl q) (fun x q => q.elim Or.inl (fun z => Or.inr (Or.inl z)))).trans (r3.mono (fun _ _ q => Or.inr q) (fun _ q => Or.inr (Or.inr q)))
    have ub := SU_rg hb
    have hs0 : HSx w1 b s 0 hs := p1.of73 hb r1 k1.1 (by omega) n1
    refine ⟨nI (st 0), w3, e3, ⟨b, s, st, ⟨k1.fr r23 H3.1 (fun f x q => ?_) (fun x q => ?_), H3, (q2.2 rfl).2.2, ?_⟩, ⟨0, hs, hs0.fr hb r23 H3.1 (fun f x q => ?_) (fun x q => ?_), n3, by omega, fun i hi => by omega⟩, ⟨true, st, q1.fr hb r13 H3.1 (fun f x q => ?_) (fun x q => ?_), q2.fr r13 (by unfold SUn SMt RG; omega) (by unfold RG; omega)⟩, o.fr hb r13 (fun f x q => ?_) (fun x q => ?_)⟩, (r3.2 437 (by omega)).2.1, rfl, g3⟩
    case refine_3 => rw [(r13.1 1315 415 (by unfold SUn SMt RG; omega)).1]; exact c4
    all_goals try simp only [SUn, SMt, RG] at q
    all_goals try unfold RG RB
    all_goals try unfold inU
    all_goals omega
