/-! Calls that change the calendar. -/
abbrev Cv (w : Wd) (b : Nat) (s t : Nat → Nat) : Prop := Cor w b s t ∧ HS w b s ∧ SV w b s ∧ Otr w b s
theorem Bfail {α : Type} {X : Wd → Option ((α ⊕ Nat) × Wd)} {M : Wd → Option (α × Wd)} {E : Nat → Int32 → Prop} {w : Wd} {b : Nat} {s t : Nat → Nat} (hv : Cv w b s t) {e : Nat} {w1 : Wd} (ex : X w = some (.inr e, w1)) (r1 : Fr TSx TAx w w1) (f1 : FX w1) (hm : ∀ u0, HM u0 s t → wI u0 1315 415 = -nI 1 → ∃ v c, M u0 = some (v, sI u0 1300 415 c) ∧ E e c) : Both X M E w := by
  obtain ⟨⟨c1, c2, c3, c4⟩, ⟨m, hs, p1, p2⟩, ⟨v, st, q1, q2⟩, o⟩ := hv
  refine ⟨.inr e, w1, ex, fun w2 r2 => ?_⟩
  have f2 : FX w2 := f1.fr r2 (fun p _ q => q) (fun p hp q => (by decide +kernel : ∀ p, p ∈ fet → p.1 ≠ 437) p hp q)
  have r12 : Fr TSx (fun x => TAx x ∨ x = 437) w w2 := (r1.mono (fun _ _ q => q) (fun _ q => Or.inl q)).trans (r2.mono (fun _ _ q => q.elim) (fun _ q => Or.inr q))
  have h2 := c2.fr r12 f2 (by unfold TAx; omega) (by unfold TAx; omega)
  have g2 : wI w2 1315 415 = -nI 1 := by rw [(r12.1 1315 415 (by unfold TSx; omega)).1]; exact c4
  obtain ⟨v2, c, e3, z⟩ := hm w2 h2 g2
  have ub := SU_rg c1.2.1.2.1
  have r13 : Fr (fun f x => TSx f x ∨ (x = 415 ∧ f = 1300)) (fun x => TAx x ∨ x = 437) w (sI w2 1300 415 c) := (r12.mono (fun _ _ q => Or.inl q) (fun _ q => q)).trans (fr_sI (Or.inr ⟨rfl, rfl⟩))
  refine ⟨v2, sI w2 1300 415 c, e3, ⟨b, s, t, ⟨c1.fr r13 f2.sI (fun f x q => ?_) (fun x q => ?_), h2.tl, c3, tl_g g2⟩, ⟨m, hs, p1.fr c1.2.1.2.1 r13 f2.sI (fun f x q => ?_) (fun x q => ?_), p2.fr r13 (by unfold TSx; omega) (by unfold TAx; omega)⟩, ⟨v, st, q1.fr c1.2.1.2.1 r13 f2.sI (fun f x q => ?_) (fun x q => ?_), q2.fr r13 (by unfold TSx; omega) (by unfold TAx; omega)⟩, o.fr c1.2.1.2.1 r13 (fun f x q => ?_) (fun x q => ?_)⟩, rfl, by rw [tl_t]; exact z⟩
  all_goals simp only [TSx, TAx] at q
  all_goals try unfold RG RB
  all_goals try unfold inU
  all_goals omega
def MX (f x : Nat) : Prop := RG 73 x ∨ (404 ≤ x ∧ x < 414)
def MA (x : Nat) : Prop := RG 73 x ∨ (404 ≤ x ∧ x < 414)
theorem Bmut {α : Type} {X : Wd → Option ((α ⊕ Nat) × Wd)} {M : Wd → Option (α × Wd)} {E : Nat → Int32 → Prop} {w wp : Wd} {b : Nat} {s t t' : Nat → Nat} {a : α} (hv : Cv w b s t) (rp : Fr TSx TAx w wp) (fp : FX wp) (hp : POK s t')
    (hX : ∀ w1, f_X12_remember Kc 0 wp = some w1 → HX w1 73 b s t → Fr SRm ARm wp w1 → ∃ w2, X w = some (.inl a, w2) ∧ HX w2 73 b s t' ∧ Fr MX MA w1 w2)
    (hM : ∀ u0, HM u0 s t → wI u0 1315 415 = -nI 1 → ∃ v u1, HM u1 s t' ∧ Fr TSm TAm u0 u1 ∧ wI u1 1300 415 = 0 ∧ wI u1 1315 415 = -nI 1 ∧ (∀ k, k < 370 → aI u1 420 k = aI u0 418 k) ∧ ∀ u2, f_X13_done Kc 415 v u1 = some (v, u2) → M u0 = some (a, u2)) : Both X M E w := by
  obtain ⟨⟨c1, c2, c3, c4⟩, ⟨m, hs, p1, p2⟩, ⟨v, st, q1, q2⟩, o⟩ := hv
  have hb := c1.2.1.2.1
  have ub := SU_rg hb
  have cp := tx73 c1 rp fp
  have hp1 : HSx wp b s m hs := p1.fr hb rp fp (fun f x q => by unfold TSx at q; unfold inU; omega) (fun x q => by unfold TAx at q; unfold inU; omega)
  obtain ⟨w1, e1, r1, k1, hs1⟩ := x_remember cp hp1
  obtain ⟨w2, e2, k2, r2⟩ := hX w1 e1 k1 r1
  have hs2 : HSx w2 b s (rmM m) (rmH m hs t) := hs1.fr hb r2 k2.1 (fun f x q => by unfold MX RG at q; unfold inU; omega) (fun x q => by unfold MA RG at q; unfold inU; omega)
  refine ⟨.inl a, w2, e2, fun u0 r3 => ?_⟩
  have f0 : FX u0 := k2.1.fr r3 (fun p _ q => q) (fun p hp q => (by decide +kernel : ∀ p, p ∈ fet → p.1 ≠ 437) p hp q)
  have R0 : Fr (fun f x => (f = 1210 ∧ x = 0) ∨ (73 ≤ x ∧ x < 103) ∨ (133 ≤ x ∧ x < 414)) (fun x => (73 ≤ x ∧ x < 103) ∨ (133 ≤ x ∧ x < 414) ∨ x = 437) w u0 := ((rp.mono (fun f x q => by unfold TSx at q; omega) (fun x q => by unfold TAx at q; omega)).trans (r1.mono (fun f x q => by unfold SRm at q; omega) (fun x q => by unfold ARm at q; omega))).trans ((r2.mono (fun f x q => by unfold MX RG at q; omega) (fun x q => by unfold MA RG at q; omega)).trans (r3.mono (fun _ _ q => q.elim) (fun x q => Or.inr (Or.inr q))))
  have H0 := c2.fr R0 f0 (by omega) (by omega)
  have G0 : wI u0 1315 415 = -nI 1 := by rw [(R0.1 1315 415 (by omega)).1]; exact c4
  have P0 := p2.fr R0 (by omega) (by omega)
  obtain ⟨v', u1, H1, r4, g0, G1, l1, done⟩ := hM u0 H0 G0
  obtain ⟨u2, e5, r5, H2, P2⟩ := m_commit (v := v') H0 c3 P0 H1 (by rw [(r4.1 1309 415 (by unfold TSm; omega)).1]) (by rw [(r4.2 423 (by unfold TAm; omega)).1]) l1
  have R2 : Fr (fun f x => x = 415 ∧ f < 1320 ∧ f ≠ 1310) (fun x => (417 ≤ x ∧ x < 422) ∨ (428 ≤ x ∧ x < 431) ∨ x = 423) u0 u2 := (r4.mono (fun f x q => by unfold TSm at q; omega) (fun x q => by unfold TAm at q; omega)).trans (r5.mono (fun f x q => by unfold HN at q; omega) (fun x q => by unfold A23 at q; omega))
  have R3 : Fr (fun f x => x = 415 ∧ f < 1320 ∧ f ≠ 1310) (fun x => (417 ≤ x ∧ x < 422) ∨ (428 ≤ x ∧ x < 431) ∨ x = 423 ∨ x = 437) w2 u2 := (r3.mono (fun _ _ q => q.elim) (fun x q => Or.inr (Or.inr (Or.inr q)))).trans (R2.mono (fun _ _ q => q) (fun x q => by omega))
  have R4 : Fr (fun f x => (f = 1210 ∧ x = 0) ∨ (73 ≤ x ∧ x < 103) ∨ (133 ≤ x ∧ x < 414) ∨ (x = 415 ∧ f < 1320 ∧ f ≠ 1310)) (fun x => (73 ≤ x ∧ x < 103) ∨ (133 ≤ x ∧ x < 414) ∨ (417 ≤ x ∧ x < 422) ∨ (428 ≤ x ∧ x < 431) ∨ x = 423 ∨ x = 437) w u2 := (R0.mono (fun f x q => by omega) (fun x q => by omega)).trans (R2.mono (fun f x q => by omega) (fun x q => by omega))
  refine ⟨a, u2, done u2 e5, ⟨b, s, t', ⟨k2.fr R3 H2.1 (fun f x q => ?_) (fun x q => ?_), H2, hp, by rw [(r5.1 1315 415 (by unfold HN; omega)).1]; exact G1⟩, ⟨_, _, hs2.fr hb R3 H2.1 (fun f x q => ?_) (fun x q => ?_), P2⟩, ⟨v, st, q1.fr hb R4 H2.1 (fun f x q => ?_) (fun x q => ?_), q2.fr R4 (by omega) (by omega)⟩, o.fr hb R4 (fun f x q => ?_) (fun x q => ?_)⟩, (R2.2 437 (by omega)).2.1, rfl, by rw [(r5.1 1300 415 (by unfold HN; omega)).1]; exact g0⟩
  all_goals try unfold RG RB
  all_goals try unfold inU
  all_goals omega
/-! the reference's start of a change -/
theorem m_begin {u0 : Wd} {s t : Nat → Nat} (h : HM u0 s t) : ∃ u1, f_X13_starts Kc 415 (sI u0 1300 415 0) = some u1 ∧ Fr TSm TAm u0 u1 ∧ HM u1 s t ∧ wI u1 1300 415 = 0 ∧ wI u1 1315 415 = wI u0 1315 415 ∧ ∀ k, k < 370 → aI u1 420 k = aI u0 418 k := by
  obtain ⟨u1, e1, o1, q1⟩ := m_starts (w := sI u0 1300 415 0) h.1.sI
  refine ⟨u1, e1, (fr_sI ⟨rfl, Or.inl rfl⟩).trans (o1.fr.mono (fun _ _ q => q.elim) (fun x q => by unfold TAm; omega)), o1.HM h.tl (by omega) (by omega), by rw [o1.2.1 _ _ (fun q => q), tl_t], by rw [o1.2.1 _ _ (fun q => q), wI_sI, if_neg (by omega)], q1⟩
