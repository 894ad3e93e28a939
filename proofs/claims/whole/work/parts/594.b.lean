/-! feed and truncate keep what holds -/
def SB2 (f x : Nat) : Prop := (x = 0 ∧ f = 1201) ∨ (x = 415 ∧ (f = 1300 ∨ (1324 ≤ f ∧ f < 1331)))
def AB2 (x : Nat) : Prop := x = 35 ∨ x = 431 ∨ x = 437
theorem tl_o {w : Wd} {c : Int32} {f x : Nat} (h : f ≠ 1300) : wI (sI w 1300 415 c) f x = wI w f x := by rw [wI_sI, if_neg (fun q => h q.1)]
theorem invBuf {w w' : Wd} (h : Inv w) (k : Fr SB2 AB2 w w') (hf : FX w') (hb : BF w') : Inv w' := by
  obtain ⟨b, s, t, ⟨c1, c2, c3, c4⟩, ⟨m, hs, p1, p2⟩, ⟨v, st, q1, q2⟩, ⟨⟨b2, z1, z2, z3⟩, _, ⟨n2, ot, r1, r2, r3⟩, e, nm, n3, n4, n5⟩⟩ := h
  have hbs := c1.2.1.2.1
  have ub := SU_rg hbs
  refine ⟨b, s, t, ⟨c1.fr k hf (fun f x q => ?_) (fun x q => ?_), c2.fr k hf (by unfold AB2; omega) (by unfold AB2; omega), c3, by rw [(k.1 1315 415 (by unfold SB2; omega)).1]; exact c4⟩, ⟨m, hs, p1.fr hbs k hf (fun f x q => ?_) (fun x q => ?_), p2.fr k (by unfold SB2; omega) (by unfold AB2; omega)⟩, ⟨v, st, q1.fr hbs k hf (fun f x q => ?_) (fun x q => ?_), q2.fr k (by unfold SB2; omega) (by unfold AB2; omega)⟩, ⟨b2, z1, z2, by rw [(k.1 501 36 (by unfold SB2; omega)).2.1]; exact z3⟩, hb, ⟨n2, ot, r1, ⟨by rw [(k.1 1215 0 (by unfold SB2; omega)).1]; exact r2.1, fun i hi => by rw [(k.2 414 (by unfold AB2; omega)).1]; exact r2.2 i hi⟩, by rw [(k.1 1338 415 (by unfold SB2; omega)).1]; exact r3.1, fun i hi => by rw [(k.2 436 (by unfold AB2; omega)).1]; exact r3.2 i hi⟩, ⟨by rw [(k.1 1203 0 (by unfold SB2; omega)).1, (k.1 1331 415 (by unfold SB2; omega)).1]; exact e.1, by rw [(k.1 1204 0 (by unfold SB2; omega)).1, (k.1 1332 415 (by unfold SB2; omega)).1]; exact e.2⟩, nm, n3, fun x i hx hi => ?_, fun x i hx hi => ?_⟩
  case refine_7 => rw [(k.2 (b + 15 + 2 * x) (by unfold AB2; omega)).2.1]; exact n4 x i hx hi
  case refine_8 => rw [(k.2 (424 + x) (by unfold AB2; omega)).2.1]; exact n5 x i hx hi
  all_goals try simp only [SB2, AB2] at q
  all_goals try unfold RG RB
  all_goals try unfold inU
  all_goals omega
theorem b_feed {w : Wd} (h : Inv w) (a b c d e : Int32) : Both0 (f_X12_feed Kc 0 a b c d e) (f_X13_feed Kc 415 a b c d e) w := by
  obtain ⟨bb, s, t, hv⟩ := id h
  obtain ⟨n, bf, p0, p1, p2⟩ := hv.2.2.2.2.1
  have hf := hv.1.1.1
  by_cases hn : n + 20 ≤ 900
  · obtain ⟨w1, e1, o1, n1, q1⟩ := x_feed (a := a) (b := b) (c := c) (d := d) (e := e) hf p1.1 hn
    have f1 := o1.FX hf
    obtain ⟨w2, e2, o2, n2, q2⟩ := m_feedL (w := sI w1 1300 415 0) (n := n) (a := a) (b := b) (c := c) (d := d) (e := e) f1.sI (by rw [wI_sI, if_neg (by omega), o1.2.1 1324 415 (by unfold SBu; omega)]; exact p2.1) hn
    have k : Fr SB2 AB2 w w2 := ((o1.fr.mono (fun f x q => by unfold SBu at q; unfold SB2; omega) (fun x q => Or.inl q)).trans (fr_sI (Or.inr ⟨rfl, Or.inl rfl⟩))).trans (o2.fr.mono (fun f x q => by unfold SBm at q; unfold SB2; omega) (fun x q => Or.inr (Or.inl q)))
    refine ⟨nI (n + 20), w1, w2, e1, ?_, invBuf h k (o2.FX f1.sI) ⟨n + 20, fun j => if n ≤ j then fdB a b c d e (j - n) else bf j, ⟨by omega, fun j hj => ?_⟩, ⟨by rw [o2.2.1 1201 0 (by unfold SBm; omega), tl_o (by omega)]; exact n1, fun j hj => ?_⟩, n2, fun j hj => ?_⟩⟩
    · unfold f_X13_feed
      rw [Option.bind_some, tl_o (by omega), o1.2.1 1324 415 (by unfold SBu; omega), p2.1, show (20 : Int32) = nI 20 from rfl, show (900 : Int32) = nI 900 from rfl, nI_add, if_le_t (by omega) (by omega) hn]
      exact e2
    · dsimp only
      split
      · exact byB_rg _
      · exact p0.2 j (by omega)
    · dsimp only
      rw [o2.2.2 35 (by omega), aI_sI, q1 j]
      by_cases e3 : n ≤ j
      · rw [if_pos ⟨e3, hj⟩, if_pos e3]
      · rw [if_neg (fun q => e3 q.1), if_neg e3]
        exact p1.2 j (by omega)
    · dsimp only
      rw [q2 j]
      by_cases e3 : n ≤ j
      · rw [if_pos ⟨e3, hj⟩, if_pos e3]
      · rw [if_neg (fun q => e3 q.1), if_neg e3, aI_sI, o1.2.2 431 (by omega)]
        exact p2.2 j (by omega)
  · refine Both0.r h (a := -1) ?_ ?_
    · unfold f_X12_feed
      have n9 := p0.1
      rw [p1.1, show (20 : Int32) = nI 20 from rfl, show (900 : Int32) = nI 900 from rfl, nI_add, if_le_f (by omega) (by omega) (by omega)]
    · unfold f_X13_feed
      have n9 := p0.1
      rw [Option.bind_some, tl_o (by omega), p2.1, show (20 : Int32) = nI 20 from rfl, show (900 : Int32) = nI 900 from rfl, nI_add, if_le_f (by omega) (by omega) (by omega)]
theorem b_truncate {w : Wd} (h : Inv w) (x : Int32) : Both0 (f_X12_truncate Kc 0 x) (f_X13_truncate Kc 415 x) w := by
  obtain ⟨bb, s, t, hv⟩ := id h
  obtain ⟨n, bf, p0, p1, p2⟩ := hv.2.2.2.2.1
  have hf := hv.1.1.1
  have n9 := p0.1
  have mT : ∀ w1, wI w1 1324 415 = nI n → f_X13_truncate Kc 415 x w1 = if inR x (n + 1) then some (true, sI (sI w1 1300 415 0) 1324 415 x) else some (false, sI w1 1300 415 0) := fun w1 h1 => by
    unfold f_X13_truncate
    rw [Option.bind_some, tl_o (by omega), h1, isIn_n (n := n + 1) (by rw [i64_nI (by omega)]; omega), Option.bind_some]
    try dsimp only
    by_cases e : inR x (n + 1)
    · rw [decide_eq_true e, ib_t, if_pos e, Option.bind_some]
    · rw [decide_eq_false e, ib_f, if_neg e]
  by_cases e : inR x (n + 1)
  · obtain ⟨k, hk, rfl⟩ := inR_nI e
    have kf : Fr SB2 AB2 w (sI (sI (sI w 1201 0 (nI k)) 1300 415 0) 1324 415 (nI k)) := ((fr_sI (Or.inl ⟨rfl, rfl⟩)).trans (fr_sI (Or.inr ⟨rfl, Or.inl rfl⟩))).trans (fr_sI (Or.inr ⟨rfl, Or.inr ⟨by omega, by omega⟩⟩))
    refine ⟨true, sI w 1201 0 (nI k), sI (sI (sI w 1201 0 (nI k)) 1300 415 0) 1324 415 (nI k), ?_, ?_, invBuf h kf hf.sI.sI.sI ⟨k, bf, ⟨by omega, fun j hj => p0.2 j (by omega)⟩, ⟨by rw [wI_sI, if_neg (by omega), wI_sI, if_neg (by omega), wI_sI, if_pos ⟨rfl, rfl⟩], fun j hj => p1.2 j (by omega)⟩, by rw [wI_sI, if_pos ⟨rfl, rfl⟩], fun j hj => p2.2 j (by omega)⟩⟩
    · unfold f_X12_truncate
      rw [if_neg (fun q => by have := lt0.mp q; have := e.1; omega), p1.1, if_le_t (by omega) (by omega) (by omega), Option.bind_some]
    · rw [mT _ (by rw [wI_sI, if_neg (by omega)]; exact p2.1), if_pos e]
  · refine Both0.r h (a := false) ?_ ?_
    · unfold f_X12_truncate
      by_cases e2 : x < 0
      · rw [if_pos e2]
      · rw [if_neg e2, p1.1, if_neg (fun q => e ⟨by have : ¬ x.toInt < 0 := fun z => e2 (lt0.mpr z); omega, by have := (len (n := n) (by omega)).mp q; omega⟩)]
    · rw [mT w p2.1, if_neg e]
