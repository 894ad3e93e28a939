/-! usage -/
theorem pop_msk : ∀ lo, lo < 8 → ∀ hi, hi < 8 → lo ≤ hi → popN (msk lo hi) = hi - lo + 1 := by decide +kernel

theorem tknN_4 {s t : Nat → Nat} (hS : GoodS s) {r p q : Nat} : tknN s t r p q (s 3) ≤ s 3 * 4 := sm_le' (s 3) (fun i hi => by
  have := (hS.ln hi).2
  try dsimp only
  split <;> omega)
def BothF (X : Wd → Option ((UInt32 ⊕ Nat) × Wd)) (M : Wd → Option (UInt32 × Wd)) (E : Nat → Int32 → Prop) (w : Wd) : Prop :=
  ∃ r w1, X w = some (r, w1) ∧ FX w1 ∧ (∀ a, r = .inl a → Jvm.FP.Core.val32 a ≠ .nan) ∧ ∀ w2, Fr NS A437 w1 w2 → FX w2 → ∃ v w3, M w2 = some (v, w3) ∧ Inv w3 ∧ aD w3 = aD w2 ∧ Rs E r v (wI w3 1300 415)
theorem b_usage {w : Wd} (h : Inv w) (x y z : Int32) : BothF (f_X12_usage Kc 0 x y z) (f_X13_usage Kc 415 x y z) E1122 w := by
  obtain ⟨b, s, t, ⟨hx, hm, c3, c4⟩, o⟩ := id h
  have hs := hx.gs.1
  have fr : ∀ w2, Fr NS A437 w w2 → FX w2 → HM w2 s t ∧ Inv w2 := fun w2 r f => ⟨hm.fr r f (by unfold A437; omega) (by unfold A437; omega), h.fr (r.mono (fun _ _ q => q.elim) (fun _ q => by unfold A437 at q; unfold TAa; omega)) f⟩
  by_cases e : inR x (s 0)
  · by_cases e2 : inS y z
    · obtain ⟨r, hr, rfl⟩ := inR_nI e
      obtain ⟨p, hp, rfl⟩ := nI_rg (x := y) (n := 600) e2.1 (by have := e2.2; omega)
      obtain ⟨q, hq, rfl⟩ := nI_rg (x := z) (n := 600) (by have := e2.1; have := e2.2; omega) (by have := e2.2; omega)
      have hR := hx.gs.2.1 r hr
      have pm := pop_msk (s (4 + r)) (by omega) (s (7 + r)) (by omega) hR.1
      have ml : msk (s (4 + r)) (s (7 + r)) < 4096 := Nat.lt_of_lt_of_le (msk_lt (by omega)) (by omega)
      have wl := wkIn_le (t := t) (a := p) (q + 1 - p)
      have tl := tknN_4 (s := s) (t := t) hx.gs (r := r) (p := p) (q := q)
      have al : (s (7 + r) - s (4 + r) + 1) * wkIn t p (q + 1 - p) ≤ 8 * 600 := Nat.mul_le_mul (by omega) (by omega)
      have mM : ∀ w2, HM w2 s t → f_X13_usage Kc 415 (nI r) (nI p) (nI q) w2 = (if nI ((s (7 + r) - s (4 + r) + 1) * wkIn t p (q + 1 - p)) = 0 then (some (FP.fconst0, sI w2 1300 415 0)) else ((grd (n32 (FP.fdiv (FP.i2f (nI (tknN s t r p q (s 3)))) (FP.i2f (nI ((s (7 + r) - s (4 + r) + 1) * wkIn t p (q + 1 - p))))) = true)).bind fun _ => some ((FP.fdiv (FP.i2f (nI (tknN s t r p q (s 3)))) (FP.i2f (nI ((s (7 + r) - s (4 + r) + 1) * wkIn t p (q + 1 - p))))), sI w2 1300 415 0))) := fun w2 h2 => by
        unfold f_X13_usage
        rw [m_isRoom h2, decide_eq_true e, Option.bind_some]
        try dsimp only
        rw [m_isT, Option.bind_some]
        try dsimp only
        rw [ib_t, m_isSpan, decide_eq_true e2, Option.bind_some]
        try dsimp only
        rw [m_mayT, Option.bind_some, sI_sI]
        try dsimp only
        rw [ib_t, m_workingIn h2.tl (a := p) (b := q) (by omega) (by omega), Option.bind_some]
        try dsimp only
        rw [x1301 h2.tl.1, Option.bind_some, show (7 : Int32) = nI 7 from rfl, show (4 : Int32) = nI 4 from rfl, nI_add, nI_add]
        try dsimp only
        rw [ixa_n (by omega) (by omega), Option.bind_some, ixa_n (by omega) (by omega), Option.bind_some, h2.tl.S (by omega), h2.tl.S (by omega), sub_nI hR.1, show nI (s (7 + r) - s (4 + r)) + 1 = nI (s (7 + r) - s (4 + r) + 1) from nI_add _ 1, pk_mul, Nat.mul_comm]
        exact m_usageL h2.tl (by omega) (by omega) (by omega) (α := Unit)
      have xX : f_X12_usage Kc 0 (nI r) (nI p) (nI q) w = (if nI ((s (7 + r) - s (4 + r) + 1) * wkIn t p (q + 1 - p)) = 0 then (some (.inl FP.fconst0, w)) else ((grd (n32 (FP.fdiv (FP.i2f (nI (tknN s t r p q (s 3)))) (FP.i2f (nI ((s (7 + r) - s (4 + r) + 1) * wkIn t p (q + 1 - p))))) = true)).bind fun _ => some (.inl (FP.fdiv (FP.i2f (nI (tknN s t r p q (s 3)))) (FP.i2f (nI ((s (7 + r) - s (4 + r) + 1) * wkIn t p (q + 1 - p))))), w))) := by
        unfold f_X12_usage
        rw [x_re0 hx, if_pos e, Option.bind_some, xk_l]
        try dsimp only
        rw [x_reqP, if_pos e2, Option.bind_some, xk_l]
        try dsimp only
        rw [x1205 hx.1, Option.bind_some, hx.su, Option.bind_some, u901 hx.1 hx.2.1.2.1, Option.bind_some]
        try dsimp only
        rw [ixa_n (by omega) (by omega), Option.bind_some, hx.2.2.1.2.1 r hr, x_bitCount ml, Option.bind_some, pm]
        try dsimp only
        rw [x1205 hx.1, Option.bind_some, x_countWorking hx (p := p) (q := q) (by omega) (by omega), Option.bind_some]
        try dsimp only
        rw [pk_mul, x1205 hx.1, Option.bind_some, x_countTaken hx (r := r) (p := p) (q := q) (by omega) (by omega) (by omega), Option.bind_some]
      generalize hA : (s (7 + r) - s (4 + r) + 1) * wkIn t p (q + 1 - p) = A at *
      generalize hT : tknN s t r p q (s 3) = T at *
      by_cases e3 : A = 0
      · refine ⟨.inl FP.fconst0, w, ?_, hx.1, fun a q => (by cases q; exact f0_ok), fun w2 r2 f2 => ⟨FP.fconst0, sI w2 1300 415 0, ?_, (fr w2 r2 f2).2.tl, rfl, rfl, tl_t⟩⟩
        · rw [xX, show (0 : Int32) = nI 0 from rfl, if_eq_t e3]
        · rw [mM w2 (fr w2 r2 f2).1, show (0 : Int32) = nI 0 from rfl, if_eq_t e3]
      · have nn := fdiv_ok (a := nI T) (b := nI A) (by rw [nI_toInt (by omega)]; omega) (by rw [nI_toInt (by omega)]; omega) (nI_nz (by omega) e3)
        have ng : grd (n32 (FP.fdiv (FP.i2f (nI T)) (FP.i2f (nI A))) = true) = some () := by unfold grd; rw [if_pos (n32_nn nn)]
        refine ⟨.inl (FP.fdiv (FP.i2f (nI T)) (FP.i2f (nI A))), w, ?_, hx.1, fun a q => (by cases q; exact nn), fun w2 r2 f2 => ⟨FP.fdiv (FP.i2f (nI T)) (FP.i2f (nI A)), sI w2 1300 415 0, ?_, (fr w2 r2 f2).2.tl, rfl, rfl, tl_t⟩⟩
        · rw [xX, show (0 : Int32) = nI 0 from rfl, if_eq_f (by omega) (by omega) e3, ng, Option.bind_some]
        · rw [mM w2 (fr w2 r2 f2).1, show (0 : Int32) = nI 0 from rfl, if_eq_f (by omega) (by omega) e3, ng, Option.bind_some]
    · refine ⟨.inr 2, w, ?_, hx.1, fun a q => (by cases q), fun w2 r2 f2 => ⟨FP.fconst0, sI w2 1300 415 2, ?_, (fr w2 r2 f2).2.tl, rfl, Or.inr ⟨rfl, tl_t⟩⟩⟩
      · unfold f_X12_usage
        rw [x_re0 hx, if_pos e, Option.bind_some, xk_l]
        try dsimp only
        rw [x_reqP, if_neg e2, Option.bind_some, xk_r]
      · unfold f_X13_usage
        rw [m_isRoom (fr w2 r2 f2).1, decide_eq_true e, Option.bind_some]
        try dsimp only
        rw [m_isT, Option.bind_some]
        try dsimp only
        rw [ib_t, m_isSpan, decide_eq_false e2, Option.bind_some]
        try dsimp only
        rw [m_mayF, Option.bind_some, sI_sI, ib_f]
  · refine ⟨.inr 1, w, ?_, hx.1, fun a q => (by cases q), fun w2 r2 f2 => ⟨FP.fconst0, sI w2 1300 415 1, ?_, (fr w2 r2 f2).2.tl, rfl, Or.inl ⟨rfl, tl_t⟩⟩⟩
    · unfold f_X12_usage
      rw [x_re0 hx, if_neg e, Option.bind_some, xk_r]
    · unfold f_X13_usage
      rw [m_isRoom (fr w2 r2 f2).1, decide_eq_false e, Option.bind_some]
      try dsimp only
      rw [m_isF, Option.bind_some, ib_f]
