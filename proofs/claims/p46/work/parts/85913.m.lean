variable {X : Kd}
def brT (t : Nat → Nat) (j o : Nat) : Nat → Nat := ups t (34 + j) (t (34 + j) ||| 2 ^ o)
theorem brT_ne {t : Nat → Nat} {j o x : Nat} (h : x ≠ 34 + j) : brT t j o x = t x := ups_ne h
theorem brT_j {t : Nat → Nat} {j o : Nat} : brT t j o (34 + j) = t (34 + j) ||| 2 ^ o := ups_eq
theorem brT_cs {t : Nat → Nat} {j o i k : Nat} (hj : j < 12) : cs (brT t j o) i k = cs t i k := brT_ne (by omega)
theorem brT_hol {t : Nat → Nat} {j o e : Nat} (hT : t 1 ≤ 20) : isHol (brT t j o) e = isHol t e := by
  unfold isHol
  rw [brT_ne (by omega)]
  refine Bool.eq_iff_iff.mpr ?_
  rw [anyF_iff, anyF_iff]
  constructor
  · rintro ⟨k, k1, k2, k3⟩
    refine ⟨k, k1, k2, ?_⟩
    rw [brT_ne (by omega)] at k3
    exact k3
  · rintro ⟨k, k1, k2, k3⟩
    refine ⟨k, k1, k2, ?_⟩
    rw [brT_ne (by omega)]
    exact k3
theorem brT_good {s t : Nat → Nat} (hT : GoodT s t) {j o : Nat} (hj : j < 12) (ho : o < s 1) : GoodT s (brT t j o) := by
  obtain ⟨g1, g2, g3, g4, g5, g6, g7⟩ := hT
  refine ⟨by rw [brT_ne (by omega)]; exact g1, by rw [brT_ne (by omega)]; exact g2, fun k hk => ?_, fun i k hi hk e => ?_, fun i hi => by rw [brT_ne (by omega)]; exact g5 i hi, fun i hi => ?_, fun i hi => ?_⟩
  · rw [brT_ne (by omega)] at hk
    rw [brT_ne (by omega)]; exact g3 k hk
  · rw [brT_ne (by omega)] at hi hk
    rw [brT_ne (by omega), brT_ne (by omega)] at e
    exact g4 i k hi hk e
  · by_cases e : i = j
    · rw [e, brT_j]
      exact Nat.or_lt_two_pow (g6 j hj) (Nat.pow_lt_pow_right (by omega) ho)
    · rw [brT_ne (by omega)]; exact g6 i hi
  · have hr : hrg (brT t j o) i = hrg t i := by unfold hrg; rw [brT_cs hj]
    rw [hr, brT_cs hj, brT_cs hj, brT_cs hj, brT_cs hj, brT_cs hj, brT_cs hj, brT_cs hj]
    exact g7 i hi
theorem brT_ok {s t : Nat → Nat} (h : POK s t) {j o : Nat} (hj : j < 12) : POK s (brT t j o) := h.csq (brT_ne (by omega)) (fun i k hi hk => brT_cs hj)
theorem x_br {w : Wd} {b : Nat} {s t : Nat → Nat} (h : HX w 73 b s t) {j o : Nat} (hj : j < 12) (ho : o < s 1) : HX (tI w 77 j (nI (t (34 + j) ||| 2 ^ o))) 73 b s (brT t j o) := by
  have hT := h.gt
  have g2 := hT.2.1
  have ub := SU_rg h.2.1.2.1
  have hs := h.gs.1
  have ai : ∀ x, x ≠ 77 → aI (tI w 77 j (nI (t (34 + j) ||| 2 ^ o))) x = aI w x := fun x hx => funext fun k => by rw [aI_tI, if_neg (fun q => hx q.1)]
  obtain ⟨v1, v2, v3, v4, v5⟩ := h.2.2.2.1
  refine ⟨h.1.tI, h.2.1, ?_, ?_, h.gs, brT_good hT hj ho⟩
  · obtain ⟨u1, u2, u3, u4, u5, u6, u7, u8⟩ := h.2.2.1
    refine ⟨u1, fun r hr => ?_, fun o ho => ?_, fun o ho k hk => ?_, fun i hi => ?_, u6, fun k hk => ?_, u8⟩
    · rw [ai _ (by omega)]; exact u2 r hr
    · rw [ai _ (by omega)]; exact u3 o ho
    · rw [ai (b + 4) (by omega), ai (b + 5) (by omega)]; exact u4 o ho k hk
    · rw [ai (b + 6) (by omega), ai (b + 8) (by omega), ai (b + 9) (by omega)]; exact u5 i hi
    · rw [ai _ (by omega)]; exact u7 k hk
  · refine ⟨⟨by rw [brT_ne (by omega)]; exact v1.1, by rw [brT_ne (by omega)]; exact v1.2⟩, fun e he => by rw [ai _ (by omega), brT_hol g2]; exact v2 e he, fun i hi => by rw [ai _ (by omega), brT_ne (by omega)]; exact v3 i hi, fun i hi => ?_, fun i hi => ?_⟩
    · rw [aI_tI]
      by_cases e : i = j
      · rw [if_pos ⟨rfl, e⟩, e, brT_j]
      · rw [if_neg (fun q => e q.2), brT_ne (by omega)]
        exact v4 i hi
    · have hr : hrg (brT t j o) i = hrg t i := by unfold hrg; rw [brT_cs hj]
      have hc : ∀ k, cs (brT t j o) i k = cs t i k := fun k => brT_cs hj
      simp only [hr, hc]
      rw [ai _ (by omega)]
      exact v5 i hi
