variable {X : Kd}
theorem m1_ltq {a b : Nat} (ha : a < 2 ^ 31) (hb : b < 2 ^ 31) : nI a - nI 1 < nI b - nI 1 ↔ a < b := by
  have q : ∀ n, n < 2 ^ 31 → (nI n - nI 1).toInt = (n : Int) - 1 := fun n hn => by
    cases n with
    | zero => decide
    | succ k => rw [sub_nI (a := k + 1) (b := 1) (by omega), nI_toInt (by omega)]; omega
  rw [Int32.lt_iff_toInt_lt, q a ha, q b hb]
  omega
theorem m1_leq {a b : Nat} (ha : a < 2 ^ 31) (hb : b < 2 ^ 31) : nI a - nI 1 ≤ nI b - nI 1 ↔ a ≤ b := by
  have q : ∀ n, n < 2 ^ 31 → (nI n - nI 1).toInt = (n : Int) - 1 := fun n hn => by
    cases n with
    | zero => decide
    | succ k => rw [sub_nI (a := k + 1) (b := 1) (by omega), nI_toInt (by omega)]; omega
  rw [Int32.le_iff_toInt_le, q a ha, q b hb]
  omega
def wdT (t : Nat → Nat) (v d : Nat) : Nat → Nat := ups t (22 + v) (if d < t (22 + v) then d else t (22 + v))
theorem wdT_ne {t : Nat → Nat} {v d x : Nat} (h : x ≠ 22 + v) : wdT t v d x = t x := ups_ne h
theorem wdT_v {t : Nat → Nat} {v d : Nat} : wdT t v d (22 + v) = if d < t (22 + v) then d else t (22 + v) := ups_eq
theorem wdT_cs {t : Nat → Nat} {v d i k : Nat} (hv : v < 12) : cs (wdT t v d) i k = cs t i k := wdT_ne (by omega)
theorem wdT_hol {t : Nat → Nat} {v d e : Nat} (hT : t 1 ≤ 20) : isHol (wdT t v d) e = isHol t e := by
  unfold isHol
  rw [wdT_ne (by omega)]
  refine Bool.eq_iff_iff.mpr ?_
  rw [anyF_iff, anyF_iff]
  constructor
  · rintro ⟨k, k1, k2, k3⟩
    refine ⟨k, k1, k2, ?_⟩
    rw [wdT_ne (by omega)] at k3
    exact k3
  · rintro ⟨k, k1, k2, k3⟩
    refine ⟨k, k1, k2, ?_⟩
    rw [wdT_ne (by omega)]
    exact k3
theorem wdT_good {s t : Nat → Nat} (hT : GoodT s t) {v d : Nat} (hv : v < 12) : GoodT s (wdT t v d) := by
  obtain ⟨g1, g2, g3, g4, g5, g6, g7⟩ := hT
  refine ⟨by rw [wdT_ne (by omega)]; exact g1, by rw [wdT_ne (by omega)]; exact g2, fun k hk => ?_, fun j k hj hk e => ?_, fun i hi => ?_, fun i hi => by rw [wdT_ne (by omega)]; exact g6 i hi, fun i hi => ?_⟩
  · rw [wdT_ne (by omega)] at hk
    rw [wdT_ne (by omega)]; exact g3 k hk
  · rw [wdT_ne (by omega)] at hj hk
    rw [wdT_ne (by omega), wdT_ne (by omega)] at e
    exact g4 j k hj hk e
  · by_cases e : i = v
    · have := g5 i hi
      rw [e] at this ⊢
      rw [wdT_v]
      split <;> omega
    · rw [wdT_ne (by omega)]; exact g5 i hi
  · have hr : hrg (wdT t v d) i = hrg t i := by unfold hrg; rw [wdT_cs hv]
    rw [hr, wdT_cs hv, wdT_cs hv, wdT_cs hv, wdT_cs hv, wdT_cs hv, wdT_cs hv, wdT_cs hv]
    exact g7 i hi
theorem wdT_ok {s t : Nat → Nat} (h : POK s t) {v d : Nat} (hv : v < 12) : POK s (wdT t v d) := h.csq (wdT_ne (by omega)) (fun i k hi hk => wdT_cs hv)
theorem x_wd {w : Wd} {b : Nat} {s t : Nat → Nat} (h : HX w 73 b s t) {v d : Nat} (hv : v < s 2) (hd : d < 600) : HX (tI w 76 v (imin (nI (t (22 + v)) - nI 1) (nI d - nI 1))) 73 b s (wdT t v d) := by
  have hT := h.gt
  have g2 := hT.2.1
  have ub := SU_rg h.2.1.2.1
  have hs := h.gs.1
  have gv := hT.2.2.2.2.1 v (by omega)
  have ai : ∀ x, x ≠ 76 → aI (tI w 76 v (imin (nI (t (22 + v)) - nI 1) (nI d - nI 1))) x = aI w x := fun x hx => funext fun j => by rw [aI_tI, if_neg (fun q => hx q.1)]
  obtain ⟨v1, v2, v3, v4, v5⟩ := h.2.2.2.1
  refine ⟨h.1.tI, h.2.1, ?_, ?_, h.gs, wdT_good hT (by omega)⟩
  · obtain ⟨u1, u2, u3, u4, u5, u6, u7, u8⟩ := h.2.2.1
    refine ⟨u1, fun r hr => ?_, fun o ho => ?_, fun o ho k hk => ?_, fun i hi => ?_, u6, fun k hk => ?_, u8⟩
    · rw [ai _ (by omega)]; exact u2 r hr
    · rw [ai _ (by omega)]; exact u3 o ho
    · rw [ai (b + 4) (by omega), ai (b + 5) (by omega)]; exact u4 o ho k hk
    · rw [ai (b + 6) (by omega), ai (b + 8) (by omega), ai (b + 9) (by omega)]; exact u5 i hi
    · rw [ai _ (by omega)]; exact u7 k hk
  · refine ⟨⟨by rw [wdT_ne (by omega)]; exact v1.1, by rw [wdT_ne (by omega)]; exact v1.2⟩, fun e he => by rw [ai _ (by omega), wdT_hol g2]; exact v2 e he, fun i hi => ?_, fun i hi => by rw [ai _ (by omega), wdT_ne (by omega)]; exact v4 i hi, fun i hi => ?_⟩
    · rw [aI_tI]
      by_cases e : i = v
      · rw [if_pos ⟨rfl, e⟩, e, wdT_v]
        unfold imin
        by_cases e2 : d < t (22 + v)
        · rw [if_pos e2, if_pos ((m1_ltq (by omega) (by omega)).mpr e2)]
        · rw [if_neg e2, if_neg (fun q => e2 ((m1_ltq (by omega) (by omega)).mp q))]
      · rw [if_neg (fun q => e q.2), wdT_ne (by omega)]
        exact v3 i hi
    · have hr : hrg (wdT t v d) i = hrg t i := by unfold hrg; rw [wdT_cs (by omega)]
      have hc : ∀ k, cs (wdT t v d) i k = cs t i k := fun k => wdT_cs (by omega)
      simp only [hr, hc]
      rw [ai _ (by omega)]
      exact v5 i hi
