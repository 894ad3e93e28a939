variable {X : Kd}
theorem shl_b {i : Nat} (hi : i < 12) : (1 : Int32) <<< (nI i &&& 31) = nI (2 ^ i) := by
  have pi : 2 ^ i < 2 ^ 12 := Nat.pow_lt_pow_right (by omega) hi
  rw [show (1 : Int32) = nI 1 from rfl, show (31 : Int32) = nI 31 from rfl, shl_nI (by omega) (by omega), Nat.one_mul]
theorem GT_34 {s t : Nat → Nat} {q v : Nat} (hT : GoodT s t) (hZ : t 0 = 0 ∧ ∀ k, 46 ≤ k → k < 370 → t k = 0) (hq : q < 12) (hv : v < 2 ^ s 1) : GoodT s (ups t (34 + q) v) ∧ (ups t (34 + q) v 0 = 0 ∧ ∀ k, 46 ≤ k → k < 370 → ups t (34 + q) v k = 0) := by
  obtain ⟨g1, g2, g3, g4, g5, g6, g7⟩ := hT
  have hz2 : ups t (34 + q) v 0 = 0 ∧ ∀ k, 46 ≤ k → k < 370 → ups t (34 + q) v k = 0 := ⟨by rw [ups_ne (by omega)]; exact hZ.1, fun k k1 k2 => by rw [ups_ne (by omega)]; exact hZ.2 k k1 k2⟩
  refine ⟨⟨by rw [ups_ne (by omega)]; exact g1, by rw [ups_ne (by omega)]; exact g2, fun k hk => ?_, fun j k hj hk e => ?_, fun i hi => by rw [ups_ne (by omega)]; exact g5 i hi, fun i hi => ?_, fun i hi => ?_⟩, hz2⟩
  · rw [ups_ne (by omega)] at hk
    rw [ups_ne (by omega)]; exact g3 k hk
  · rw [ups_ne (by omega)] at hj hk
    rw [ups_ne (by omega), ups_ne (by omega)] at e
    exact g4 j k hj hk e
  · by_cases e : i = q
    · rw [e, ups_eq]; exact hv
    · rw [ups_ne (by omega)]; exact g6 i hi
  · have z : ∀ k, k < 27 → cs (ups t (34 + q) v) i k = 0 := fun k hk => hz2.2 _ (by omega) (by omega)
    refine ⟨by rw [z 0 (by omega)]; omega, by rw [z 1 (by omega)]; omega, by rw [z 2 (by omega)]; omega, fun z2 => ?_⟩
    unfold hrg at z2
    rw [z 0 (by omega)] at z2
    cases z2
theorem con_bit {s : Nat → Nat} {i j x y : Nat} (hij : i ≠ j) : (ups (ups s (148 + i) (s (148 + i) ||| 2 ^ j)) (148 + j) (s (148 + j) ||| 2 ^ i) (148 + x)).testBit y = ((s (148 + x)).testBit y || (decide (x = i ∧ y = j) || decide (x = j ∧ y = i))) := by
  by_cases e1 : x = j
  · subst e1
    rw [ups_eq, Nat.testBit_or, Nat.testBit_two_pow]
    refine congrArg (fun z => (s (148 + x)).testBit y || z) ?_
    rw [decide_eq_false (show ¬ (x = i ∧ y = x) by omega), Bool.false_or]
    exact decide_eq_decide.mpr ⟨fun q => ⟨rfl, q.symm⟩, fun q => q.2.symm⟩
  · rw [ups_ne (by omega)]
    by_cases e2 : x = i
    · subst e2
      rw [ups_eq, Nat.testBit_or, Nat.testBit_two_pow]
      refine congrArg (fun z => (s (148 + x)).testBit y || z) ?_
      rw [decide_eq_false (show ¬ (x = j ∧ y = x) by omega), Bool.or_false]
      exact decide_eq_decide.mpr ⟨fun q => ⟨rfl, q.symm⟩, fun q => q.2.symm⟩
    · rw [ups_ne (by omega), decide_eq_false (show ¬ (x = i ∧ y = j) by omega), decide_eq_false (show ¬ (x = j ∧ y = i) by omega), Bool.or_false, Bool.or_false]
theorem GD_con {s t : Nat → Nat} {nm : Nat → Nat → List Nat} (hg : GD s t nm) {p q : Nat} (hi0 : p < s 3) (hj0 : q < s 3) (hpq : p ≠ q) : GD (ups (ups s (148 + p) (s (148 + p) ||| 2 ^ q)) (148 + q) (s (148 + q) ||| 2 ^ p)) (t) (nm) := by
  obtain ⟨⟨a1, a2, a3, a4, a5, a6, a7, a8⟩, hT, hZ, hN, hO, hC, hR, hK⟩ := hg
  have hs : ∀ x, (x ≠ 148 + p ∧ x ≠ 148 + q) → (ups (ups s (148 + p) (s (148 + p) ||| 2 ^ q)) (148 + q) (s (148 + q) ||| 2 ^ p)) x = s x := fun x z => by rw [ups_ne (by omega), ups_ne (by omega)]
  refine ⟨⟨⟨?_, ?_, ?_, ?_⟩, fun r hr => ?_, fun o ho => ⟨?_, fun k hk => ?_⟩, fun i hi => ?_, fun i hi => ?_, fun i j hi hj => ?_, fun k hk => ?_, ?_⟩, ?_, ?_, fun k i hk hi => ?_, fun o h1 h2 => ?_, fun i h1 h2 => ?_, fun k hk => ?_, ?_⟩
  · rw [hs 0 (by omega)]; exact a1.1
  · rw [hs 1 (by omega)]; exact a1.2.1
  · rw [hs 2 (by omega)]; exact a1.2.2.1
  · rw [hs 3 (by omega)]; exact a1.2.2.2
  · rw [hs 0 (by omega)] at hr; rw [hs (4 + r) (by omega), hs (7 + r) (by omega)]; exact a2 r hr
  · rw [hs 1 (by omega)] at ho; rw [hs (10 + o) (by omega)]; exact (a3 o ho).1
  · rw [hs 1 (by omega)] at ho; have := (a3 o ho).1; rw [hs (10 + o) (by omega)] at hk; rw [hs (16 + 6 * o + 2 * k) (by omega), hs (17 + 6 * o + 2 * k) (by omega)]; exact (a3 o ho).2 k hk
  · rw [hs 2 (by omega)] at hi; rw [hs (52 + i) (by omega), hs (64 + i) (by omega), hs (76 + i) (by omega)]; exact a4 i hi
  · rw [hs 3 (by omega)] at hi
    rw [hs (88 + i) (by omega), hs (100 + i) (by omega), hs (112 + i) (by omega), hs (124 + i) (by omega), hs (136 + i) (by omega), hs 2 (by omega), hs 3 (by omega)]
    obtain ⟨q1, q2, q3, q4, q5, q6, q7⟩ := a5 i hi
    refine ⟨q1, q2, q3, q4, q5, ?_, ?_⟩
    · by_cases e : i = q
      · rw [e, ups_eq]; exact Nat.or_lt_two_pow (a5 q hj0).2.2.2.2.2.1 (Nat.pow_lt_pow_right (by omega) hi0)
      · rw [ups_ne (by omega)]
        by_cases e2 : i = p
        · rw [e2, ups_eq]; exact Nat.or_lt_two_pow (a5 p hi0).2.2.2.2.2.1 (Nat.pow_lt_pow_right (by omega) hj0)
        · rw [ups_ne (by omega)]; exact q6
    · rw [con_bit hpq, q7, decide_eq_false (show ¬ (i = p ∧ i = q) by omega), decide_eq_false (show ¬ (i = q ∧ i = p) by omega)]; rfl
  · rw [hs 3 (by omega)] at hi hj
    rw [con_bit hpq, con_bit hpq, a6 i j hi hj]
    refine congrArg (fun z => (s (148 + j)).testBit i || z) ?_
    rw [Bool.or_comm]
    exact congr (congrArg or (decide_eq_decide.mpr ⟨fun z => ⟨z.2, z.1⟩, fun z => ⟨z.2, z.1⟩⟩)) (decide_eq_decide.mpr ⟨fun z => ⟨z.2, z.1⟩, fun z => ⟨z.2, z.1⟩⟩)
  · rw [hs (160 + k) (by omega)]; exact a7 k hk
  · rw [hs 164 (by omega)]; exact a8
  · exact GT_s hT hZ (by rw [hs 1 (by omega)]; exact Nat.le_refl _)
  · exact hZ
  · have hk' := hk; rw [hs k (by omega)] at hi; exact hN k i hk hi
  · rw [hs 1 (by omega)] at h1; rw [hs (10 + o) (by omega)]; exact hO o h1 h2
  · rw [hs 3 (by omega)] at h1; rw [hs (124 + i) (by omega), hs (136 + i) (by omega), hs (148 + i) (by omega)]; exact hC i h1 h2
  · rw [hs (166 + k) (by omega)]; exact hR k hk
  · rw [hs 165 (by omega)]; exact hK
