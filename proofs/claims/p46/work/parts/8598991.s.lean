variable {X : Kd}
theorem ups_4 {s : Nat → Nat} {a b u v x y : Nat} (h : a ≠ b) : ups (ups (ups (ups s a u) b v) a x) b y = ups (ups s a x) b y := funext fun k => by
  by_cases e : k = b
  · rw [e, ups_eq, ups_eq]
  · rw [ups_ne e, ups_ne e]
    by_cases e2 : k = a
    · rw [e2, ups_eq, ups_eq]
    · rw [ups_ne e2, ups_ne e, ups_ne e2, ups_ne e2]
theorem GT_22 {s s2 t : Nat → Nat} {q v : Nat} (hT : GoodT s t) (hZ : t 0 = 0 ∧ ∀ k, 46 ≤ k → k < 370 → t k = 0) (h : s 1 ≤ s2 1) (hq : q < 12) (hv : v ≤ 600) : GoodT s2 (ups t (22 + q) v) ∧ (ups t (22 + q) v 0 = 0 ∧ ∀ k, 46 ≤ k → k < 370 → ups t (22 + q) v k = 0) := by
  obtain ⟨g1, g2, g3, g4, g5, g6, g7⟩ := hT
  have hz2 : ups t (22 + q) v 0 = 0 ∧ ∀ k, 46 ≤ k → k < 370 → ups t (22 + q) v k = 0 := ⟨by rw [ups_ne (by omega)]; exact hZ.1, fun k k1 k2 => by rw [ups_ne (by omega)]; exact hZ.2 k k1 k2⟩
  refine ⟨GT_s (s := s) ⟨by rw [ups_ne (by omega)]; exact g1, by rw [ups_ne (by omega)]; exact g2, fun k hk => ?_, fun j k hj hk e => ?_, fun i hi => ?_, fun i hi => by rw [ups_ne (by omega)]; exact g6 i hi, fun i hi => ?_⟩ hz2 h, hz2⟩
  · rw [ups_ne (by omega)] at hk
    rw [ups_ne (by omega)]; exact g3 k hk
  · rw [ups_ne (by omega)] at hj hk
    rw [ups_ne (by omega), ups_ne (by omega)] at e
    exact g4 j k hj hk e
  · by_cases e : i = q
    · rw [e, ups_eq]; exact hv
    · rw [ups_ne (by omega)]; exact g5 i hi
  · have z : ∀ k, k < 27 → cs (ups t (22 + q) v) i k = 0 := fun k hk => hz2.2 _ (by omega) (by omega)
    refine ⟨by rw [z 0 (by omega)]; omega, by rw [z 1 (by omega)]; omega, by rw [z 2 (by omega)]; omega, fun z2 => ?_⟩
    unfold hrg at z2
    rw [z 0 (by omega)] at z2
    cases z2
theorem GD_wit {s t : Nat → Nat} {nm : Nat → Nat → List Nat} (hg : GD s t nm) (h0 : s 2 < 12) {lo hi a1 b1 : Nat} (h1 : lo ≤ hi) (h2 : hi ≤ 599) (h3 : a1 ≤ b1) (h4 : b1 ≤ 7) {l : List Nat} (hl : NmOK l) : GD (ups (ups (ups (ups s (52 + s 2) lo) (64 + s 2) a1) (76 + s 2) b1) 2 (s 2 + 1)) (ups t (22 + s 2) (hi + 1)) (nmU nm 2 (s 2) l) := by
  obtain ⟨⟨c1, a2, a3, a4, a5, a6, a7, a8⟩, hT, hZ, hN, hO, hC, hR, hK⟩ := hg
  have hs : ∀ x, (x ≠ 2 ∧ x ≠ 52 + s 2 ∧ x ≠ 64 + s 2 ∧ x ≠ 76 + s 2) → (ups (ups (ups (ups s (52 + s 2) lo) (64 + s 2) a1) (76 + s 2) b1) 2 (s 2 + 1)) x = s x := fun x z => by rw [ups_ne (by omega), ups_ne (by omega), ups_ne (by omega), ups_ne (by omega)]
  refine ⟨⟨⟨?_, ?_, ?_, ?_⟩, fun r hr => ?_, fun o ho => ⟨?_, fun k hk => ?_⟩, fun i hi' => ?_, fun i hi => ?_, fun i j hi hj => ?_, fun k hk => ?_, ?_⟩, ?_, ?_, fun k i hk hi => ?_, fun o h1 h2 => ?_, fun i h1 h2 => ?_, fun k hk => ?_, ?_⟩
  · rw [hs 0 (by omega)]; exact c1.1
  · rw [hs 1 (by omega)]; exact c1.2.1
  · rw [ups_eq]; omega
  · rw [hs 3 (by omega)]; exact c1.2.2.2
  · rw [hs 0 (by omega)] at hr; rw [hs (4 + r) (by omega), hs (7 + r) (by omega)]; exact a2 r hr
  · rw [hs 1 (by omega)] at ho; rw [hs (10 + o) (by omega)]; exact (a3 o ho).1
  · rw [hs 1 (by omega)] at ho; have := (a3 o ho).1; rw [hs (10 + o) (by omega)] at hk; rw [hs (16 + 6 * o + 2 * k) (by omega), hs (17 + 6 * o + 2 * k) (by omega)]; exact (a3 o ho).2 k hk
  · rw [ups_eq] at hi'
    by_cases e : i = s 2
    · rw [e, ups_ne (by omega), ups_ne (by omega), ups_ne (by omega), ups_eq, ups_ne (by omega), ups_ne (by omega), ups_eq, ups_ne (by omega), ups_eq]; exact ⟨by omega, h3, h4⟩
    · rw [hs (52 + i) (by omega), hs (64 + i) (by omega), hs (76 + i) (by omega)]; exact a4 i (by omega)
  · rw [hs 3 (by omega)] at hi; rw [hs (88 + i) (by omega), hs (100 + i) (by omega), hs (112 + i) (by omega), hs (124 + i) (by omega), hs (136 + i) (by omega), hs (148 + i) (by omega), ups_eq, hs 3 (by omega)]
    obtain ⟨q1, q2, q3, q4, q5, q6⟩ := a5 i hi
    exact ⟨q1, q2, q3, q4, Nat.lt_of_lt_of_le q5 (Nat.pow_le_pow_right (by omega) (by omega)), q6⟩
  · rw [hs 3 (by omega)] at hi hj; rw [hs (148 + i) (by omega), hs (148 + j) (by omega)]; exact a6 i j hi hj
  · rw [hs (160 + k) (by omega)]; exact a7 k hk
  · rw [hs 164 (by omega)]; exact a8
  · exact (GT_22 hT hZ (by rw [hs 1 (by omega)]; exact Nat.le_refl _) h0 (by omega)).1
  · exact (GT_22 hT hZ (s2 := s) (Nat.le_refl _) h0 (by omega)).2
  · by_cases e : k = 2
    · rw [e, ups_eq] at hi
      by_cases e2 : i = s 2
      · rw [e, e2, nmU_eq]; exact hl
      · rw [nmU_ne (fun z => e2 z.2), e]; exact hN 2 i (by omega) (by omega)
    · rw [hs k (by omega)] at hi
      rw [nmU_ne (fun z => e z.1)]; exact hN k i hk hi
  · rw [hs 1 (by omega)] at h1; rw [hs (10 + o) (by omega)]; exact hO o h1 h2
  · rw [hs 3 (by omega)] at h1; rw [hs (124 + i) (by omega), hs (136 + i) (by omega), hs (148 + i) (by omega)]; exact hC i h1 h2
  · rw [hs (166 + k) (by omega)]; exact hR k hk
  · rw [hs 165 (by omega)]; exact hK
