variable {X : Kd}
def NDI (s0 : Nat → Nat) (k : Nat) (s : Nat → Nat) : Prop := (∀ x, x ≠ 136 + k → s x = s0 x) ∧ s (136 + k) < 2 ^ s0 2
theorem pop_ins {u i : Nat} (h : u.testBit i = false) (hi : i < 31) : popN (u ||| 2 ^ i) = popN u + 1 := by
  have e1 : (u ||| 2 ^ i).testBit i = true := by rw [Nat.testBit_or, Nat.testBit_two_pow, decide_eq_true (rfl : i = i), Bool.or_true]
  rw [← pop_rm e1 hi]
  refine congrArg (fun z => popN z + 1) (Nat.eq_of_testBit_eq fun k => ?_)
  rw [dfN_bit, Nat.testBit_or, Nat.testBit_two_pow]
  by_cases e : i = k
  · rw [decide_eq_true e, ← e, h]; rfl
  · rw [decide_eq_false e, Bool.or_false, Bool.not_false, Bool.and_true]
theorem GD_cas {s t : Nat → Nat} {nm : Nat → Nat → List Nat} (hg : GD s t nm) (h0 : s 3 < 12) {v1 v2 v3 v4 : Nat} (l1 : v1 ≤ 99) (l2 : 1 ≤ v2 ∧ v2 ≤ 4) (l3 : 1 ≤ v3 ∧ v3 ≤ 60) (l4 : v4 ≤ 1) {s' : Nat → Nat} (hof : NDI (ups (ups (ups (ups s (88 + s 3) v1) (100 + s 3) v2) (112 + s 3) v3) (124 + s 3) v4) (s 3) s') {l : List Nat} (hl : NmOK l) : GD (ups s' 3 (s 3 + 1)) (t) (nmU nm 3 (s 3) l) := by
  obtain ⟨⟨a1, a2, a3, a4, a5, a6, a7, a8⟩, hT, hZ, hN, hO, hC, hR, hK⟩ := hg
  have hs : ∀ x, (x ≠ 3 ∧ x ≠ 88 + s 3 ∧ x ≠ 100 + s 3 ∧ x ≠ 112 + s 3 ∧ x ≠ 124 + s 3 ∧ x ≠ 136 + s 3) → (ups s' 3 (s 3 + 1)) x = s x := fun x z => by rw [ups_ne (by omega), hof.1 x (by omega), ups_ne (by omega), ups_ne (by omega), ups_ne (by omega), ups_ne (by omega)]
  refine ⟨⟨⟨?_, ?_, ?_, ?_⟩, fun r hr => ?_, fun o ho => ⟨?_, fun k hk => ?_⟩, fun i hi => ?_, fun i hi => ?_, fun i j hi hj => ?_, fun k hk => ?_, ?_⟩, ?_, ?_, fun k i hk hi => ?_, fun o h1 h2 => ?_, fun i h1 h2 => ?_, fun k hk => ?_, ?_⟩
  · rw [hs 0 (by omega)]; exact a1.1
  · rw [hs 1 (by omega)]; exact a1.2.1
  · rw [hs 2 (by omega)]; exact a1.2.2.1
  · rw [ups_eq]; omega
  · rw [hs 0 (by omega)] at hr; rw [hs (4 + r) (by omega), hs (7 + r) (by omega)]; exact a2 r hr
  · rw [hs 1 (by omega)] at ho; rw [hs (10 + o) (by omega)]; exact (a3 o ho).1
  · rw [hs 1 (by omega)] at ho; have := (a3 o ho).1; rw [hs (10 + o) (by omega)] at hk; rw [hs (16 + 6 * o + 2 * k) (by omega), hs (17 + 6 * o + 2 * k) (by omega)]; exact (a3 o ho).2 k hk
  · rw [hs 2 (by omega)] at hi; rw [hs (52 + i) (by omega), hs (64 + i) (by omega), hs (76 + i) (by omega)]; exact a4 i hi
  · rw [ups_eq] at hi
    rw [hs 2 (by omega), ups_eq]
    by_cases e : i = s 3
    · have h5 := hof.2
      rw [ups_ne (by omega), ups_ne (by omega), ups_ne (by omega), ups_ne (by omega)] at h5
      have cz := (hC (s 3) (Nat.le_refl _) h0).2.2
      have e1 : ups s' 3 (s 3 + 1) (88 + s 3) = v1 := by rw [ups_ne (by omega), hof.1 _ (by omega), ups_ne (by omega), ups_ne (by omega), ups_ne (by omega), ups_eq]
      have e2 : ups s' 3 (s 3 + 1) (100 + s 3) = v2 := by rw [ups_ne (by omega), hof.1 _ (by omega), ups_ne (by omega), ups_ne (by omega), ups_eq]
      have e3 : ups s' 3 (s 3 + 1) (112 + s 3) = v3 := by rw [ups_ne (by omega), hof.1 _ (by omega), ups_ne (by omega), ups_eq]
      have e4 : ups s' 3 (s 3 + 1) (124 + s 3) = v4 := by rw [ups_ne (by omega), hof.1 _ (by omega), ups_eq]
      rw [e, e1, e2, e3, e4, ups_ne (by omega), hs (148 + s 3) (by omega), cz]
      exact ⟨l1, l2, l3, l4, h5, Nat.two_pow_pos _, Nat.zero_testBit _⟩
    · rw [hs (88 + i) (by omega), hs (100 + i) (by omega), hs (112 + i) (by omega), hs (124 + i) (by omega), hs (136 + i) (by omega), hs (148 + i) (by omega)]
      obtain ⟨q1, q2, q3, q4, q5, q6, q7⟩ := a5 i (by omega)
      exact ⟨q1, q2, q3, q4, q5, Nat.lt_of_lt_of_le q6 (Nat.pow_le_pow_right (by omega) (by omega)), q7⟩
  · rw [ups_eq] at hi hj
    rw [hs (148 + i) (by omega), hs (148 + j) (by omega)]
    have cz := (hC (s 3) (Nat.le_refl _) h0).2.2
    have hb : ∀ x, x < s 3 → (s (148 + x)).testBit (s 3) = false := fun x hx => by
      cases q : (s (148 + x)).testBit (s 3) with
      | false => rfl
      | true => exact absurd (bit12 (a5 x hx).2.2.2.2.2.1 q) (Nat.lt_irrefl _)
    by_cases e : i = s 3
    · by_cases e2 : j = s 3
      · rw [e, e2]
      · rw [e, cz, Nat.zero_testBit, hb j (by omega)]
    · by_cases e2 : j = s 3
      · rw [e2, cz, Nat.zero_testBit, hb i (by omega)]
      · exact a6 i j (by omega) (by omega)
  · rw [hs (160 + k) (by omega)]; exact a7 k hk
  · rw [hs 164 (by omega)]; exact a8
  · exact GT_s hT hZ (by rw [hs 1 (by omega)]; exact Nat.le_refl _)
  · exact hZ
  · by_cases e : k = 3
    · rw [e, ups_eq] at hi
      by_cases e2 : i = s 3
      · rw [e, e2, nmU_eq]; exact hl
      · rw [nmU_ne (fun z => e2 z.2), e]; exact hN 3 i (by omega) (by omega)
    · rw [hs k (by omega)] at hi
      rw [nmU_ne (fun z => e z.1)]; exact hN k i hk hi
  · rw [hs 1 (by omega)] at h1; rw [hs (10 + o) (by omega)]; exact hO o h1 h2
  · rw [ups_eq] at h1; rw [hs (124 + i) (by omega), hs (136 + i) (by omega), hs (148 + i) (by omega)]; exact hC i (by omega) h2
  · rw [hs (166 + k) (by omega)]; exact hR k hk
  · rw [hs 165 (by omega)]; exact hK
theorem BD_u {c s : Nat → Nat} {a v : Nat} (h : BD c s) (ha : 4 ≤ a ∧ (a < 10 ∨ 16 ≤ a)) : BD c (ups s a v) := ⟨by rw [ups_ne (show 0 ≠ a by omega), ups_ne (show 1 ≠ a by omega), ups_ne (show 2 ≠ a by omega), ups_ne (show 3 ≠ a by omega)]; exact h.1, fun o ho => by rw [ups_ne (by omega)]; exact h.2.1 o ho, h.2.2⟩
theorem BD_c {c c2 s : Nat → Nat} (h : BD c s) (h4 : c2 4 ≤ 12) : BD c2 s := ⟨h.1, h.2.1, h4⟩
theorem bind_pr {r : Option (Bool × Wd)} : (r.bind fun q => some (q.1, q.2)) = r := by
  cases r <;> rfl
