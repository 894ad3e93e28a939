variable {X : Kd}
def OFI (s0 : Nat → Nat) (k : Nat) (s : Nat → Nat) : Prop := (∀ x, x ≠ 10 + k → (x < 16 + 6 * k ∨ 22 + 6 * k ≤ x) → s x = s0 x) ∧ s (10 + k) ≤ 3 ∧ ∀ j, j < s (10 + k) → s (16 + 6 * k + 2 * j) ≤ s (17 + 6 * k + 2 * j) ∧ s (17 + 6 * k + 2 * j) ≤ 599
theorem GD_off {s t : Nat → Nat} {nm : Nat → Nat → List Nat} (hg : GD s t nm) (h0 : s 1 < 6) {s' : Nat → Nat} (hof : OFI s (s 1) s') {l : List Nat} (hl : NmOK l) : GD (ups s' 1 (s 1 + 1)) (t) (nmU nm 1 (s 1) l) := by
  obtain ⟨⟨a1, a2, a3, a4, a5, a6, a7, a8⟩, hT, hZ, hN, hO, hC, hR, hK⟩ := hg
  have hs : ∀ x, (x ≠ 1 ∧ x ≠ 10 + s 1 ∧ (x < 16 + 6 * s 1 ∨ 22 + 6 * s 1 ≤ x)) → (ups s' 1 (s 1 + 1)) x = s x := fun x z => by rw [ups_ne (by omega)]; exact hof.1 x (by omega) (by omega)
  refine ⟨⟨⟨?_, ?_, ?_, ?_⟩, fun r hr => ?_, fun o ho => ⟨?_, fun k hk => ?_⟩, fun i hi => ?_, fun i hi => ?_, fun i j hi hj => ?_, fun k hk => ?_, ?_⟩, ?_, ?_, fun k i hk hi => ?_, fun o h1 h2 => ?_, fun i h1 h2 => ?_, fun k hk => ?_, ?_⟩
  · rw [hs 0 (by omega)]; exact a1.1
  · rw [ups_eq]; omega
  · rw [hs 2 (by omega)]; exact a1.2.2.1
  · rw [hs 3 (by omega)]; exact a1.2.2.2
  · rw [hs 0 (by omega)] at hr; rw [hs (4 + r) (by omega), hs (7 + r) (by omega)]; exact a2 r hr
  · rw [ups_eq] at ho
    by_cases e : o = s 1
    · rw [e, ups_ne (by omega)]; exact hof.2.1
    · rw [hs (10 + o) (by omega)]; exact (a3 o (by omega)).1
  · rw [ups_eq] at ho
    by_cases e : o = s 1
    · rw [e, ups_ne (by omega)] at hk
      rw [e, ups_ne (by omega), ups_ne (by omega)]; exact hof.2.2 k hk
    · have h3 := (a3 o (by omega)).1
      rw [hs (10 + o) (by omega)] at hk
      rw [hs (16 + 6 * o + 2 * k) (by omega), hs (17 + 6 * o + 2 * k) (by omega)]; exact (a3 o (by omega)).2 k hk
  · rw [hs 2 (by omega)] at hi; rw [hs (52 + i) (by omega), hs (64 + i) (by omega), hs (76 + i) (by omega)]; exact a4 i hi
  · rw [hs 3 (by omega)] at hi; rw [hs (88 + i) (by omega), hs (100 + i) (by omega), hs (112 + i) (by omega), hs (124 + i) (by omega), hs (136 + i) (by omega), hs (148 + i) (by omega), hs 2 (by omega), hs 3 (by omega)]; exact a5 i hi
  · rw [hs 3 (by omega)] at hi hj; rw [hs (148 + i) (by omega), hs (148 + j) (by omega)]; exact a6 i j hi hj
  · rw [hs (160 + k) (by omega)]; exact a7 k hk
  · rw [hs 164 (by omega)]; exact a8
  · exact GT_s hT hZ (by rw [ups_eq]; omega)
  · exact hZ
  · by_cases e : k = 1
    · rw [e, ups_eq] at hi
      by_cases e2 : i = s 1
      · rw [e, e2, nmU_eq]; exact hl
      · rw [nmU_ne (fun z => e2 z.2), e]; exact hN 1 i (by omega) (by omega)
    · rw [hs k (by omega)] at hi
      rw [nmU_ne (fun z => e z.1)]; exact hN k i hk hi
  · rw [ups_eq] at h1
    rw [hs (10 + o) (by omega)]; exact hO o (by omega) h2
  · rw [hs 3 (by omega)] at h1; rw [hs (124 + i) (by omega), hs (136 + i) (by omega), hs (148 + i) (by omega)]; exact hC i h1 h2
  · rw [hs (166 + k) (by omega)]; exact hR k hk
  · rw [hs 165 (by omega)]; exact hK
