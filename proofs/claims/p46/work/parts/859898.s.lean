variable {X : Kd}
theorem GT_s {s s2 t : Nat → Nat} (hT : GoodT s t) (hZ : t 0 = 0 ∧ ∀ k, 46 ≤ k → k < 370 → t k = 0) (h : s 1 ≤ s2 1) : GoodT s2 t := by
  obtain ⟨g1, g2, g3, g4, g5, g6, g7⟩ := hT
  refine ⟨g1, g2, g3, g4, g5, fun i hi => Nat.lt_of_lt_of_le (g6 i hi) (Nat.pow_le_pow_right (by omega) h), fun i hi => ?_⟩
  have z : ∀ k, k < 27 → cs t i k = 0 := fun k hk => hZ.2 _ (by omega) (by omega)
  refine ⟨(g7 i hi).1, (g7 i hi).2.1, (g7 i hi).2.2.1, fun q => ?_⟩
  unfold hrg at q
  rw [z 0 (by omega)] at q
  cases q
theorem BD_of {s t : Nat → Nat} {nm : Nat → Nat → List Nat} (hg : GD s t nm) : BD (cS s) s := ⟨hg.1.1, fun o ho => by
  by_cases e : o < s 1
  · exact (hg.1.2.2.1 o e).1
  · rw [hg.2.2.2.2.1 o (by omega) ho]; omega, hg.1.1.2.2.1⟩
theorem x_sizeQ {w0 wx : Wd} {n : Nat} {bf : Nat → Int32} {b p0 p : Nat} {c s t : Nat → Nat} {nm : Nat → Nat → List Nat} (hx : XQr w0 wx n bf b p0 p c s t nm) {k : Nat} (hk : k < 4) : f_X9_size (Kx X) b (nI k) wx = some (nI (c k), wx) := by
  unfold f_X9_size
  rw [u900 hx.1.1 hx.1.2.1, Option.bind_some]
  try dsimp only
  rw [ixa_n (by omega) (by omega), Option.bind_some, unm hx.1.1 hx.1.2.1 hk, Option.bind_some, hx.2.1 k hk]
theorem cS_e {c s : Nat → Nat} (h0 : c 0 = s 0) (h1 : c 1 = s 1) (h2 : c 2 = s 2) (h3 : c 3 = s 3) (h4 : c 4 = s 2) (h5 : c 5 = s 3) (h6 : c 6 = s 3) (h7 : c 7 = s 3) : ∀ k, k < 8 → cS s k = c k := fun k hk => by
  have hcase : k = 0 ∨ k = 1 ∨ k = 2 ∨ k = 3 ∨ k = 4 ∨ k = 5 ∨ k = 6 ∨ k = 7 := by omega
  rcases hcase with rfl | rfl | rfl | rfl | rfl | rfl | rfl | rfl
  · exact h0.symm
  · exact h1.symm
  · exact h2.symm
  · exact h3.symm
  · exact h4.symm
  · exact h5.symm
  · exact h6.symm
  · exact h7.symm
theorem slot_d : ∀ lo, lo < 8 → ∀ hi, hi < 8 → lo ≤ hi → ((((1 : Int32) <<< (((nI hi - nI lo) + 1) &&& 31)) - 1) <<< (nI lo &&& 31)) = nI (msk lo hi) := by decide +kernel
theorem GD_room {s t : Nat → Nat} {nm : Nat → Nat → List Nat} (hg : GD s t nm) (h0 : s 0 < 3) {lo hi : Nat} (h1 : lo ≤ hi) (h2 : hi ≤ 7) {l : List Nat} (hl : NmOK l) : GD (ups (ups (ups s (4 + s 0) lo) (7 + s 0) hi) 0 (s 0 + 1)) (t) (nmU nm 0 (s 0) l) := by
  obtain ⟨⟨a1, a2, a3, a4, a5, a6, a7, a8⟩, hT, hZ, hN, hO, hC, hR, hK⟩ := hg
  have hs : ∀ x, (x ≠ 0 ∧ x ≠ 4 + s 0 ∧ x ≠ 7 + s 0) → (ups (ups (ups s (4 + s 0) lo) (7 + s 0) hi) 0 (s 0 + 1)) x = s x := fun x z => by rw [ups_ne (by omega), ups_ne (by omega), ups_ne (by omega)]
  refine ⟨⟨⟨?_, ?_, ?_, ?_⟩, fun r hr => ?_, fun o ho => ⟨?_, fun k hk => ?_⟩, fun i hi => ?_, fun i hi => ?_, fun i j hi hj => ?_, fun k hk => ?_, ?_⟩, ?_, ?_, fun k i hk hi => ?_, fun o h1 h2 => ?_, fun i h1 h2 => ?_, fun k hk => ?_, ?_⟩
  · rw [ups_eq]; omega
  · rw [hs 1 (by omega)]; exact a1.2.1
  · rw [hs 2 (by omega)]; exact a1.2.2.1
  · rw [hs 3 (by omega)]; exact a1.2.2.2
  · rw [ups_eq] at hr
    by_cases e : r = s 0
    · rw [e, ups_ne (by omega), ups_ne (by omega), ups_eq, ups_ne (by omega), ups_eq]; exact ⟨h1, h2⟩
    · rw [hs (4 + r) (by omega), hs (7 + r) (by omega)]; exact a2 r (by omega)
  · rw [hs 1 (by omega)] at ho; rw [hs (10 + o) (by omega)]; exact (a3 o ho).1
  · rw [hs 1 (by omega)] at ho; have := (a3 o ho).1; rw [hs (10 + o) (by omega)] at hk; rw [hs (16 + 6 * o + 2 * k) (by omega), hs (17 + 6 * o + 2 * k) (by omega)]; exact (a3 o ho).2 k hk
  · rw [hs 2 (by omega)] at hi; rw [hs (52 + i) (by omega), hs (64 + i) (by omega), hs (76 + i) (by omega)]; exact a4 i hi
  · rw [hs 3 (by omega)] at hi; rw [hs (88 + i) (by omega), hs (100 + i) (by omega), hs (112 + i) (by omega), hs (124 + i) (by omega), hs (136 + i) (by omega), hs (148 + i) (by omega), hs 2 (by omega), hs 3 (by omega)]; exact a5 i hi
  · rw [hs 3 (by omega)] at hi hj; rw [hs (148 + i) (by omega), hs (148 + j) (by omega)]; exact a6 i j hi hj
  · rw [hs (160 + k) (by omega)]; exact a7 k hk
  · rw [hs 164 (by omega)]; exact a8
  · exact GT_s hT hZ (by rw [hs 1 (by omega)]; exact Nat.le_refl _)
  · exact hZ
  · by_cases e : k = 0
    · rw [e, ups_eq] at hi
      by_cases e2 : i = s 0
      · rw [e, e2, nmU_eq]; exact hl
      · rw [nmU_ne (fun z => e2 z.2), e]; exact hN 0 i (by omega) (by omega)
    · rw [hs k (by omega)] at hi
      rw [nmU_ne (fun z => e z.1)]; exact hN k i hk hi
  · rw [hs 1 (by omega)] at h1; rw [hs (10 + o) (by omega)]; exact hO o h1 h2
  · rw [hs 3 (by omega)] at h1; rw [hs (124 + i) (by omega), hs (136 + i) (by omega), hs (148 + i) (by omega)]; exact hC i h1 h2
  · rw [hs (166 + k) (by omega)]; exact hR k hk
  · rw [hs 165 (by omega)]; exact hK
