/-! The text builder: what it holds. -/
variable {X : Kd}
def CAP (c : Nat) : Prop := c = 16 ∨ c = 34 ∨ c = 70 ∨ c = 142 ∨ c = 286 ∨ c = 574
theorem CAP.le {c : Nat} (h : CAP c) : 16 ≤ c ∧ c ≤ 574 := by unfold CAP at h; omega
theorem CAP.up {c : Nat} (h : CAP c) (h2 : c ≤ 560) : CAP (c + c + 2) ∧ c ≤ 286 := by unfold CAP at h ⊢; omega
/-- the builder at sb holds the text C, and has room for m -/
def SBd (X : Kd) (n : Nat) (w : Wd) (sb : Nat) (C : List Nat) (m : Nat) : Prop := (415 ≤ sb ∧ sb < n ∧ X sb = some (12, 0)) ∧ FX w ∧ ∃ ar cap, (415 ≤ ar ∧ ar < n ∧ X ar = some (21, cap)) ∧ (C.length ≤ m ∧ m ≤ cap ∧ CAP cap) ∧ wR w 2100 sb = some ar ∧ wI w 2101 sb = 0 ∧ wI w 2103 sb = nI C.length ∧ (∀ j, j < cap → fits .byte (.int (aI w ar j)) = true) ∧ ∀ j, j < C.length → aI w ar j = nI (C.getD j 0)
theorem c12 {sb : Nat} (h : 415 ≤ sb) (h2 : X sb = some (12, 0)) : chk (Kx X) 12 (some sb) = some sb := ck rfl (by rw [kx_hi h]; exact h2)
theorem c21 {ar c : Nat} {r : Option Nat} (hr : r = some ar) (h : 415 ≤ ar) (h2 : X ar = some (21, c)) : cha (Kx X) 21 r = some (ar, c) := ca hr (by rw [kx_hi h]; exact h2)
theorem fr_sRY {w : Wd} {f a : Nat} {v : Option Nat} (h : 415 ≤ a) : Fr TSy TAy w (sR w f a v) := ⟨fun g x q => ⟨rfl, by
  rw [wR_sR, if_neg (fun z => q (Or.inr (by omega)))], rfl⟩, fun x q => ⟨rfl, rfl, rfl⟩⟩
theorem fr_tAY {w : Wd} {a : Nat} {g : Nat → Int32} (h : 415 ≤ a) : Fr TSy TAy w (tA w a g) := ⟨fun f x q => ⟨rfl, rfl, rfl⟩, fun x q => ⟨by
  rw [aI_tA', if_neg (fun z => q (Or.inr (by omega)))], rfl, rfl⟩⟩
theorem fr_sIY {w : Wd} {f a : Nat} {v : Int32} (h : 415 ≤ a) : Fr TSy TAy w (sI w f a v) := fr_sI (Or.inr h)
theorem FX_sR {w : Wd} {f a : Nat} {v : Option Nat} (h : FX w) (ha : 415 ≤ a) : FX (sR w f a v) := ⟨fun p hp => by
  have := frt_lo p hp
  rw [wR_sR, if_neg (fun z => by omega)]
  exact h.1 p hp, h.2⟩
theorem shl0 (x : Int32) : x <<< ((0 : Int32) &&& 31) = x := by
  rw [show ((0 : Int32) &&& 31) = 0 by decide]
  refine Int32.toBitVec_inj.mp ?_
  simp
theorem shr0 (x : Int32) : x >>> ((0 : Int32) &&& 31) = x := by
  rw [show ((0 : Int32) &&& 31) = 0 by decide]
  refine Int32.toBitVec_inj.mp ?_
  simp
theorem sub_toInt {a b : Nat} (ha : a < 2 ^ 30) (hb : b < 2 ^ 30) : (nI a - nI b).toInt = (a : Int) - b := by
  rw [Int32.toInt_sub, nI_toInt (by omega), nI_toInt (by omega)]
  exact Int.bmod_eq_of_le (by omega) (by omega)
theorem sub_le0 {a b : Nat} (ha : a < 2 ^ 30) (hb : b < 2 ^ 30) : nI a - nI b ≤ 0 ↔ a ≤ b := by
  rw [Int32.le_iff_toInt_le, sub_toInt ha hb, show (0 : Int32).toInt = 0 by decide]
  omega
theorem fits0 : fits .byte (.int 0) = true := by decide
theorem fits_c : ∀ c, c < 128 → fits .byte (.int (nI c)) = true := by decide +kernel
theorem clr_aI {w : Wd} {n x : Nat} (h : x ≠ n) : aI (clr w n) x = aI w x := if_neg h
theorem clr_aI0 {w : Wd} {n : Nat} : aI (clr w n) n = fun _ => 0 := if_pos rfl
theorem clr_wI {w : Wd} {n x f : Nat} (h : x ≠ n) : wI (clr w n) f x = wI w f x := if_neg h
theorem clr_wR {w : Wd} {n x f : Nat} (h : x ≠ n) : wR (clr w n) f x = wR w f x := if_neg h
theorem imin_n {a b : Nat} (ha : a < 2 ^ 31) (hb : b < 2 ^ 31) (h : a ≤ b) : imin (nI a) (nI b) = nI a := by
  unfold imin
  rw [if_lt_f hb ha h]
theorem imax_n {a b : Nat} (ha : a < 2 ^ 31) (hb : b < 2 ^ 31) (h : a ≤ b) : imax (nI a) (nI b) = nI b := by
  unfold imax
  by_cases e : a = b
  · rw [e]; simp
  · first | rw [if_lt_t ha hb (by omega)] | rw [if_le_t ha hb h] | rw [if_lt_f hb ha (by omega)] | rw [if_le_f hb ha (by omega)]
theorem x_copyOf {n : Nat} {w : Wd} {ar cap nc : Nat} (hn : 415 ≤ n) (ha : 415 ≤ ar) (hr : ar < n) (hX : X ar = some (21, cap)) (h1 : cap < nc) (h2 : nc ≤ 1200) (hf : ∀ j, j < cap → fits .byte (.int (aI w ar j)) = true) {r : Option Nat} (hrr : r = some ar) : f_J7_copyOf_9075b (Kx X) n r (nI nc) w = some (Kx (kup X n (21, nc)), n + 1, some n, tA (clr w n) n (va_cpy (aI w ar) (fun _ => 0) 0 0 cap)) := by
  have hK : (kup X n (21, nc)) ar = some (21, cap) := by
    show (if ar = n then _ else _) = _
    rw [if_neg (by omega)]
    exact hX
  unfold f_J7_copyOf_9075b
  rw [c21 hrr ha hX, Option.bind_some]
  try dsimp only
  rw [if_neg (fun q => by
    have := (nI_eq (by omega) (by omega)).mp q
    omega), nI_clamp (by omega)]
  unfold grd
  rw [if_pos ⟨by rw [lt0, nI_toInt (by omega)]; omega, h2⟩, Option.bind_some, Option.bind_some, Option.bind_some, kup_x hn, c21 hrr ha hK, Option.bind_some, c21 rfl hn (show kup X n (21, nc) n = some (21, nc) from if_pos rfl), Option.bind_some]
  try dsimp only
  rw [imin_n (by omega) (by omega) (by omega), nI_clamp (by omega), show (0 : Int32).toNatClampNeg = 0 by decide, if_pos ⟨by decide, by decide, by rw [lt0, nI_toInt (by omega)]; omega, by omega, by omega, fun i hi => by rw [clr_aI (by omega), Nat.zero_add]; exact hf i hi⟩, Option.bind_some, Option.bind_some, clr_aI (by omega), clr_aI0]
theorem x_ensure {n : Nat} {w : Wd} {sb m need : Nat} {C : List Nat} (h : SBd X n w sb C m) {nd : Int32} (hnd : nd = nI need) (h1 : C.length ≤ need) (h2 : need ≤ C.length + 17) (h3 : need ≤ 560) : ∃ X' n' w', f_J5_ensureCapacityInternal_d00df (Kx X) n sb nd w = some (Kx X', n', w') ∧ SBd X' n' w' sb C need ∧ Fr TSy TAy w w' ∧ n ≤ n' := by
  subst hnd
  obtain ⟨⟨s1, s2, s3⟩, hF, ar, cap, ⟨a1, a2, a3⟩, ⟨l1, l2, l3⟩, r1, r2, r3, r4, r5⟩ := h
  have hl := l3.le
  unfold f_J5_ensureCapacityInternal_d00df
  rw [c12 s1 s3, Option.bind_some, c21 r1 a1 a3, Option.bind_some]
  try dsimp only
  rw [r2, shr0]
  by_cases e : need ≤ cap
  · rw [if_pos ((sub_le0 (by omega) (by omega)).mpr e)]
    exact ⟨X, n, w, rfl, ⟨⟨s1, s2, s3⟩, hF, ar, cap, ⟨a1, a2, a3⟩, ⟨h1, e, l3⟩, r1, r2, r3, r4, r5⟩, Fr.rf, Nat.le_refl _⟩
  · rw [if_neg (fun q => e ((sub_le0 (by omega) (by omega)).mp q))]
    obtain ⟨u1, u2⟩ := l3.up (by omega)
    have ec : f_J5_newCapacity_0f7a4 (Kx X) sb (nI need) w = some (nI (cap + cap + 2), w) := by
      unfold f_J5_newCapacity_0f7a4 f_J8_newLength_cabcc
      rw [c21 r1 a1 a3, Option.bind_some]
      try dsimp only
      rw [r2, shl0, shl0, sub_nI (by omega), show nI cap + 2 = nI (cap + 2) from nI_add cap 2, imax_n (by omega) (by omega) (by omega), nI_add, if_neg (show ¬ nI (cap + (cap + 2)) ≤ (0 : Int32) from fun q => by
        have := (nI_leI (b := 0) (by omega) (by omega)).mp q
        omega), if_neg (show ¬ (2147483639 : Int32) < nI (cap + (cap + 2)) from fun q => by
        have := (nI_ltI (a := 2147483639) (by omega) (by omega)).mp q
        omega), Option.bind_some]
      try dsimp only
      rw [if_neg (show ¬ nI (cap + (cap + 2)) = (2147483647 : Int32) from fun q => by
        have := (nI_eq (b := 2147483647) (by omega) (by omega)).mp q
        omega), r2, shr0, Nat.add_assoc]
    rw [ec, Option.bind_some]
    try dsimp only
    rw [r2, shl0, x_copyOf (by omega) a1 a2 a3 (by omega) (by omega) r4 r1, Option.bind_some]
    try dsimp only
    have hK : (kup X n (21, cap + cap + 2)) sb = some (12, 0) := by
      show (if sb = n then _ else _) = _
      rw [if_neg (by omega)]
      exact s3
    rw [c12 s1 hK, Option.bind_some, Option.bind_some]
    refine ⟨_, _, _, rfl, ⟨⟨s1, by omega, hK⟩, FX_sR (FX_clr hF (by omega)).tA s1, n, cap + cap + 2, ⟨by omega, by omega, if_pos rfl⟩, ⟨h1, by omega, u1⟩, by rw [wR_sR, if_pos ⟨rfl, rfl⟩], ?_, ?_, fun j hj => ?_, fun j hj => ?_⟩, Fr.trans (Fr.trans (fr_clr (by omega)) (fr_tAY (by omega))) (fr_sRY s1), by omega⟩
    · show wI (clr w n) 2101 sb = 0
      rw [clr_wI (by omega)]
      exact r2
    · show wI (clr w n) 2103 sb = _
      rw [clr_wI (by omega)]
      exact r3
    · show fits .byte (.int (aI (tA (clr w n) n (va_cpy (aI w ar) (fun _ => 0) 0 0 cap)) n j)) = true
      rw [aI_tA', if_pos rfl]
      unfold va_cpy
      by_cases e2 : 0 ≤ j ∧ j < 0 + cap
      · rw [if_pos e2, Nat.zero_add, Nat.sub_zero]
        exact r4 j (by omega)
      · rw [if_neg e2]
        exact fits0
    · show aI (tA (clr w n) n (va_cpy (aI w ar) (fun _ => 0) 0 0 cap)) n j = _
      rw [aI_tA', if_pos rfl]
      unfold va_cpy
      rw [if_pos ⟨by omega, by omega⟩, Nat.zero_add, Nat.sub_zero]
      exact r5 j hj
