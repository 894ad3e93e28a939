/-! The drawn text. -/
variable {X : Kd}
def STR (X : Kd) (n : Nat) (w : Wd) (so : Nat) (C : List Nat) : Prop := (415 ≤ so ∧ so < n ∧ X so = some (11, 0)) ∧ wI w 2001 so = 0 ∧ ∃ ar, (415 ≤ ar ∧ ar < n ∧ X ar = some (21, C.length)) ∧ wR w 2000 so = some ar ∧ ∀ j, j < C.length → aI w ar j = nI (C.getD j 0)
theorem sl0 : (strC 0).length = 5 := by decide +kernel
theorem sl1 : (strC 1).length = 7 := by decide +kernel
theorem sl2 : (strC 2).length = 8 := by decide +kernel
theorem sl3 : (strC 3).length = 5 := by decide +kernel
theorem sl4 : (strC 4).length = 8 := by decide +kernel
theorem sl5 : (strC 5).length = 6 := by decide +kernel
theorem sl6 : (strC 6).length = 5 := by decide +kernel
theorem sl7 : (strC 7).length = 7 := by decide +kernel
theorem sl8 : (strC 8).length = 7 := by decide +kernel
theorem sl9 : (strC 9).length = 8 := by decide +kernel
theorem sl10 : (strC 10).length = 0 := by decide +kernel
theorem sl11 : (strC 11).length = 9 := by decide +kernel
theorem sl12 : (strC 12).length = 9 := by decide +kernel
theorem sl13 : (strC 13).length = 1 := by decide +kernel
theorem sl14 : (strC 14).length = 17 := by decide +kernel
theorem ap_const' {n : Nat} {w : Wd} {sb m i A B k : Nat} {C : List Nat} (h : SBd X n w sb C m) (hl : A ≤ C.length ∧ C.length ≤ B) (hi : i < 15) (hk : (strC i).length = k) (h3 : B ≤ 500) : ∃ X' n' w' m', f_CJ4_append_15ec4 (Kx X) n sb i w = some (Kx X', n', some sb, w') ∧ SBd X' n' w' sb (C ++ strC i) m' ∧ Fr TSy TAy w w' ∧ n ≤ n' ∧ (A + k ≤ (C ++ strC i).length ∧ (C ++ strC i).length ≤ B + k) := by
  obtain ⟨X1, n1, w1, m1, e1, b1, f1, g1⟩ := ap_const h hi (by omega)
  exact ⟨X1, n1, w1, m1, e1, b1, f1, g1, by rw [List.length_append, hk]; omega⟩
theorem ap_char' {n : Nat} {w : Wd} {sb m k A B : Nat} {C : List Nat} (h : SBd X n w sb C m) (hl : A ≤ C.length ∧ C.length ≤ B) (hk : k < 128) {c : Int32} (hc : c = nI k) (h3 : B ≤ 500) : ∃ X' n' w' m', f_J4_append_cf468 (Kx X) n sb c w = some (Kx X', n', some sb, w') ∧ SBd X' n' w' sb (C ++ [k]) m' ∧ Fr TSy TAy w w' ∧ n ≤ n' ∧ (A + 1 ≤ (C ++ [k]).length ∧ (C ++ [k]).length ≤ B + 1) := by
  obtain ⟨X1, n1, w1, m1, e1, b1, f1, g1⟩ := ap_char h hk hc (by omega)
  exact ⟨X1, n1, w1, m1, e1, b1, f1, g1, by rw [List.length_append]; simp; omega⟩
theorem ap_int' {n : Nat} {w : Wd} {sb m v A B : Nat} {C : List Nat} (h : SBd X n w sb C m) (hl : A ≤ C.length ∧ C.length ≤ B) (hv : v < 100) {c : Int32} (hc : c = nI v) (h3 : B ≤ 500) : ∃ X' n' w' m', f_J4_append_bf812 (Kx X) n sb c w = some (Kx X', n', some sb, w') ∧ SBd X' n' w' sb (C ++ decC v) m' ∧ Fr TSy TAy w w' ∧ n ≤ n' ∧ (A + 1 ≤ (C ++ decC v).length ∧ (C ++ decC v).length ≤ B + 2) := by
  obtain ⟨X1, n1, w1, m1, e1, b1, f1, g1⟩ := ap_int h hv hc (by omega)
  have := decC_d v hv
  exact ⟨X1, n1, w1, m1, e1, b1, f1, g1, by rw [List.length_append]; omega⟩
theorem x_toString {n : Nat} {w : Wd} {sb m : Nat} {C : List Nat} (h : SBd X n w sb C m) (hl : 287 ≤ C.length ∧ C.length ≤ 500) : ∃ X' n' w', f_J4_toString_0e30d (Kx X) n sb w = some (Kx X', n', some n, w') ∧ STR X' n' w' n C ∧ FX w' ∧ Fr TSy TAy w w' ∧ n ≤ n' := by
  obtain ⟨⟨s1, s2, s3⟩, hF, ar, cap, ⟨a1, a2, a3⟩, ⟨l1, l2, l3⟩, r1, r2, r3, r4, r5⟩ := h
  have hn : 415 ≤ n := by omega
  have hc : cap = 574 := by unfold CAP at l3; omega
  have K1 : (kup X n (11, 0)) sb = some (12, 0) := by
    show (if sb = n then _ else _) = _
    rw [if_neg (by omega)]; exact s3
  have K2 : (kup X n (11, 0)) ar = some (21, cap) := by
    show (if ar = n then _ else _) = _
    rw [if_neg (by omega)]; exact a3
  have K3 : (kup X n (11, 0)) n = some (11, 0) := if_pos rfl
  have L1 : (kup (kup X n (11, 0)) (n + 1) (21, C.length)) ar = some (21, cap) := by
    show (if ar = n + 1 then _ else _) = _
    rw [if_neg (by omega)]; exact K2
  have L2 : (kup (kup X n (11, 0)) (n + 1) (21, C.length)) (n + 1) = some (21, C.length) := if_pos rfl
  have L3 : (kup (kup X n (11, 0)) (n + 1) (21, C.length)) n = some (11, 0) := by
    show (if n = n + 1 then _ else _) = _
    rw [if_neg (by omega)]; exact K3
  unfold f_J4_toString_0e30d f_J0_init_81219 f_J0_init_db425 f_J5_getValue_6d5f1 f_J4_length_8abf5 f_J5_length_8abf5 f_J5_isLatin1_aae02
  rw [Option.bind_some, Option.bind_some, kup_x hn, c12 s1 K1, Option.bind_some, Option.bind_some, Option.bind_some, Option.bind_some]
  try dsimp only
  rw [clr_wI (show sb ≠ n by omega), r2, if_pos rfl, Option.bind_some]
  try dsimp only
  rw [ib_t, show chk (Kx (kup X n (11, 0))) 11 (some n) = some n from ck rfl (by rw [kx_hi hn]; exact K3), Option.bind_some, Option.bind_some]
  unfold f_J7_copyOfRange_39247
  rw [if_pos rfl, clr_wR (show sb ≠ n by omega), c21 r1 a1 K2, Option.bind_some, clr_wI (show sb ≠ n by omega), r3]
  try dsimp only
  rw [if_neg (fun q => by
    have := (nI_eq (by omega) (by omega)).mp q
    omega)]
  unfold f_J7_copyOfRangeByte_39247 f_J7_checkLength_df160
  have z0 : nI C.length - 0 = nI C.length := sub_nI (b := 0) (Nat.zero_le _)
  have z1 : nI cap - 0 = nI cap := sub_nI (b := 0) (Nat.zero_le _)
  rw [if_pos (show (0 : Int32) ≤ nI C.length from (nI_leI (a := 0) (by omega) (by omega)).mpr (Nat.zero_le _)), Option.bind_some, z0, nI_clamp (by omega)]
  unfold grd
  rw [if_pos ⟨by rw [lt0, nI_toInt (by omega)]; omega, by omega⟩, Option.bind_some, Option.bind_some, Option.bind_some, kup_x (by omega), c21 r1 a1 L1, Option.bind_some, c21 rfl (by omega) L2, Option.bind_some]
  try dsimp only
  have im : imin (nI cap) (nI C.length) = nI C.length := by
    unfold imin
    rw [if_lt_t (by omega) (by omega) (by omega)]
  rw [z1, im, nI_clamp (by omega), show (0 : Int32).toNatClampNeg = 0 by decide, if_pos ⟨by decide, by decide, by rw [lt0, nI_toInt (by omega)]; omega, by omega, by omega, fun i hi => by
    rw [clr_aI (by omega), Nat.zero_add]
    show fits .byte (.int (aI (clr w n) ar i)) = true
    rw [clr_aI (by omega)]
    exact r4 i (by omega)⟩, Option.bind_some, Option.bind_some, Option.bind_some, Option.bind_some]
  try dsimp only
  rw [show chk (Kx (kup (kup X n (11, 0)) (n + 1) (21, C.length))) 11 (some n) = some n from ck rfl (by rw [kx_hi hn]; exact L3), Option.bind_some, Option.bind_some, Option.bind_some, Option.bind_some]
  refine ⟨kup (kup X n (11, 0)) (n + 1) (21, C.length), n + 1 + 1, _, rfl, ⟨⟨hn, by omega, L3⟩, ?_, n + 1, ⟨by omega, by omega, L2⟩, by rw [wR_sR, if_pos ⟨rfl, rfl⟩], fun j hj => ?_⟩, FX_sR (FX_clr (FX_clr hF hn).sI (by omega)).tA hn, Fr.trans (Fr.trans (Fr.trans (Fr.trans (fr_clr hn) (fr_sIY hn)) (fr_clr (by omega))) (fr_tAY (by omega))) (fr_sRY hn), by omega⟩
  · show wI (clr (sI (clr w n) 2001 n 0) (n + 1)) 2001 n = 0
    rw [clr_wI (by omega), wI_sI, if_pos ⟨rfl, rfl⟩]
  · show aI (tA (clr (sI (clr w n) 2001 n 0) (n + 1)) (n + 1) _) (n + 1) j = _
    rw [aI_tA', if_pos rfl]
    unfold va_cpy
    rw [if_pos ⟨by omega, by omega⟩, Nat.zero_add, Nat.sub_zero, clr_aI (by omega)]
    show aI (clr w n) ar j = _
    rw [clr_aI (by omega)]
    exact r5 j hj
def tl_H256_4 (L : Nat) (xs : Nat → Int32) : List Nat := strC 14 ++ decC (drN L xs 32 0 20) ++ [59]
theorem st_H256_4 {L : Nat} {xs : Nat → Int32} (hL : L < 2 ^ 31) {n : Nat} {w : Wd} {sb m : Nat} {C : List Nat} (h : SBd X n w sb C m) (hl : 268 ≤ C.length ∧ C.length ≤ 480) : ∃ X' n' so w', f_L_setup_H256_4 L xs (Kx X) n (some sb) w = some (Kx X', n', some so, w') ∧ STR X' n' w' so (C ++ tl_H256_4 L xs) ∧ FX w' ∧ Fr TSy TAy w w' ∧ n ≤ n' := by
  unfold f_L_setup_H256_4
  obtain ⟨⟨s1, _, t1⟩, -⟩ := id h
  rw [c12 s1 t1, Option.bind_some]
  obtain ⟨X2, n2, w2, m2, e2, b2, f2, g2, l2⟩ := ap_const' h hl (i := 14) (by omega) sl14 (by omega)
  rw [e2, Option.bind_some]
  try dsimp only
  rw [draw_i (x := 32) (y := 0) (z := 20) (a := 32) (lo := 0) (hi := 20) hL (by decide) rfl rfl (by omega) (by omega) (by omega), Option.bind_some]
  try dsimp only
  obtain ⟨⟨s3, _, t3⟩, -⟩ := id b2
  rw [c12 s3 t3, Option.bind_some]
  obtain ⟨X4, n4, w4, m4, e4, b4, f4, g4, l4⟩ := ap_int' b2 l2 (v := drN L xs 32 0 20) (by have := drN_rg (L := L) (xs := xs) (a := 32) (lo := 0) (hi := 20) (by omega); omega) rfl (by omega)
  rw [e4, Option.bind_some]
  try dsimp only
  obtain ⟨⟨s5, _, t5⟩, -⟩ := id b4
  rw [c12 s5 t5, Option.bind_some]
  obtain ⟨X6, n6, w6, m6, e6, b6, f6, g6, l6⟩ := ap_char' b4 l4 (k := 59) (c := 59) (by omega) (by decide) (by omega)
  rw [e6, Option.bind_some]
  try dsimp only
  obtain ⟨⟨s7, _, t7⟩, -⟩ := id b6
  rw [c12 s7 t7, Option.bind_some]
  obtain ⟨X9, n9, w9, e9, z1, z2, z3, z4⟩ := x_toString b6 (by omega)
  rw [e9, Option.bind_some]
  refine ⟨X9, n9, _, w9, rfl, ?_, z2, (f2.trans (f4.trans (f6.trans z3))), by omega⟩
  rw [show C ++ tl_H256_4 L xs = (((C ++ strC 14) ++ decC (drN L xs 32 0 20)) ++ [59]) from by simp only [tl_H256_4, List.append_assoc]]
  exact z1
def tl_H256_3 (L : Nat) (xs : Nat → Int32) : List Nat := strC 6 ++ [100] ++ strC 7 ++ decC (drN L xs 19 0 9) ++ strC 1 ++ decC (drN L xs 23 1 4) ++ strC 8 ++ decC (drN L xs 27 1 20) ++ strC 10 ++ (if drN L xs 31 0 2 = 0 then strC 11 else if drN L xs 31 0 2 = 1 then strC 12 else strC 13) ++ tl_H256_4 L xs
theorem st_H256_3 {L : Nat} {xs : Nat → Int32} (hL : L < 2 ^ 31) {n : Nat} {w : Wd} {sb m : Nat} {C : List Nat} (h : SBd X n w sb C m) (hl : 237 ≤ C.length ∧ C.length ≤ 438) : ∃ X' n' so w', f_L_setup_H256_3 L xs (Kx X) n (some sb) w = some (Kx X', n', some so, w') ∧ STR X' n' w' so (C ++ tl_H256_3 L xs) ∧ FX w' ∧ Fr TSy TAy w w' ∧ n ≤ n' := by
  unfold f_L_setup_H256_3
  obtain ⟨⟨s1, _, t1⟩, -⟩ := id h
  rw [c12 s1 t1, Option.bind_some]
  obtain ⟨X2, n2, w2, m2, e2, b2, f2, g2, l2⟩ := ap_const' h hl (i := 6) (by omega) sl6 (by omega)
  rw [e2, Option.bind_some]
  try dsimp only
  obtain ⟨⟨s3, _, t3⟩, -⟩ := id b2
  rw [c12 s3 t3, Option.bind_some]
  obtain ⟨X4, n4, w4, m4, e4, b4, f4, g4, l4⟩ := ap_char' b2 l2 (k := 100) (c := (i2cI (97 + 3))) (by omega) (by decide) (by omega)
  rw [e4, Option.bind_some]
  try dsimp only
  obtain ⟨⟨s5, _, t5⟩, -⟩ := id b4
  rw [c12 s5 t5, Option.bind_some]
  obtain ⟨X6, n6, w6, m6, e6, b6, f6, g6, l6⟩ := ap_const' b4 l4 (i := 7) (by omega) sl7 (by omega)
  rw [e6, Option.bind_some]
  try dsimp only
  rw [draw_i (x := (16 + 3)) (y := 0) (z := 9) (a := 19) (lo := 0) (hi := 9) hL (by decide) rfl rfl (by omega) (by omega) (by omega), Option.bind_some]
  try dsimp only
  obtain ⟨⟨s7, _, t7⟩, -⟩ := id b6
  rw [c12 s7 t7, Option.bind_some]
  obtain ⟨X8, n8, w8, m8, e8, b8, f8, g8, l8⟩ := ap_int' b6 l6 (v := drN L xs 19 0 9) (by have := drN_rg (L := L) (xs := xs) (a := 19) (lo := 0) (hi := 9) (by omega); omega) rfl (by omega)
  rw [e8, Option.bind_some]
  try dsimp only
  obtain ⟨⟨s9, _, t9⟩, -⟩ := id b8
  rw [c12 s9 t9, Option.bind_some]
  obtain ⟨X10, n10, w10, m10, e10, b10, f10, g10, l10⟩ := ap_const' b8 l8 (i := 1) (by omega) sl1 (by omega)
  rw [e10, Option.bind_some]
  try dsimp only
  rw [draw_i (x := (20 + 3)) (y := 1) (z := 4) (a := 23) (lo := 1) (hi := 4) hL (by decide) rfl rfl (by omega) (by omega) (by omega), Option.bind_some]
  try dsimp only
  obtain ⟨⟨s11, _, t11⟩, -⟩ := id b10
  rw [c12 s11 t11, Option.bind_some]
  obtain ⟨X12, n12, w12, m12, e12, b12, f12, g12, l12⟩ := ap_int' b10 l10 (v := drN L xs 23 1 4) (by have := drN_rg (L := L) (xs := xs) (a := 23) (lo := 1) (hi := 4) (by omega); omega) rfl (by omega)
  rw [e12, Option.bind_some]
  try dsimp only
  obtain ⟨⟨s13, _, t13⟩, -⟩ := id b12
  rw [c12 s13 t13, Option.bind_some]
  obtain ⟨X14, n14, w14, m14, e14, b14, f14, g14, l14⟩ := ap_const' b12 l12 (i := 8) (by omega) sl8 (by omega)
  rw [e14, Option.bind_some]
  try dsimp only
  rw [draw_i (x := (24 + 3)) (y := 1) (z := 20) (a := 27) (lo := 1) (hi := 20) hL (by decide) rfl rfl (by omega) (by omega) (by omega), Option.bind_some]
  try dsimp only
  obtain ⟨⟨s15, _, t15⟩, -⟩ := id b14
  rw [c12 s15 t15, Option.bind_some]
  obtain ⟨X16, n16, w16, m16, e16, b16, f16, g16, l16⟩ := ap_int' b14 l14 (v := drN L xs 27 1 20) (by have := drN_rg (L := L) (xs := xs) (a := 27) (lo := 1) (hi := 20) (by omega); omega) rfl (by omega)
  rw [e16, Option.bind_some]
  try dsimp only
  obtain ⟨⟨s17, _, t17⟩, -⟩ := id b16
  rw [c12 s17 t17, Option.bind_some]
  obtain ⟨X18, n18, w18, m18, e18, b18, f18, g18, l18⟩ := ap_const' b16 l16 (i := 10) (by omega) sl10 (by omega)
  rw [e18, Option.bind_some]
  try dsimp only
  rw [draw_i (x := (28 + 3)) (y := 0) (z := 2) (a := 31) (lo := 0) (hi := 2) hL (by decide) rfl rfl (by omega) (by omega) (by omega), Option.bind_some]
  try dsimp only
  by_cases c19 : drN L xs 31 0 2 = 0
  · rw [if_pos (show nI (drN L xs 31 0 2) = (0 : Int32) by rw [c19]; rfl)]
    obtain ⟨⟨s20, _, t20⟩, -⟩ := id b18
    rw [c12 s20 t20, Option.bind_some]
    obtain ⟨X21, n21, w21, m21, e21, b21, f21, g21, l21⟩ := ap_const' b18 l18 (i := 11) (by omega) sl11 (by omega)
    rw [e21, Option.bind_some]
    try dsimp only
    obtain ⟨X9, n9, so, w9, e9, z1, z2, z3, z4⟩ := st_H256_4 hL b21 (by omega)
    refine ⟨X9, n9, so, w9, e9, ?_, z2, (f2.trans (f4.trans (f6.trans (f8.trans (f10.trans (f12.trans (f14.trans (f16.trans (f18.trans (f21.trans z3)))))))))), by omega⟩
    rw [show C ++ tl_H256_3 L xs = ((((((((((C ++ strC 6) ++ [100]) ++ strC 7) ++ decC (drN L xs 19 0 9)) ++ strC 1) ++ decC (drN L xs 23 1 4)) ++ strC 8) ++ decC (drN L xs 27 1 20)) ++ strC 10) ++ strC 11) ++ tl_H256_4 L xs from by simp only [tl_H256_3, List.append_assoc, if_pos c19]]
    exact z1
  · rw [if_neg (show ¬ nI (drN L xs 31 0 2) = (0 : Int32) from fun q => c19 ((nI_eq (a := drN L xs 31 0 2) (b := 0) (by have := drN_rg (L := L) (xs := xs) (a := 31) (lo := 0) (hi := 2) (by omega); omega) (by omega)).mp q))]
    rw [draw_i (x := (28 + 3)) (y := 0) (z := 2) (a := 31) (lo := 0) (hi := 2) hL (by decide) rfl rfl (by omega) (by omega) (by omega), Option.bind_some]
    try dsimp only
    by_cases c20 : drN L xs 31 0 2 = 1
    · rw [if_pos (show nI (drN L xs 31 0 2) = (1 : Int32) by rw [c20]; rfl)]
      obtain ⟨⟨s21, _, t21⟩, -⟩ := id b18
      rw [c12 s21 t21, Option.bind_some]
      obtain ⟨X22, n22, w22, m22, e22, b22, f22, g22, l22⟩ := ap_const' b18 l18 (i := 12) (by omega) sl12 (by omega)
      rw [e22, Option.bind_some]
      try dsimp only
      obtain ⟨X9, n9, so, w9, e9, z1, z2, z3, z4⟩ := st_H256_4 hL b22 (by omega)
      refine ⟨X9, n9, so, w9, e9, ?_, z2, (f2.trans (f4.trans (f6.trans (f8.trans (f10.trans (f12.trans (f14.trans (f16.trans (f18.trans (f22.trans z3)))))))))), by omega⟩
      rw [show C ++ tl_H256_3 L xs = ((((((((((C ++ strC 6) ++ [100]) ++ strC 7) ++ decC (drN L xs 19 0 9)) ++ strC 1) ++ decC (drN L xs 23 1 4)) ++ strC 8) ++ decC (drN L xs 27 1 20)) ++ strC 10) ++ strC 12) ++ tl_H256_4 L xs from by simp only [tl_H256_3, List.append_assoc, if_neg c19, if_pos c20]]
      exact z1
    · rw [if_neg (show ¬ nI (drN L xs 31 0 2) = (1 : Int32) from fun q => c20 ((nI_eq (a := drN L xs 31 0 2) (b := 1) (by have := drN_rg (L := L) (xs := xs) (a := 31) (lo := 0) (hi := 2) (by omega); omega) (by omega)).mp q))]
      obtain ⟨⟨s21, _, t21⟩, -⟩ := id b18
      rw [c12 s21 t21, Option.bind_some]
      obtain ⟨X22, n22, w22, m22, e22, b22, f22, g22, l22⟩ := ap_const' b18 l18 (i := 13) (by omega) sl13 (by omega)
      rw [e22, Option.bind_some]
      try dsimp only
      obtain ⟨X9, n9, so, w9, e9, z1, z2, z3, z4⟩ := st_H256_4 hL b22 (by omega)
      refine ⟨X9, n9, so, w9, e9, ?_, z2, (f2.trans (f4.trans (f6.trans (f8.trans (f10.trans (f12.trans (f14.trans (f16.trans (f18.trans (f22.trans z3)))))))))), by omega⟩
      rw [show C ++ tl_H256_3 L xs = ((((((((((C ++ strC 6) ++ [100]) ++ strC 7) ++ decC (drN L xs 19 0 9)) ++ strC 1) ++ decC (drN L xs 23 1 4)) ++ strC 8) ++ decC (drN L xs 27 1 20)) ++ strC 10) ++ strC 13) ++ tl_H256_4 L xs from by simp only [tl_H256_3, List.append_assoc, if_neg c19, if_neg c20]]
      exact z1
def tl_H256_2 (L : Nat) (xs : Nat → Int32) : List Nat := strC 6 ++ [99] ++ strC 7 ++ decC (drN L xs 18 0 9) ++ strC 1 ++ decC (drN L xs 22 1 4) ++ strC 8 ++ decC (drN L xs 26 1 20) ++ strC 9 ++ (if drN L xs 30 0 2 = 0 then strC 11 else if drN L xs 30 0 2 = 1 then strC 12 else strC 13) ++ tl_H256_3 L xs
theorem st_H256_2 {L : Nat} {xs : Nat → Int32} (hL : L < 2 ^ 31) {n : Nat} {w : Wd} {sb m : Nat} {C : List Nat} (h : SBd X n w sb C m) (hl : 198 ≤ C.length ∧ C.length ≤ 388) : ∃ X' n' so w', f_L_setup_H256_2 L xs (Kx X) n (some sb) w = some (Kx X', n', some so, w') ∧ STR X' n' w' so (C ++ tl_H256_2 L xs) ∧ FX w' ∧ Fr TSy TAy w w' ∧ n ≤ n' := by
  unfold f_L_setup_H256_2
  obtain ⟨⟨s1, _, t1⟩, -⟩ := id h
  rw [c12 s1 t1, Option.bind_some]
  obtain ⟨X2, n2, w2, m2, e2, b2, f2, g2, l2⟩ := ap_const' h hl (i := 6) (by omega) sl6 (by omega)
  rw [e2, Option.bind_some]
  try dsimp only
  obtain ⟨⟨s3, _, t3⟩, -⟩ := id b2
  rw [c12 s3 t3, Option.bind_some]
  obtain ⟨X4, n4, w4, m4, e4, b4, f4, g4, l4⟩ := ap_char' b2 l2 (k := 99) (c := (i2cI (97 + 2))) (by omega) (by decide) (by omega)
  rw [e4, Option.bind_some]
  try dsimp only
  obtain ⟨⟨s5, _, t5⟩, -⟩ := id b4
  rw [c12 s5 t5, Option.bind_some]
  obtain ⟨X6, n6, w6, m6, e6, b6, f6, g6, l6⟩ := ap_const' b4 l4 (i := 7) (by omega) sl7 (by omega)
  rw [e6, Option.bind_some]
  try dsimp only
  rw [draw_i (x := (16 + 2)) (y := 0) (z := 9) (a := 18) (lo := 0) (hi := 9) hL (by decide) rfl rfl (by omega) (by omega) (by omega), Option.bind_some]
  try dsimp only
  obtain ⟨⟨s7, _, t7⟩, -⟩ := id b6
  rw [c12 s7 t7, Option.bind_some]
  obtain ⟨X8, n8, w8, m8, e8, b8, f8, g8, l8⟩ := ap_int' b6 l6 (v := drN L xs 18 0 9) (by have := drN_rg (L := L) (xs := xs) (a := 18) (lo := 0) (hi := 9) (by omega); omega) rfl (by omega)
  rw [e8, Option.bind_some]
  try dsimp only
  obtain ⟨⟨s9, _, t9⟩, -⟩ := id b8
  rw [c12 s9 t9, Option.bind_some]
  obtain ⟨X10, n10, w10, m10, e10, b10, f10, g10, l10⟩ := ap_const' b8 l8 (i := 1) (by omega) sl1 (by omega)
  rw [e10, Option.bind_some]
  try dsimp only
  rw [draw_i (x := (20 + 2)) (y := 1) (z := 4) (a := 22) (lo := 1) (hi := 4) hL (by decide) rfl rfl (by omega) (by omega) (by omega), Option.bind_some]
  try dsimp only
  obtain ⟨⟨s11, _, t11⟩, -⟩ := id b10
  rw [c12 s11 t11, Option.bind_some]
  obtain ⟨X12, n12, w12, m12, e12, b12, f12, g12, l12⟩ := ap_int' b10 l10 (v := drN L xs 22 1 4) (by have := drN_rg (L := L) (xs := xs) (a := 22) (lo := 1) (hi := 4) (by omega); omega) rfl (by omega)
  rw [e12, Option.bind_some]
  try dsimp only
  obtain ⟨⟨s13, _, t13⟩, -⟩ := id b12
  rw [c12 s13 t13, Option.bind_some]
  obtain ⟨X14, n14, w14, m14, e14, b14, f14, g14, l14⟩ := ap_const' b12 l12 (i := 8) (by omega) sl8 (by omega)
  rw [e14, Option.bind_some]
  try dsimp only
  rw [draw_i (x := (24 + 2)) (y := 1) (z := 20) (a := 26) (lo := 1) (hi := 20) hL (by decide) rfl rfl (by omega) (by omega) (by omega), Option.bind_some]
  try dsimp only
  obtain ⟨⟨s15, _, t15⟩, -⟩ := id b14
  rw [c12 s15 t15, Option.bind_some]
  obtain ⟨X16, n16, w16, m16, e16, b16, f16, g16, l16⟩ := ap_int' b14 l14 (v := drN L xs 26 1 20) (by have := drN_rg (L := L) (xs := xs) (a := 26) (lo := 1) (hi := 20) (by omega); omega) rfl (by omega)
  rw [e16, Option.bind_some]
  try dsimp only
  obtain ⟨⟨s17, _, t17⟩, -⟩ := id b16
  rw [c12 s17 t17, Option.bind_some]
  obtain ⟨X18, n18, w18, m18, e18, b18, f18, g18, l18⟩ := ap_const' b16 l16 (i := 9) (by omega) sl9 (by omega)
  rw [e18, Option.bind_some]
  try dsimp only
  rw [draw_i (x := (28 + 2)) (y := 0) (z := 2) (a := 30) (lo := 0) (hi := 2) hL (by decide) rfl rfl (by omega) (by omega) (by omega), Option.bind_some]
  try dsimp only
  by_cases c19 : drN L xs 30 0 2 = 0
  · rw [if_pos (show nI (drN L xs 30 0 2) = (0 : Int32) by rw [c19]; rfl)]
    obtain ⟨⟨s20, _, t20⟩, -⟩ := id b18
    rw [c12 s20 t20, Option.bind_some]
    obtain ⟨X21, n21, w21, m21, e21, b21, f21, g21, l21⟩ := ap_const' b18 l18 (i := 11) (by omega) sl11 (by omega)
    rw [e21, Option.bind_some]
    try dsimp only
    obtain ⟨X9, n9, so, w9, e9, z1, z2, z3, z4⟩ := st_H256_3 hL b21 (by omega)
    refine ⟨X9, n9, so, w9, e9, ?_, z2, (f2.trans (f4.trans (f6.trans (f8.trans (f10.trans (f12.trans (f14.trans (f16.trans (f18.trans (f21.trans z3)))))))))), by omega⟩
    rw [show C ++ tl_H256_2 L xs = ((((((((((C ++ strC 6) ++ [99]) ++ strC 7) ++ decC (drN L xs 18 0 9)) ++ strC 1) ++ decC (drN L xs 22 1 4)) ++ strC 8) ++ decC (drN L xs 26 1 20)) ++ strC 9) ++ strC 11) ++ tl_H256_3 L xs from by simp only [tl_H256_2, List.append_assoc, if_pos c19]]
    exact z1
  · rw [if_neg (show ¬ nI (drN L xs 30 0 2) = (0 : Int32) from fun q => c19 ((nI_eq (a := drN L xs 30 0 2) (b := 0) (by have := drN_rg (L := L) (xs := xs) (a := 30) (lo := 0) (hi := 2) (by omega); omega) (by omega)).mp q))]
    rw [draw_i (x := (28 + 2)) (y := 0) (z := 2) (a := 30) (lo := 0) (hi := 2) hL (by decide) rfl rfl (by omega) (by omega) (by omega), Option.bind_some]
    try dsimp only
    by_cases c20 : drN L xs 30 0 2 = 1
    · rw [if_pos (show nI (drN L xs 30 0 2) = (1 : Int32) by rw [c20]; rfl)]
      obtain ⟨⟨s21, _, t21⟩, -⟩ := id b18
      rw [c12 s21 t21, Option.bind_some]
      obtain ⟨X22, n22, w22, m22, e22, b22, f22, g22, l22⟩ := ap_const' b18 l18 (i := 12) (by omega) sl12 (by omega)
      rw [e22, Option.bind_some]
      try dsimp only
      obtain ⟨X9, n9, so, w9, e9, z1, z2, z3, z4⟩ := st_H256_3 hL b22 (by omega)
      refine ⟨X9, n9, so, w9, e9, ?_, z2, (f2.trans (f4.trans (f6.trans (f8.trans (f10.trans (f12.trans (f14.trans (f16.trans (f18.trans (f22.trans z3)))))))))), by omega⟩
      rw [show C ++ tl_H256_2 L xs = ((((((((((C ++ strC 6) ++ [99]) ++ strC 7) ++ decC (drN L xs 18 0 9)) ++ strC 1) ++ decC (drN L xs 22 1 4)) ++ strC 8) ++ decC (drN L xs 26 1 20)) ++ strC 9) ++ strC 12) ++ tl_H256_3 L xs from by simp only [tl_H256_2, List.append_assoc, if_neg c19, if_pos c20]]
      exact z1
    · rw [if_neg (show ¬ nI (drN L xs 30 0 2) = (1 : Int32) from fun q => c20 ((nI_eq (a := drN L xs 30 0 2) (b := 1) (by have := drN_rg (L := L) (xs := xs) (a := 30) (lo := 0) (hi := 2) (by omega); omega) (by omega)).mp q))]
      obtain ⟨⟨s21, _, t21⟩, -⟩ := id b18
      rw [c12 s21 t21, Option.bind_some]
      obtain ⟨X22, n22, w22, m22, e22, b22, f22, g22, l22⟩ := ap_const' b18 l18 (i := 13) (by omega) sl13 (by omega)
      rw [e22, Option.bind_some]
      try dsimp only
      obtain ⟨X9, n9, so, w9, e9, z1, z2, z3, z4⟩ := st_H256_3 hL b22 (by omega)
      refine ⟨X9, n9, so, w9, e9, ?_, z2, (f2.trans (f4.trans (f6.trans (f8.trans (f10.trans (f12.trans (f14.trans (f16.trans (f18.trans (f22.trans z3)))))))))), by omega⟩
      rw [show C ++ tl_H256_2 L xs = ((((((((((C ++ strC 6) ++ [99]) ++ strC 7) ++ decC (drN L xs 18 0 9)) ++ strC 1) ++ decC (drN L xs 22 1 4)) ++ strC 8) ++ decC (drN L xs 26 1 20)) ++ strC 9) ++ strC 13) ++ tl_H256_3 L xs from by simp only [tl_H256_2, List.append_assoc, if_neg c19, if_neg c20]]
      exact z1
def tl_H256_1 (L : Nat) (xs : Nat → Int32) : List Nat := strC 6 ++ [98] ++ strC 7 ++ decC (drN L xs 17 0 9) ++ strC 1 ++ decC (drN L xs 21 1 4) ++ strC 8 ++ decC (drN L xs 25 1 20) ++ strC 10 ++ (if drN L xs 29 0 2 = 0 then strC 11 else if drN L xs 29 0 2 = 1 then strC 12 else strC 13) ++ tl_H256_2 L xs
theorem st_H256_1 {L : Nat} {xs : Nat → Int32} (hL : L < 2 ^ 31) {n : Nat} {w : Wd} {sb m : Nat} {C : List Nat} (h : SBd X n w sb C m) (hl : 167 ≤ C.length ∧ C.length ≤ 346) : ∃ X' n' so w', f_L_setup_H256_1 L xs (Kx X) n (some sb) w = some (Kx X', n', some so, w') ∧ STR X' n' w' so (C ++ tl_H256_1 L xs) ∧ FX w' ∧ Fr TSy TAy w w' ∧ n ≤ n' := by
  unfold f_L_setup_H256_1
  obtain ⟨⟨s1, _, t1⟩, -⟩ := id h
  rw [c12 s1 t1, Option.bind_some]
  obtain ⟨X2, n2, w2, m2, e2, b2, f2, g2, l2⟩ := ap_const' h hl (i := 6) (by omega) sl6 (by omega)
  rw [e2, Option.bind_some]
  try dsimp only
  obtain ⟨⟨s3, _, t3⟩, -⟩ := id b2
  rw [c12 s3 t3, Option.bind_some]
  obtain ⟨X4, n4, w4, m4, e4, b4, f4, g4, l4⟩ := ap_char' b2 l2 (k := 98) (c := (i2cI (97 + 1))) (by omega) (by decide) (by omega)
  rw [e4, Option.bind_some]
  try dsimp only
  obtain ⟨⟨s5, _, t5⟩, -⟩ := id b4
  rw [c12 s5 t5, Option.bind_some]
  obtain ⟨X6, n6, w6, m6, e6, b6, f6, g6, l6⟩ := ap_const' b4 l4 (i := 7) (by omega) sl7 (by omega)
  rw [e6, Option.bind_some]
  try dsimp only
  rw [draw_i (x := (16 + 1)) (y := 0) (z := 9) (a := 17) (lo := 0) (hi := 9) hL (by decide) rfl rfl (by omega) (by omega) (by omega), Option.bind_some]
  try dsimp only
  obtain ⟨⟨s7, _, t7⟩, -⟩ := id b6
  rw [c12 s7 t7, Option.bind_some]
  obtain ⟨X8, n8, w8, m8, e8, b8, f8, g8, l8⟩ := ap_int' b6 l6 (v := drN L xs 17 0 9) (by have := drN_rg (L := L) (xs := xs) (a := 17) (lo := 0) (hi := 9) (by omega); omega) rfl (by omega)
  rw [e8, Option.bind_some]
  try dsimp only
  obtain ⟨⟨s9, _, t9⟩, -⟩ := id b8
  rw [c12 s9 t9, Option.bind_some]
  obtain ⟨X10, n10, w10, m10, e10, b10, f10, g10, l10⟩ := ap_const' b8 l8 (i := 1) (by omega) sl1 (by omega)
  rw [e10, Option.bind_some]
  try dsimp only
  rw [draw_i (x := (20 + 1)) (y := 1) (z := 4) (a := 21) (lo := 1) (hi := 4) hL (by decide) rfl rfl (by omega) (by omega) (by omega), Option.bind_some]
  try dsimp only
  obtain ⟨⟨s11, _, t11⟩, -⟩ := id b10
  rw [c12 s11 t11, Option.bind_some]
  obtain ⟨X12, n12, w12, m12, e12, b12, f12, g12, l12⟩ := ap_int' b10 l10 (v := drN L xs 21 1 4) (by have := drN_rg (L := L) (xs := xs) (a := 21) (lo := 1) (hi := 4) (by omega); omega) rfl (by omega)
  rw [e12, Option.bind_some]
  try dsimp only
  obtain ⟨⟨s13, _, t13⟩, -⟩ := id b12
  rw [c12 s13 t13, Option.bind_some]
  obtain ⟨X14, n14, w14, m14, e14, b14, f14, g14, l14⟩ := ap_const' b12 l12 (i := 8) (by omega) sl8 (by omega)
  rw [e14, Option.bind_some]
  try dsimp only
  rw [draw_i (x := (24 + 1)) (y := 1) (z := 20) (a := 25) (lo := 1) (hi := 20) hL (by decide) rfl rfl (by omega) (by omega) (by omega), Option.bind_some]
  try dsimp only
  obtain ⟨⟨s15, _, t15⟩, -⟩ := id b14
  rw [c12 s15 t15, Option.bind_some]
  obtain ⟨X16, n16, w16, m16, e16, b16, f16, g16, l16⟩ := ap_int' b14 l14 (v := drN L xs 25 1 20) (by have := drN_rg (L := L) (xs := xs) (a := 25) (lo := 1) (hi := 20) (by omega); omega) rfl (by omega)
  rw [e16, Option.bind_some]
  try dsimp only
  obtain ⟨⟨s17, _, t17⟩, -⟩ := id b16
  rw [c12 s17 t17, Option.bind_some]
  obtain ⟨X18, n18, w18, m18, e18, b18, f18, g18, l18⟩ := ap_const' b16 l16 (i := 10) (by omega) sl10 (by omega)
  rw [e18, Option.bind_some]
  try dsimp only
  rw [draw_i (x := (28 + 1)) (y := 0) (z := 2) (a := 29) (lo := 0) (hi := 2) hL (by decide) rfl rfl (by omega) (by omega) (by omega), Option.bind_some]
  try dsimp only
  by_cases c19 : drN L xs 29 0 2 = 0
  · rw [if_pos (show nI (drN L xs 29 0 2) = (0 : Int32) by rw [c19]; rfl)]
    obtain ⟨⟨s20, _, t20⟩, -⟩ := id b18
    rw [c12 s20 t20, Option.bind_some]
    obtain ⟨X21, n21, w21, m21, e21, b21, f21, g21, l21⟩ := ap_const' b18 l18 (i := 11) (by omega) sl11 (by omega)
    rw [e21, Option.bind_some]
    try dsimp only
    obtain ⟨X9, n9, so, w9, e9, z1, z2, z3, z4⟩ := st_H256_2 hL b21 (by omega)
    refine ⟨X9, n9, so, w9, e9, ?_, z2, (f2.trans (f4.trans (f6.trans (f8.trans (f10.trans (f12.trans (f14.trans (f16.trans (f18.trans (f21.trans z3)))))))))), by omega⟩
    rw [show C ++ tl_H256_1 L xs = ((((((((((C ++ strC 6) ++ [98]) ++ strC 7) ++ decC (drN L xs 17 0 9)) ++ strC 1) ++ decC (drN L xs 21 1 4)) ++ strC 8) ++ decC (drN L xs 25 1 20)) ++ strC 10) ++ strC 11) ++ tl_H256_2 L xs from by simp only [tl_H256_1, List.append_assoc, if_pos c19]]
    exact z1
  · rw [if_neg (show ¬ nI (drN L xs 29 0 2) = (0 : Int32) from fun q => c19 ((nI_eq (a := drN L xs 29 0 2) (b := 0) (by have := drN_rg (L := L) (xs := xs) (a := 29) (lo := 0) (hi := 2) (by omega); omega) (by omega)).mp q))]
    rw [draw_i (x := (28 + 1)) (y := 0) (z := 2) (a := 29) (lo := 0) (hi := 2) hL (by decide) rfl rfl (by omega) (by omega) (by omega), Option.bind_some]
    try dsimp only
    by_cases c20 : drN L xs 29 0 2 = 1
    · rw [if_pos (show nI (drN L xs 29 0 2) = (1 : Int32) by rw [c20]; rfl)]
      obtain ⟨⟨s21, _, t21⟩, -⟩ := id b18
      rw [c12 s21 t21, Option.bind_some]
      obtain ⟨X22, n22, w22, m22, e22, b22, f22, g22, l22⟩ := ap_const' b18 l18 (i := 12) (by omega) sl12 (by omega)
      rw [e22, Option.bind_some]
      try dsimp only
      obtain ⟨X9, n9, so, w9, e9, z1, z2, z3, z4⟩ := st_H256_2 hL b22 (by omega)
      refine ⟨X9, n9, so, w9, e9, ?_, z2, (f2.trans (f4.trans (f6.trans (f8.trans (f10.trans (f12.trans (f14.trans (f16.trans (f18.trans (f22.trans z3)))))))))), by omega⟩
      rw [show C ++ tl_H256_1 L xs = ((((((((((C ++ strC 6) ++ [98]) ++ strC 7) ++ decC (drN L xs 17 0 9)) ++ strC 1) ++ decC (drN L xs 21 1 4)) ++ strC 8) ++ decC (drN L xs 25 1 20)) ++ strC 10) ++ strC 12) ++ tl_H256_2 L xs from by simp only [tl_H256_1, List.append_assoc, if_neg c19, if_pos c20]]
      exact z1
    · rw [if_neg (show ¬ nI (drN L xs 29 0 2) = (1 : Int32) from fun q => c20 ((nI_eq (a := drN L xs 29 0 2) (b := 1) (by have := drN_rg (L := L) (xs := xs) (a := 29) (lo := 0) (hi := 2) (by omega); omega) (by omega)).mp q))]
      obtain ⟨⟨s21, _, t21⟩, -⟩ := id b18
      rw [c12 s21 t21, Option.bind_some]
      obtain ⟨X22, n22, w22, m22, e22, b22, f22, g22, l22⟩ := ap_const' b18 l18 (i := 13) (by omega) sl13 (by omega)
      rw [e22, Option.bind_some]
      try dsimp only
      obtain ⟨X9, n9, so, w9, e9, z1, z2, z3, z4⟩ := st_H256_2 hL b22 (by omega)
      refine ⟨X9, n9, so, w9, e9, ?_, z2, (f2.trans (f4.trans (f6.trans (f8.trans (f10.trans (f12.trans (f14.trans (f16.trans (f18.trans (f22.trans z3)))))))))), by omega⟩
      rw [show C ++ tl_H256_1 L xs = ((((((((((C ++ strC 6) ++ [98]) ++ strC 7) ++ decC (drN L xs 17 0 9)) ++ strC 1) ++ decC (drN L xs 21 1 4)) ++ strC 8) ++ decC (drN L xs 25 1 20)) ++ strC 10) ++ strC 13) ++ tl_H256_2 L xs from by simp only [tl_H256_1, List.append_assoc, if_neg c19, if_neg c20]]
      exact z1
def tl_H256_0 (L : Nat) (xs : Nat → Int32) : List Nat := strC 6 ++ [97] ++ strC 7 ++ decC (drN L xs 16 0 9) ++ strC 1 ++ decC (drN L xs 20 1 4) ++ strC 8 ++ decC (drN L xs 24 1 20) ++ strC 9 ++ (if drN L xs 28 0 2 = 0 then strC 11 else if drN L xs 28 0 2 = 1 then strC 12 else strC 13) ++ tl_H256_1 L xs
theorem st_H256_0 {L : Nat} {xs : Nat → Int32} (hL : L < 2 ^ 31) {n : Nat} {w : Wd} {sb m : Nat} {C : List Nat} (h : SBd X n w sb C m) (hl : 128 ≤ C.length ∧ C.length ≤ 296) : ∃ X' n' so w', f_L_setup_H256_0 L xs (Kx X) n (some sb) w = some (Kx X', n', some so, w') ∧ STR X' n' w' so (C ++ tl_H256_0 L xs) ∧ FX w' ∧ Fr TSy TAy w w' ∧ n ≤ n' := by
  unfold f_L_setup_H256_0
  obtain ⟨⟨s1, _, t1⟩, -⟩ := id h
  rw [c12 s1 t1, Option.bind_some]
  obtain ⟨X2, n2, w2, m2, e2, b2, f2, g2, l2⟩ := ap_const' h hl (i := 6) (by omega) sl6 (by omega)
  rw [e2, Option.bind_some]
  try dsimp only
  obtain ⟨⟨s3, _, t3⟩, -⟩ := id b2
  rw [c12 s3 t3, Option.bind_some]
  obtain ⟨X4, n4, w4, m4, e4, b4, f4, g4, l4⟩ := ap_char' b2 l2 (k := 97) (c := (i2cI (97 + 0))) (by omega) (by decide) (by omega)
  rw [e4, Option.bind_some]
  try dsimp only
  obtain ⟨⟨s5, _, t5⟩, -⟩ := id b4
  rw [c12 s5 t5, Option.bind_some]
  obtain ⟨X6, n6, w6, m6, e6, b6, f6, g6, l6⟩ := ap_const' b4 l4 (i := 7) (by omega) sl7 (by omega)
  rw [e6, Option.bind_some]
  try dsimp only
  rw [draw_i (x := (16 + 0)) (y := 0) (z := 9) (a := 16) (lo := 0) (hi := 9) hL (by decide) rfl rfl (by omega) (by omega) (by omega), Option.bind_some]
  try dsimp only
  obtain ⟨⟨s7, _, t7⟩, -⟩ := id b6
  rw [c12 s7 t7, Option.bind_some]
  obtain ⟨X8, n8, w8, m8, e8, b8, f8, g8, l8⟩ := ap_int' b6 l6 (v := drN L xs 16 0 9) (by have := drN_rg (L := L) (xs := xs) (a := 16) (lo := 0) (hi := 9) (by omega); omega) rfl (by omega)
  rw [e8, Option.bind_some]
  try dsimp only
  obtain ⟨⟨s9, _, t9⟩, -⟩ := id b8
  rw [c12 s9 t9, Option.bind_some]
  obtain ⟨X10, n10, w10, m10, e10, b10, f10, g10, l10⟩ := ap_const' b8 l8 (i := 1) (by omega) sl1 (by omega)
  rw [e10, Option.bind_some]
  try dsimp only
  rw [draw_i (x := (20 + 0)) (y := 1) (z := 4) (a := 20) (lo := 1) (hi := 4) hL (by decide) rfl rfl (by omega) (by omega) (by omega), Option.bind_some]
  try dsimp only
  obtain ⟨⟨s11, _, t11⟩, -⟩ := id b10
  rw [c12 s11 t11, Option.bind_some]
  obtain ⟨X12, n12, w12, m12, e12, b12, f12, g12, l12⟩ := ap_int' b10 l10 (v := drN L xs 20 1 4) (by have := drN_rg (L := L) (xs := xs) (a := 20) (lo := 1) (hi := 4) (by omega); omega) rfl (by omega)
  rw [e12, Option.bind_some]
  try dsimp only
  obtain ⟨⟨s13, _, t13⟩, -⟩ := id b12
  rw [c12 s13 t13, Option.bind_some]
  obtain ⟨X14, n14, w14, m14, e14, b14, f14, g14, l14⟩ := ap_const' b12 l12 (i := 8) (by omega) sl8 (by omega)
  rw [e14, Option.bind_some]
  try dsimp only
  rw [draw_i (x := (24 + 0)) (y := 1) (z := 20) (a := 24) (lo := 1) (hi := 20) hL (by decide) rfl rfl (by omega) (by omega) (by omega), Option.bind_some]
  try dsimp only
  obtain ⟨⟨s15, _, t15⟩, -⟩ := id b14
  rw [c12 s15 t15, Option.bind_some]
  obtain ⟨X16, n16, w16, m16, e16, b16, f16, g16, l16⟩ := ap_int' b14 l14 (v := drN L xs 24 1 20) (by have := drN_rg (L := L) (xs := xs) (a := 24) (lo := 1) (hi := 20) (by omega); omega) rfl (by omega)
  rw [e16, Option.bind_some]
  try dsimp only
  obtain ⟨⟨s17, _, t17⟩, -⟩ := id b16
  rw [c12 s17 t17, Option.bind_some]
  obtain ⟨X18, n18, w18, m18, e18, b18, f18, g18, l18⟩ := ap_const' b16 l16 (i := 9) (by omega) sl9 (by omega)
  rw [e18, Option.bind_some]
  try dsimp only
  rw [draw_i (x := (28 + 0)) (y := 0) (z := 2) (a := 28) (lo := 0) (hi := 2) hL (by decide) rfl rfl (by omega) (by omega) (by omega), Option.bind_some]
  try dsimp only
  by_cases c19 : drN L xs 28 0 2 = 0
  · rw [if_pos (show nI (drN L xs 28 0 2) = (0 : Int32) by rw [c19]; rfl)]
    obtain ⟨⟨s20, _, t20⟩, -⟩ := id b18
    rw [c12 s20 t20, Option.bind_some]
    obtain ⟨X21, n21, w21, m21, e21, b21, f21, g21, l21⟩ := ap_const' b18 l18 (i := 11) (by omega) sl11 (by omega)
    rw [e21, Option.bind_some]
    try dsimp only
    obtain ⟨X9, n9, so, w9, e9, z1, z2, z3, z4⟩ := st_H256_1 hL b21 (by omega)
    refine ⟨X9, n9, so, w9, e9, ?_, z2, (f2.trans (f4.trans (f6.trans (f8.trans (f10.trans (f12.trans (f14.trans (f16.trans (f18.trans (f21.trans z3)))))))))), by omega⟩
    rw [show C ++ tl_H256_0 L xs = ((((((((((C ++ strC 6) ++ [97]) ++ strC 7) ++ decC (drN L xs 16 0 9)) ++ strC 1) ++ decC (drN L xs 20 1 4)) ++ strC 8) ++ decC (drN L xs 24 1 20)) ++ strC 9) ++ strC 11) ++ tl_H256_1 L xs from by simp only [tl_H256_0, List.append_assoc, if_pos c19]]
    exact z1
  · rw [if_neg (show ¬ nI (drN L xs 28 0 2) = (0 : Int32) from fun q => c19 ((nI_eq (a := drN L xs 28 0 2) (b := 0) (by have := drN_rg (L := L) (xs := xs) (a := 28) (lo := 0) (hi := 2) (by omega); omega) (by omega)).mp q))]
    rw [draw_i (x := (28 + 0)) (y := 0) (z := 2) (a := 28) (lo := 0) (hi := 2) hL (by decide) rfl rfl (by omega) (by omega) (by omega), Option.bind_some]
    try dsimp only
    by_cases c20 : drN L xs 28 0 2 = 1
    · rw [if_pos (show nI (drN L xs 28 0 2) = (1 : Int32) by rw [c20]; rfl)]
      obtain ⟨⟨s21, _, t21⟩, -⟩ := id b18
      rw [c12 s21 t21, Option.bind_some]
      obtain ⟨X22, n22, w22, m22, e22, b22, f22, g22, l22⟩ := ap_const' b18 l18 (i := 12) (by omega) sl12 (by omega)
      rw [e22, Option.bind_some]
      try dsimp only
      obtain ⟨X9, n9, so, w9, e9, z1, z2, z3, z4⟩ := st_H256_1 hL b22 (by omega)
      refine ⟨X9, n9, so, w9, e9, ?_, z2, (f2.trans (f4.trans (f6.trans (f8.trans (f10.trans (f12.trans (f14.trans (f16.trans (f18.trans (f22.trans z3)))))))))), by omega⟩
      rw [show C ++ tl_H256_0 L xs = ((((((((((C ++ strC 6) ++ [97]) ++ strC 7) ++ decC (drN L xs 16 0 9)) ++ strC 1) ++ decC (drN L xs 20 1 4)) ++ strC 8) ++ decC (drN L xs 24 1 20)) ++ strC 9) ++ strC 12) ++ tl_H256_1 L xs from by simp only [tl_H256_0, List.append_assoc, if_neg c19, if_pos c20]]
      exact z1
    · rw [if_neg (show ¬ nI (drN L xs 28 0 2) = (1 : Int32) from fun q => c20 ((nI_eq (a := drN L xs 28 0 2) (b := 1) (by have := drN_rg (L := L) (xs := xs) (a := 28) (lo := 0) (hi := 2) (by omega); omega) (by omega)).mp q))]
      obtain ⟨⟨s21, _, t21⟩, -⟩ := id b18
      rw [c12 s21 t21, Option.bind_some]
      obtain ⟨X22, n22, w22, m22, e22, b22, f22, g22, l22⟩ := ap_const' b18 l18 (i := 13) (by omega) sl13 (by omega)
      rw [e22, Option.bind_some]
      try dsimp only
      obtain ⟨X9, n9, so, w9, e9, z1, z2, z3, z4⟩ := st_H256_1 hL b22 (by omega)
      refine ⟨X9, n9, so, w9, e9, ?_, z2, (f2.trans (f4.trans (f6.trans (f8.trans (f10.trans (f12.trans (f14.trans (f16.trans (f18.trans (f22.trans z3)))))))))), by omega⟩
      rw [show C ++ tl_H256_0 L xs = ((((((((((C ++ strC 6) ++ [97]) ++ strC 7) ++ decC (drN L xs 16 0 9)) ++ strC 1) ++ decC (drN L xs 20 1 4)) ++ strC 8) ++ decC (drN L xs 24 1 20)) ++ strC 9) ++ strC 13) ++ tl_H256_1 L xs from by simp only [tl_H256_0, List.append_assoc, if_neg c19, if_neg c20]]
      exact z1
def tl_H147_2 (L : Nat) (xs : Nat → Int32) : List Nat := tl_H256_0 L xs
theorem st_H147_2 {L : Nat} {xs : Nat → Int32} (hL : L < 2 ^ 31) {n : Nat} {w : Wd} {sb m : Nat} {C : List Nat} (h : SBd X n w sb C m) (hl : 128 ≤ C.length ∧ C.length ≤ 296) : ∃ X' n' so w', f_L_setup_H147_2 L xs (Kx X) n (some sb) w = some (Kx X', n', some so, w') ∧ STR X' n' w' so (C ++ tl_H147_2 L xs) ∧ FX w' ∧ Fr TSy TAy w w' ∧ n ≤ n' := by
  unfold f_L_setup_H147_2
  obtain ⟨X9, n9, so, w9, e9, z1, z2, z3, z4⟩ := st_H256_0 hL h (by omega)
  refine ⟨X9, n9, so, w9, e9, ?_, z2, z3, by omega⟩
  rw [show C ++ tl_H147_2 L xs = C ++ tl_H256_0 L xs from by simp only [tl_H147_2, List.append_assoc]]
  exact z1
def tl_H147_1 (L : Nat) (xs : Nat → Int32) : List Nat := strC 4 ++ [120] ++ strC 5 ++ decC (drN L xs 9 0 9) ++ [32] ++ decC (drN L xs 11 9 60) ++ strC 1 ++ decC (drN L xs 13 0 1) ++ [32] ++ decC (drN L xs 15 4 7) ++ [59] ++ tl_H147_2 L xs
theorem st_H147_1 {L : Nat} {xs : Nat → Int32} (hL : L < 2 ^ 31) {n : Nat} {w : Wd} {sb m : Nat} {C : List Nat} (h : SBd X n w sb C m) (hl : 99 ≤ C.length ∧ C.length ≤ 263) : ∃ X' n' so w', f_L_setup_H147_1 L xs (Kx X) n (some sb) w = some (Kx X', n', some so, w') ∧ STR X' n' w' so (C ++ tl_H147_1 L xs) ∧ FX w' ∧ Fr TSy TAy w w' ∧ n ≤ n' := by
  unfold f_L_setup_H147_1
  obtain ⟨⟨s1, _, t1⟩, -⟩ := id h
  rw [c12 s1 t1, Option.bind_some]
  obtain ⟨X2, n2, w2, m2, e2, b2, f2, g2, l2⟩ := ap_const' h hl (i := 4) (by omega) sl4 (by omega)
  rw [e2, Option.bind_some]
  try dsimp only
  obtain ⟨⟨s3, _, t3⟩, -⟩ := id b2
  rw [c12 s3 t3, Option.bind_some]
  obtain ⟨X4, n4, w4, m4, e4, b4, f4, g4, l4⟩ := ap_char' b2 l2 (k := 120) (c := (i2cI (119 + 1))) (by omega) (by decide) (by omega)
  rw [e4, Option.bind_some]
  try dsimp only
  obtain ⟨⟨s5, _, t5⟩, -⟩ := id b4
  rw [c12 s5 t5, Option.bind_some]
  obtain ⟨X6, n6, w6, m6, e6, b6, f6, g6, l6⟩ := ap_const' b4 l4 (i := 5) (by omega) sl5 (by omega)
  rw [e6, Option.bind_some]
  try dsimp only
  rw [draw_i (x := (8 + 1)) (y := 0) (z := 9) (a := 9) (lo := 0) (hi := 9) hL (by decide) rfl rfl (by omega) (by omega) (by omega), Option.bind_some]
  try dsimp only
  obtain ⟨⟨s7, _, t7⟩, -⟩ := id b6
  rw [c12 s7 t7, Option.bind_some]
  obtain ⟨X8, n8, w8, m8, e8, b8, f8, g8, l8⟩ := ap_int' b6 l6 (v := drN L xs 9 0 9) (by have := drN_rg (L := L) (xs := xs) (a := 9) (lo := 0) (hi := 9) (by omega); omega) rfl (by omega)
  rw [e8, Option.bind_some]
  try dsimp only
  obtain ⟨⟨s9, _, t9⟩, -⟩ := id b8
  rw [c12 s9 t9, Option.bind_some]
  obtain ⟨X10, n10, w10, m10, e10, b10, f10, g10, l10⟩ := ap_char' b8 l8 (k := 32) (c := 32) (by omega) (by decide) (by omega)
  rw [e10, Option.bind_some]
  try dsimp only
  rw [draw_i (x := (10 + 1)) (y := 9) (z := 60) (a := 11) (lo := 9) (hi := 60) hL (by decide) rfl rfl (by omega) (by omega) (by omega), Option.bind_some]
  try dsimp only
  obtain ⟨⟨s11, _, t11⟩, -⟩ := id b10
  rw [c12 s11 t11, Option.bind_some]
  obtain ⟨X12, n12, w12, m12, e12, b12, f12, g12, l12⟩ := ap_int' b10 l10 (v := drN L xs 11 9 60) (by have := drN_rg (L := L) (xs := xs) (a := 11) (lo := 9) (hi := 60) (by omega); omega) rfl (by omega)
  rw [e12, Option.bind_some]
  try dsimp only
  obtain ⟨⟨s13, _, t13⟩, -⟩ := id b12
  rw [c12 s13 t13, Option.bind_some]
  obtain ⟨X14, n14, w14, m14, e14, b14, f14, g14, l14⟩ := ap_const' b12 l12 (i := 1) (by omega) sl1 (by omega)
  rw [e14, Option.bind_some]
  try dsimp only
  rw [draw_i (x := (12 + 1)) (y := 0) (z := 1) (a := 13) (lo := 0) (hi := 1) hL (by decide) rfl rfl (by omega) (by omega) (by omega), Option.bind_some]
  try dsimp only
  obtain ⟨⟨s15, _, t15⟩, -⟩ := id b14
  rw [c12 s15 t15, Option.bind_some]
  obtain ⟨X16, n16, w16, m16, e16, b16, f16, g16, l16⟩ := ap_int' b14 l14 (v := drN L xs 13 0 1) (by have := drN_rg (L := L) (xs := xs) (a := 13) (lo := 0) (hi := 1) (by omega); omega) rfl (by omega)
  rw [e16, Option.bind_some]
  try dsimp only
  obtain ⟨⟨s17, _, t17⟩, -⟩ := id b16
  rw [c12 s17 t17, Option.bind_some]
  obtain ⟨X18, n18, w18, m18, e18, b18, f18, g18, l18⟩ := ap_char' b16 l16 (k := 32) (c := 32) (by omega) (by decide) (by omega)
  rw [e18, Option.bind_some]
  try dsimp only
  rw [draw_i (x := (14 + 1)) (y := 4) (z := 7) (a := 15) (lo := 4) (hi := 7) hL (by decide) rfl rfl (by omega) (by omega) (by omega), Option.bind_some]
  try dsimp only
  obtain ⟨⟨s19, _, t19⟩, -⟩ := id b18
  rw [c12 s19 t19, Option.bind_some]
  obtain ⟨X20, n20, w20, m20, e20, b20, f20, g20, l20⟩ := ap_int' b18 l18 (v := drN L xs 15 4 7) (by have := drN_rg (L := L) (xs := xs) (a := 15) (lo := 4) (hi := 7) (by omega); omega) rfl (by omega)
  rw [e20, Option.bind_some]
  try dsimp only
  obtain ⟨⟨s21, _, t21⟩, -⟩ := id b20
  rw [c12 s21 t21, Option.bind_some]
  obtain ⟨X22, n22, w22, m22, e22, b22, f22, g22, l22⟩ := ap_char' b20 l20 (k := 59) (c := 59) (by omega) (by decide) (by omega)
  rw [e22, Option.bind_some]
  try dsimp only
  obtain ⟨X9, n9, so, w9, e9, z1, z2, z3, z4⟩ := st_H147_2 hL b22 (by omega)
  refine ⟨X9, n9, so, w9, e9, ?_, z2, (f2.trans (f4.trans (f6.trans (f8.trans (f10.trans (f12.trans (f14.trans (f16.trans (f18.trans (f20.trans (f22.trans z3))))))))))), by omega⟩
  rw [show C ++ tl_H147_1 L xs = (((((((((((C ++ strC 4) ++ [120]) ++ strC 5) ++ decC (drN L xs 9 0 9)) ++ [32]) ++ decC (drN L xs 11 9 60)) ++ strC 1) ++ decC (drN L xs 13 0 1)) ++ [32]) ++ decC (drN L xs 15 4 7)) ++ [59]) ++ tl_H147_2 L xs from by simp only [tl_H147_1, List.append_assoc]]
  exact z1
def tl_H147_0 (L : Nat) (xs : Nat → Int32) : List Nat := strC 4 ++ [119] ++ strC 5 ++ decC (drN L xs 8 0 9) ++ [32] ++ decC (drN L xs 10 9 60) ++ strC 1 ++ decC (drN L xs 12 0 1) ++ [32] ++ decC (drN L xs 14 4 7) ++ [59] ++ tl_H147_1 L xs
theorem st_H147_0 {L : Nat} {xs : Nat → Int32} (hL : L < 2 ^ 31) {n : Nat} {w : Wd} {sb m : Nat} {C : List Nat} (h : SBd X n w sb C m) (hl : 70 ≤ C.length ∧ C.length ≤ 230) : ∃ X' n' so w', f_L_setup_H147_0 L xs (Kx X) n (some sb) w = some (Kx X', n', some so, w') ∧ STR X' n' w' so (C ++ tl_H147_0 L xs) ∧ FX w' ∧ Fr TSy TAy w w' ∧ n ≤ n' := by
  unfold f_L_setup_H147_0
  obtain ⟨⟨s1, _, t1⟩, -⟩ := id h
  rw [c12 s1 t1, Option.bind_some]
  obtain ⟨X2, n2, w2, m2, e2, b2, f2, g2, l2⟩ := ap_const' h hl (i := 4) (by omega) sl4 (by omega)
  rw [e2, Option.bind_some]
  try dsimp only
  obtain ⟨⟨s3, _, t3⟩, -⟩ := id b2
  rw [c12 s3 t3, Option.bind_some]
  obtain ⟨X4, n4, w4, m4, e4, b4, f4, g4, l4⟩ := ap_char' b2 l2 (k := 119) (c := (i2cI (119 + 0))) (by omega) (by decide) (by omega)
  rw [e4, Option.bind_some]
  try dsimp only
  obtain ⟨⟨s5, _, t5⟩, -⟩ := id b4
  rw [c12 s5 t5, Option.bind_some]
  obtain ⟨X6, n6, w6, m6, e6, b6, f6, g6, l6⟩ := ap_const' b4 l4 (i := 5) (by omega) sl5 (by omega)
  rw [e6, Option.bind_some]
  try dsimp only
  rw [draw_i (x := (8 + 0)) (y := 0) (z := 9) (a := 8) (lo := 0) (hi := 9) hL (by decide) rfl rfl (by omega) (by omega) (by omega), Option.bind_some]
  try dsimp only
  obtain ⟨⟨s7, _, t7⟩, -⟩ := id b6
  rw [c12 s7 t7, Option.bind_some]
  obtain ⟨X8, n8, w8, m8, e8, b8, f8, g8, l8⟩ := ap_int' b6 l6 (v := drN L xs 8 0 9) (by have := drN_rg (L := L) (xs := xs) (a := 8) (lo := 0) (hi := 9) (by omega); omega) rfl (by omega)
  rw [e8, Option.bind_some]
  try dsimp only
  obtain ⟨⟨s9, _, t9⟩, -⟩ := id b8
  rw [c12 s9 t9, Option.bind_some]
  obtain ⟨X10, n10, w10, m10, e10, b10, f10, g10, l10⟩ := ap_char' b8 l8 (k := 32) (c := 32) (by omega) (by decide) (by omega)
  rw [e10, Option.bind_some]
  try dsimp only
  rw [draw_i (x := (10 + 0)) (y := 9) (z := 60) (a := 10) (lo := 9) (hi := 60) hL (by decide) rfl rfl (by omega) (by omega) (by omega), Option.bind_some]
  try dsimp only
  obtain ⟨⟨s11, _, t11⟩, -⟩ := id b10
  rw [c12 s11 t11, Option.bind_some]
  obtain ⟨X12, n12, w12, m12, e12, b12, f12, g12, l12⟩ := ap_int' b10 l10 (v := drN L xs 10 9 60) (by have := drN_rg (L := L) (xs := xs) (a := 10) (lo := 9) (hi := 60) (by omega); omega) rfl (by omega)
  rw [e12, Option.bind_some]
  try dsimp only
  obtain ⟨⟨s13, _, t13⟩, -⟩ := id b12
  rw [c12 s13 t13, Option.bind_some]
  obtain ⟨X14, n14, w14, m14, e14, b14, f14, g14, l14⟩ := ap_const' b12 l12 (i := 1) (by omega) sl1 (by omega)
  rw [e14, Option.bind_some]
  try dsimp only
  rw [draw_i (x := (12 + 0)) (y := 0) (z := 1) (a := 12) (lo := 0) (hi := 1) hL (by decide) rfl rfl (by omega) (by omega) (by omega), Option.bind_some]
  try dsimp only
  obtain ⟨⟨s15, _, t15⟩, -⟩ := id b14
  rw [c12 s15 t15, Option.bind_some]
  obtain ⟨X16, n16, w16, m16, e16, b16, f16, g16, l16⟩ := ap_int' b14 l14 (v := drN L xs 12 0 1) (by have := drN_rg (L := L) (xs := xs) (a := 12) (lo := 0) (hi := 1) (by omega); omega) rfl (by omega)
  rw [e16, Option.bind_some]
  try dsimp only
  obtain ⟨⟨s17, _, t17⟩, -⟩ := id b16
  rw [c12 s17 t17, Option.bind_some]
  obtain ⟨X18, n18, w18, m18, e18, b18, f18, g18, l18⟩ := ap_char' b16 l16 (k := 32) (c := 32) (by omega) (by decide) (by omega)
  rw [e18, Option.bind_some]
  try dsimp only
  rw [draw_i (x := (14 + 0)) (y := 4) (z := 7) (a := 14) (lo := 4) (hi := 7) hL (by decide) rfl rfl (by omega) (by omega) (by omega), Option.bind_some]
  try dsimp only
  obtain ⟨⟨s19, _, t19⟩, -⟩ := id b18
  rw [c12 s19 t19, Option.bind_some]
  obtain ⟨X20, n20, w20, m20, e20, b20, f20, g20, l20⟩ := ap_int' b18 l18 (v := drN L xs 14 4 7) (by have := drN_rg (L := L) (xs := xs) (a := 14) (lo := 4) (hi := 7) (by omega); omega) rfl (by omega)
  rw [e20, Option.bind_some]
  try dsimp only
  obtain ⟨⟨s21, _, t21⟩, -⟩ := id b20
  rw [c12 s21 t21, Option.bind_some]
  obtain ⟨X22, n22, w22, m22, e22, b22, f22, g22, l22⟩ := ap_char' b20 l20 (k := 59) (c := 59) (by omega) (by decide) (by omega)
  rw [e22, Option.bind_some]
  try dsimp only
  obtain ⟨X9, n9, so, w9, e9, z1, z2, z3, z4⟩ := st_H147_1 hL b22 (by omega)
  refine ⟨X9, n9, so, w9, e9, ?_, z2, (f2.trans (f4.trans (f6.trans (f8.trans (f10.trans (f12.trans (f14.trans (f16.trans (f18.trans (f20.trans (f22.trans z3))))))))))), by omega⟩
  rw [show C ++ tl_H147_0 L xs = (((((((((((C ++ strC 4) ++ [119]) ++ strC 5) ++ decC (drN L xs 8 0 9)) ++ [32]) ++ decC (drN L xs 10 9 60)) ++ strC 1) ++ decC (drN L xs 12 0 1)) ++ [32]) ++ decC (drN L xs 14 4 7)) ++ [59]) ++ tl_H147_1 L xs from by simp only [tl_H147_0, List.append_assoc]]
  exact z1
def tl_H76_2 (L : Nat) (xs : Nat → Int32) : List Nat := tl_H147_0 L xs
theorem st_H76_2 {L : Nat} {xs : Nat → Int32} (hL : L < 2 ^ 31) {n : Nat} {w : Wd} {sb m : Nat} {C : List Nat} (h : SBd X n w sb C m) (hl : 70 ≤ C.length ∧ C.length ≤ 230) : ∃ X' n' so w', f_L_setup_H76_2 L xs (Kx X) n (some sb) w = some (Kx X', n', some so, w') ∧ STR X' n' w' so (C ++ tl_H76_2 L xs) ∧ FX w' ∧ Fr TSy TAy w w' ∧ n ≤ n' := by
  unfold f_L_setup_H76_2
  obtain ⟨X9, n9, so, w9, e9, z1, z2, z3, z4⟩ := st_H147_0 hL h (by omega)
  refine ⟨X9, n9, so, w9, e9, ?_, z2, z3, by omega⟩
  rw [show C ++ tl_H76_2 L xs = C ++ tl_H147_0 L xs from by simp only [tl_H76_2, List.append_assoc]]
  exact z1
def tl_H76_1 (L : Nat) (xs : Nat → Int32) : List Nat := strC 2 ++ [112] ++ strC 3 ++ decC (drN L xs 5 0 9) ++ [32] ++ decC (drN L xs 7 9 15) ++ [59] ++ tl_H76_2 L xs
theorem st_H76_1 {L : Nat} {xs : Nat → Int32} (hL : L < 2 ^ 31) {n : Nat} {w : Wd} {sb m : Nat} {C : List Nat} (h : SBd X n w sb C m) (hl : 52 ≤ C.length ∧ C.length ≤ 210) : ∃ X' n' so w', f_L_setup_H76_1 L xs (Kx X) n (some sb) w = some (Kx X', n', some so, w') ∧ STR X' n' w' so (C ++ tl_H76_1 L xs) ∧ FX w' ∧ Fr TSy TAy w w' ∧ n ≤ n' := by
  unfold f_L_setup_H76_1
  obtain ⟨⟨s1, _, t1⟩, -⟩ := id h
  rw [c12 s1 t1, Option.bind_some]
  obtain ⟨X2, n2, w2, m2, e2, b2, f2, g2, l2⟩ := ap_const' h hl (i := 2) (by omega) sl2 (by omega)
  rw [e2, Option.bind_some]
  try dsimp only
  obtain ⟨⟨s3, _, t3⟩, -⟩ := id b2
  rw [c12 s3 t3, Option.bind_some]
  obtain ⟨X4, n4, w4, m4, e4, b4, f4, g4, l4⟩ := ap_char' b2 l2 (k := 112) (c := (i2cI (111 + 1))) (by omega) (by decide) (by omega)
  rw [e4, Option.bind_some]
  try dsimp only
  obtain ⟨⟨s5, _, t5⟩, -⟩ := id b4
  rw [c12 s5 t5, Option.bind_some]
  obtain ⟨X6, n6, w6, m6, e6, b6, f6, g6, l6⟩ := ap_const' b4 l4 (i := 3) (by omega) sl3 (by omega)
  rw [e6, Option.bind_some]
  try dsimp only
  rw [draw_i (x := (4 + 1)) (y := 0) (z := 9) (a := 5) (lo := 0) (hi := 9) hL (by decide) rfl rfl (by omega) (by omega) (by omega), Option.bind_some]
  try dsimp only
  obtain ⟨⟨s7, _, t7⟩, -⟩ := id b6
  rw [c12 s7 t7, Option.bind_some]
  obtain ⟨X8, n8, w8, m8, e8, b8, f8, g8, l8⟩ := ap_int' b6 l6 (v := drN L xs 5 0 9) (by have := drN_rg (L := L) (xs := xs) (a := 5) (lo := 0) (hi := 9) (by omega); omega) rfl (by omega)
  rw [e8, Option.bind_some]
  try dsimp only
  obtain ⟨⟨s9, _, t9⟩, -⟩ := id b8
  rw [c12 s9 t9, Option.bind_some]
  obtain ⟨X10, n10, w10, m10, e10, b10, f10, g10, l10⟩ := ap_char' b8 l8 (k := 32) (c := 32) (by omega) (by decide) (by omega)
  rw [e10, Option.bind_some]
  try dsimp only
  rw [draw_i (x := (6 + 1)) (y := 9) (z := 15) (a := 7) (lo := 9) (hi := 15) hL (by decide) rfl rfl (by omega) (by omega) (by omega), Option.bind_some]
  try dsimp only
  obtain ⟨⟨s11, _, t11⟩, -⟩ := id b10
  rw [c12 s11 t11, Option.bind_some]
  obtain ⟨X12, n12, w12, m12, e12, b12, f12, g12, l12⟩ := ap_int' b10 l10 (v := drN L xs 7 9 15) (by have := drN_rg (L := L) (xs := xs) (a := 7) (lo := 9) (hi := 15) (by omega); omega) rfl (by omega)
  rw [e12, Option.bind_some]
  try dsimp only
  obtain ⟨⟨s13, _, t13⟩, -⟩ := id b12
  rw [c12 s13 t13, Option.bind_some]
  obtain ⟨X14, n14, w14, m14, e14, b14, f14, g14, l14⟩ := ap_char' b12 l12 (k := 59) (c := 59) (by omega) (by decide) (by omega)
  rw [e14, Option.bind_some]
  try dsimp only
  obtain ⟨X9, n9, so, w9, e9, z1, z2, z3, z4⟩ := st_H76_2 hL b14 (by omega)
  refine ⟨X9, n9, so, w9, e9, ?_, z2, (f2.trans (f4.trans (f6.trans (f8.trans (f10.trans (f12.trans (f14.trans z3))))))), by omega⟩
  rw [show C ++ tl_H76_1 L xs = (((((((C ++ strC 2) ++ [112]) ++ strC 3) ++ decC (drN L xs 5 0 9)) ++ [32]) ++ decC (drN L xs 7 9 15)) ++ [59]) ++ tl_H76_2 L xs from by simp only [tl_H76_1, List.append_assoc]]
  exact z1
def tl_H76_0 (L : Nat) (xs : Nat → Int32) : List Nat := strC 2 ++ [111] ++ strC 3 ++ decC (drN L xs 4 0 9) ++ [32] ++ decC (drN L xs 6 9 15) ++ [59] ++ tl_H76_1 L xs
theorem st_H76_0 {L : Nat} {xs : Nat → Int32} (hL : L < 2 ^ 31) {n : Nat} {w : Wd} {sb m : Nat} {C : List Nat} (h : SBd X n w sb C m) (hl : 34 ≤ C.length ∧ C.length ≤ 190) : ∃ X' n' so w', f_L_setup_H76_0 L xs (Kx X) n (some sb) w = some (Kx X', n', some so, w') ∧ STR X' n' w' so (C ++ tl_H76_0 L xs) ∧ FX w' ∧ Fr TSy TAy w w' ∧ n ≤ n' := by
  unfold f_L_setup_H76_0
  obtain ⟨⟨s1, _, t1⟩, -⟩ := id h
  rw [c12 s1 t1, Option.bind_some]
  obtain ⟨X2, n2, w2, m2, e2, b2, f2, g2, l2⟩ := ap_const' h hl (i := 2) (by omega) sl2 (by omega)
  rw [e2, Option.bind_some]
  try dsimp only
  obtain ⟨⟨s3, _, t3⟩, -⟩ := id b2
  rw [c12 s3 t3, Option.bind_some]
  obtain ⟨X4, n4, w4, m4, e4, b4, f4, g4, l4⟩ := ap_char' b2 l2 (k := 111) (c := (i2cI (111 + 0))) (by omega) (by decide) (by omega)
  rw [e4, Option.bind_some]
  try dsimp only
  obtain ⟨⟨s5, _, t5⟩, -⟩ := id b4
  rw [c12 s5 t5, Option.bind_some]
  obtain ⟨X6, n6, w6, m6, e6, b6, f6, g6, l6⟩ := ap_const' b4 l4 (i := 3) (by omega) sl3 (by omega)
  rw [e6, Option.bind_some]
  try dsimp only
  rw [draw_i (x := (4 + 0)) (y := 0) (z := 9) (a := 4) (lo := 0) (hi := 9) hL (by decide) rfl rfl (by omega) (by omega) (by omega), Option.bind_some]
  try dsimp only
  obtain ⟨⟨s7, _, t7⟩, -⟩ := id b6
  rw [c12 s7 t7, Option.bind_some]
  obtain ⟨X8, n8, w8, m8, e8, b8, f8, g8, l8⟩ := ap_int' b6 l6 (v := drN L xs 4 0 9) (by have := drN_rg (L := L) (xs := xs) (a := 4) (lo := 0) (hi := 9) (by omega); omega) rfl (by omega)
  rw [e8, Option.bind_some]
  try dsimp only
  obtain ⟨⟨s9, _, t9⟩, -⟩ := id b8
  rw [c12 s9 t9, Option.bind_some]
  obtain ⟨X10, n10, w10, m10, e10, b10, f10, g10, l10⟩ := ap_char' b8 l8 (k := 32) (c := 32) (by omega) (by decide) (by omega)
  rw [e10, Option.bind_some]
  try dsimp only
  rw [draw_i (x := (6 + 0)) (y := 9) (z := 15) (a := 6) (lo := 9) (hi := 15) hL (by decide) rfl rfl (by omega) (by omega) (by omega), Option.bind_some]
  try dsimp only
  obtain ⟨⟨s11, _, t11⟩, -⟩ := id b10
  rw [c12 s11 t11, Option.bind_some]
  obtain ⟨X12, n12, w12, m12, e12, b12, f12, g12, l12⟩ := ap_int' b10 l10 (v := drN L xs 6 9 15) (by have := drN_rg (L := L) (xs := xs) (a := 6) (lo := 9) (hi := 15) (by omega); omega) rfl (by omega)
  rw [e12, Option.bind_some]
  try dsimp only
  obtain ⟨⟨s13, _, t13⟩, -⟩ := id b12
  rw [c12 s13 t13, Option.bind_some]
  obtain ⟨X14, n14, w14, m14, e14, b14, f14, g14, l14⟩ := ap_char' b12 l12 (k := 59) (c := 59) (by omega) (by decide) (by omega)
  rw [e14, Option.bind_some]
  try dsimp only
  obtain ⟨X9, n9, so, w9, e9, z1, z2, z3, z4⟩ := st_H76_1 hL b14 (by omega)
  refine ⟨X9, n9, so, w9, e9, ?_, z2, (f2.trans (f4.trans (f6.trans (f8.trans (f10.trans (f12.trans (f14.trans z3))))))), by omega⟩
  rw [show C ++ tl_H76_0 L xs = (((((((C ++ strC 2) ++ [111]) ++ strC 3) ++ decC (drN L xs 4 0 9)) ++ [32]) ++ decC (drN L xs 6 9 15)) ++ [59]) ++ tl_H76_1 L xs from by simp only [tl_H76_0, List.append_assoc]]
  exact z1
def tl_H10_2 (L : Nat) (xs : Nat → Int32) : List Nat := tl_H76_0 L xs
theorem st_H10_2 {L : Nat} {xs : Nat → Int32} (hL : L < 2 ^ 31) {n : Nat} {w : Wd} {sb m : Nat} {C : List Nat} (h : SBd X n w sb C m) (hl : 34 ≤ C.length ∧ C.length ≤ 190) : ∃ X' n' so w', f_L_setup_H10_2 L xs (Kx X) n (some sb) w = some (Kx X', n', some so, w') ∧ STR X' n' w' so (C ++ tl_H10_2 L xs) ∧ FX w' ∧ Fr TSy TAy w w' ∧ n ≤ n' := by
  unfold f_L_setup_H10_2
  obtain ⟨X9, n9, so, w9, e9, z1, z2, z3, z4⟩ := st_H76_0 hL h (by omega)
  refine ⟨X9, n9, so, w9, e9, ?_, z2, z3, by omega⟩
  rw [show C ++ tl_H10_2 L xs = C ++ tl_H76_0 L xs from by simp only [tl_H10_2, List.append_assoc]]
  exact z1
def tl_H10_1 (L : Nat) (xs : Nat → Int32) : List Nat := strC 0 ++ [115] ++ strC 1 ++ decC (drN L xs 1 0 2) ++ [32] ++ decC (drN L xs 3 3 7) ++ [59] ++ tl_H10_2 L xs
theorem st_H10_1 {L : Nat} {xs : Nat → Int32} (hL : L < 2 ^ 31) {n : Nat} {w : Wd} {sb m : Nat} {C : List Nat} (h : SBd X n w sb C m) (hl : 17 ≤ C.length ∧ C.length ≤ 171) : ∃ X' n' so w', f_L_setup_H10_1 L xs (Kx X) n (some sb) w = some (Kx X', n', some so, w') ∧ STR X' n' w' so (C ++ tl_H10_1 L xs) ∧ FX w' ∧ Fr TSy TAy w w' ∧ n ≤ n' := by
  unfold f_L_setup_H10_1
  obtain ⟨⟨s1, _, t1⟩, -⟩ := id h
  rw [c12 s1 t1, Option.bind_some]
  obtain ⟨X2, n2, w2, m2, e2, b2, f2, g2, l2⟩ := ap_const' h hl (i := 0) (by omega) sl0 (by omega)
  rw [e2, Option.bind_some]
  try dsimp only
  obtain ⟨⟨s3, _, t3⟩, -⟩ := id b2
  rw [c12 s3 t3, Option.bind_some]
  obtain ⟨X4, n4, w4, m4, e4, b4, f4, g4, l4⟩ := ap_char' b2 l2 (k := 115) (c := (i2cI (114 + 1))) (by omega) (by decide) (by omega)
  rw [e4, Option.bind_some]
  try dsimp only
  obtain ⟨⟨s5, _, t5⟩, -⟩ := id b4
  rw [c12 s5 t5, Option.bind_some]
  obtain ⟨X6, n6, w6, m6, e6, b6, f6, g6, l6⟩ := ap_const' b4 l4 (i := 1) (by omega) sl1 (by omega)
  rw [e6, Option.bind_some]
  try dsimp only
  rw [draw_i (x := 1) (y := 0) (z := 2) (a := 1) (lo := 0) (hi := 2) hL (by decide) rfl rfl (by omega) (by omega) (by omega), Option.bind_some]
  try dsimp only
  obtain ⟨⟨s7, _, t7⟩, -⟩ := id b6
  rw [c12 s7 t7, Option.bind_some]
  obtain ⟨X8, n8, w8, m8, e8, b8, f8, g8, l8⟩ := ap_int' b6 l6 (v := drN L xs 1 0 2) (by have := drN_rg (L := L) (xs := xs) (a := 1) (lo := 0) (hi := 2) (by omega); omega) rfl (by omega)
  rw [e8, Option.bind_some]
  try dsimp only
  obtain ⟨⟨s9, _, t9⟩, -⟩ := id b8
  rw [c12 s9 t9, Option.bind_some]
  obtain ⟨X10, n10, w10, m10, e10, b10, f10, g10, l10⟩ := ap_char' b8 l8 (k := 32) (c := 32) (by omega) (by decide) (by omega)
  rw [e10, Option.bind_some]
  try dsimp only
  rw [draw_i (x := (2 + 1)) (y := 3) (z := 7) (a := 3) (lo := 3) (hi := 7) hL (by decide) rfl rfl (by omega) (by omega) (by omega), Option.bind_some]
  try dsimp only
  obtain ⟨⟨s11, _, t11⟩, -⟩ := id b10
  rw [c12 s11 t11, Option.bind_some]
  obtain ⟨X12, n12, w12, m12, e12, b12, f12, g12, l12⟩ := ap_int' b10 l10 (v := drN L xs 3 3 7) (by have := drN_rg (L := L) (xs := xs) (a := 3) (lo := 3) (hi := 7) (by omega); omega) rfl (by omega)
  rw [e12, Option.bind_some]
  try dsimp only
  obtain ⟨⟨s13, _, t13⟩, -⟩ := id b12
  rw [c12 s13 t13, Option.bind_some]
  obtain ⟨X14, n14, w14, m14, e14, b14, f14, g14, l14⟩ := ap_char' b12 l12 (k := 59) (c := 59) (by omega) (by decide) (by omega)
  rw [e14, Option.bind_some]
  try dsimp only
  obtain ⟨X9, n9, so, w9, e9, z1, z2, z3, z4⟩ := st_H10_2 hL b14 (by omega)
  refine ⟨X9, n9, so, w9, e9, ?_, z2, (f2.trans (f4.trans (f6.trans (f8.trans (f10.trans (f12.trans (f14.trans z3))))))), by omega⟩
  rw [show C ++ tl_H10_1 L xs = (((((((C ++ strC 0) ++ [115]) ++ strC 1) ++ decC (drN L xs 1 0 2)) ++ [32]) ++ decC (drN L xs 3 3 7)) ++ [59]) ++ tl_H10_2 L xs from by simp only [tl_H10_1, List.append_assoc]]
  exact z1
def tl_H10_0 (L : Nat) (xs : Nat → Int32) : List Nat := strC 0 ++ [114] ++ strC 1 ++ decC (drN L xs 0 0 2) ++ [32] ++ decC (drN L xs 2 3 7) ++ [59] ++ tl_H10_1 L xs
theorem st_H10_0 {L : Nat} {xs : Nat → Int32} (hL : L < 2 ^ 31) {n : Nat} {w : Wd} {sb m : Nat} {C : List Nat} (h : SBd X n w sb C m) (hl : 0 ≤ C.length ∧ C.length ≤ 152) : ∃ X' n' so w', f_L_setup_H10_0 L xs (Kx X) n (some sb) w = some (Kx X', n', some so, w') ∧ STR X' n' w' so (C ++ tl_H10_0 L xs) ∧ FX w' ∧ Fr TSy TAy w w' ∧ n ≤ n' := by
  unfold f_L_setup_H10_0
  obtain ⟨⟨s1, _, t1⟩, -⟩ := id h
  rw [c12 s1 t1, Option.bind_some]
  obtain ⟨X2, n2, w2, m2, e2, b2, f2, g2, l2⟩ := ap_const' h hl (i := 0) (by omega) sl0 (by omega)
  rw [e2, Option.bind_some]
  try dsimp only
  obtain ⟨⟨s3, _, t3⟩, -⟩ := id b2
  rw [c12 s3 t3, Option.bind_some]
  obtain ⟨X4, n4, w4, m4, e4, b4, f4, g4, l4⟩ := ap_char' b2 l2 (k := 114) (c := (i2cI (114 + 0))) (by omega) (by decide) (by omega)
  rw [e4, Option.bind_some]
  try dsimp only
  obtain ⟨⟨s5, _, t5⟩, -⟩ := id b4
  rw [c12 s5 t5, Option.bind_some]
  obtain ⟨X6, n6, w6, m6, e6, b6, f6, g6, l6⟩ := ap_const' b4 l4 (i := 1) (by omega) sl1 (by omega)
  rw [e6, Option.bind_some]
  try dsimp only
  rw [draw_i (x := 0) (y := 0) (z := 2) (a := 0) (lo := 0) (hi := 2) hL (by decide) rfl rfl (by omega) (by omega) (by omega), Option.bind_some]
  try dsimp only
  obtain ⟨⟨s7, _, t7⟩, -⟩ := id b6
  rw [c12 s7 t7, Option.bind_some]
  obtain ⟨X8, n8, w8, m8, e8, b8, f8, g8, l8⟩ := ap_int' b6 l6 (v := drN L xs 0 0 2) (by have := drN_rg (L := L) (xs := xs) (a := 0) (lo := 0) (hi := 2) (by omega); omega) rfl (by omega)
  rw [e8, Option.bind_some]
  try dsimp only
  obtain ⟨⟨s9, _, t9⟩, -⟩ := id b8
  rw [c12 s9 t9, Option.bind_some]
  obtain ⟨X10, n10, w10, m10, e10, b10, f10, g10, l10⟩ := ap_char' b8 l8 (k := 32) (c := 32) (by omega) (by decide) (by omega)
  rw [e10, Option.bind_some]
  try dsimp only
  rw [draw_i (x := (2 + 0)) (y := 3) (z := 7) (a := 2) (lo := 3) (hi := 7) hL (by decide) rfl rfl (by omega) (by omega) (by omega), Option.bind_some]
  try dsimp only
  obtain ⟨⟨s11, _, t11⟩, -⟩ := id b10
  rw [c12 s11 t11, Option.bind_some]
  obtain ⟨X12, n12, w12, m12, e12, b12, f12, g12, l12⟩ := ap_int' b10 l10 (v := drN L xs 2 3 7) (by have := drN_rg (L := L) (xs := xs) (a := 2) (lo := 3) (hi := 7) (by omega); omega) rfl (by omega)
  rw [e12, Option.bind_some]
  try dsimp only
  obtain ⟨⟨s13, _, t13⟩, -⟩ := id b12
  rw [c12 s13 t13, Option.bind_some]
  obtain ⟨X14, n14, w14, m14, e14, b14, f14, g14, l14⟩ := ap_char' b12 l12 (k := 59) (c := 59) (by omega) (by decide) (by omega)
  rw [e14, Option.bind_some]
  try dsimp only
  obtain ⟨X9, n9, so, w9, e9, z1, z2, z3, z4⟩ := st_H10_1 hL b14 (by omega)
  refine ⟨X9, n9, so, w9, e9, ?_, z2, (f2.trans (f4.trans (f6.trans (f8.trans (f10.trans (f12.trans (f14.trans z3))))))), by omega⟩
  rw [show C ++ tl_H10_0 L xs = (((((((C ++ strC 0) ++ [114]) ++ strC 1) ++ decC (drN L xs 0 0 2)) ++ [32]) ++ decC (drN L xs 2 3 7)) ++ [59]) ++ tl_H10_1 L xs from by simp only [tl_H10_0, List.append_assoc]]
  exact z1
theorem x_setup {L : Nat} {xs : Nat → Int32} (hL : L < 2 ^ 31) {n : Nat} {w : Wd} (hn : 415 ≤ n) (hF : FX w) : ∃ X' n' so w', f_L_setup L xs (Kx X) n w = some (Kx X', n', some so, w') ∧ STR X' n' w' so (tl_H10_0 L xs) ∧ FX w' ∧ Fr TSy TAy w w' ∧ n ≤ n' := by
  have K1 : (kup X n (12, 0)) n = some (12, 0) := if_pos rfl
  have K2 : (kup (kup X n (12, 0)) (n + 1) (21, 16)) n = some (12, 0) := by
    show (if n = n + 1 then _ else _) = _
    rw [if_neg (by omega)]; exact K1
  unfold f_L_setup f_J4_init_da8c8 f_J5_init_d00df
  rw [Option.bind_some, Option.bind_some]
  unfold grd
  rw [if_pos ⟨by decide, by decide⟩, Option.bind_some, Option.bind_some, Option.bind_some, kup_x hn, show (16 : Int32).toNatClampNeg = 16 by decide, kup_x (by omega), c12 hn K2, Option.bind_some, Option.bind_some, Option.bind_some, Option.bind_some, Option.bind_some]
  try dsimp only
  have h0 : SBd (kup (kup X n (12, 0)) (n + 1) (21, 16)) (n + 1 + 1) (sI (sR (clr (clr w n) (n + 1)) 2100 n (some (n + 1))) 2101 n 0) n [] 16 := ⟨⟨hn, by omega, K2⟩, (FX_sR (FX_clr (FX_clr hF hn) (by omega)) hn).sI, n + 1, 16, ⟨by omega, by omega, if_pos rfl⟩, ⟨by simp, by omega, Or.inl rfl⟩, by
    show wR (sR (clr (clr w n) (n + 1)) 2100 n (some (n + 1))) 2100 n = _
    rw [wR_sR, if_pos ⟨rfl, rfl⟩], by rw [wI_sI, if_pos ⟨rfl, rfl⟩], by
    rw [wI_sI, if_neg (by omega)]
    show wI (clr (clr w n) (n + 1)) 2103 n = _
    rw [clr_wI (by omega)]
    exact if_pos rfl, fun j hj => by
    show fits .byte (.int (aI (clr (clr w n) (n + 1)) (n + 1) j)) = true
    rw [clr_aI0]
    exact fits0, fun j hj => absurd hj (Nat.not_lt_zero _)⟩
  obtain ⟨X9, n9, so, w9, e9, z1, z2, z3, z4⟩ := st_H10_0 hL h0 (by simp)
  exact ⟨X9, n9, so, w9, e9, by simpa using z1, z2, Fr.trans (Fr.trans (Fr.trans (Fr.trans (fr_clr hn) (fr_clr (by omega))) (fr_sRY hn)) (fr_sIY hn)) z3, by omega⟩
