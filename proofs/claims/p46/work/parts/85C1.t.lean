/-! The text builder: what is appended. -/
variable {X : Kd}
theorem SBd.put {n : Nat} {w w' : Wd} {sb m : Nat} {C D : List Nat} (h : SBd X n w sb C m) (hm : C.length + D.length ≤ m) (hF : FX w') (h1 : wR w' 2100 sb = wR w 2100 sb) (h2 : wI w' 2101 sb = wI w 2101 sb) (h3 : wI w' 2103 sb = nI (C.length + D.length)) (hD : ∀ j, j < D.length → D.getD j 0 < 128) (ha : ∀ ar, wR w 2100 sb = some ar → ∀ j, aI w' ar j = if C.length ≤ j ∧ j < C.length + D.length then nI (D.getD (j - C.length) 0) else aI w ar j) : SBd X n w' sb (C ++ D) m := by
  obtain ⟨s1, -, ar, cap, a1, ⟨l1, l2, l3⟩, r1, r2, r3, r4, r5⟩ := h
  have hl : (C ++ D).length = C.length + D.length := List.length_append
  refine ⟨s1, hF, ar, cap, a1, ⟨by omega, l2, l3⟩, h1.trans r1, h2.trans r2, by rw [hl]; exact h3, fun j hj => ?_, fun j hj => ?_⟩
  · rw [ha ar r1]
    by_cases e : C.length ≤ j ∧ j < C.length + D.length
    · rw [if_pos e]
      exact fits_c _ (hD _ (by omega))
    · rw [if_neg e]
      exact r4 j hj
  · rw [ha ar r1]
    by_cases e : C.length ≤ j
    · rw [if_pos ⟨e, by omega⟩, List.getD_eq_getElem?_getD, List.getD_eq_getElem?_getD, List.getElem?_append_right e]
    · rw [if_neg (fun q => e q.1), List.getD_eq_getElem?_getD, List.getElem?_append_left (by omega), ← List.getD_eq_getElem?_getD]
      exact r5 j (by omega)
def strC (i : Nat) : List Nat := (strB.getD i []).map (fun x => x.toInt.toNat)
theorem str_d : ∀ i, i < 15 → (strC i).length = strL.getD i 0 ∧ strL.getD i 0 ≤ 17 ∧ ∀ j, j < strL.getD i 0 → (strB.getD i []).getD j 0 = nI ((strC i).getD j 0) ∧ (strC i).getD j 0 < 128 := by decide +kernel
theorem ap_const {n : Nat} {w : Wd} {sb m i : Nat} {C : List Nat} (h : SBd X n w sb C m) (hi : i < 15) (h3 : C.length + 17 ≤ 560) : ∃ X' n' w' m', f_CJ4_append_15ec4 (Kx X) n sb i w = some (Kx X', n', some sb, w') ∧ SBd X' n' w' sb (C ++ strC i) m' ∧ Fr TSy TAy w w' ∧ n ≤ n' := by
  obtain ⟨d1, d2, d3⟩ := str_d i hi
  obtain ⟨⟨s1, s2, s3⟩, hF, ar, cap, ⟨a1, a2, a3⟩, ⟨l1, l2, l3⟩, r1, r2, r3, r4, r5⟩ := id h
  unfold f_CJ4_append_15ec4 f_CJ5_append_cf1ce
  rw [c12 s1 s3, Option.bind_some]
  unfold f_CJ0_length_8abf5 f_CJ0_coder_7d493
  rw [Option.bind_some, Option.bind_some]
  try dsimp only
  rw [shr0, c12 s1 s3, Option.bind_some, r3, nI_add]
  obtain ⟨X1, n1, w1, e1, b1, f1, g1⟩ := x_ensure h (need := C.length + strL.getD i 0) rfl (by omega) (by omega) (by omega)
  rw [e1, Option.bind_some]
  try dsimp only
  obtain ⟨⟨t1, t2, t3⟩, hF1, ar1, cap1, ⟨b1', b2', b3'⟩, ⟨k1, k2, k3⟩, q1, q2, q3, q4, q5⟩ := id b1
  have kl := k3.le
  rw [c12 t1 t3, Option.bind_some]
  unfold f_CJ5_putStringAt_47b60 f_CJ5_inflateIfNeededFor_a7421 f_CJ0_getBytes_840e7 f_CJ0_coder_7d493
  rw [Option.bind_some]
  try dsimp only
  rw [q2, if_pos rfl, Option.bind_some, Option.bind_some]
  try dsimp only
  rw [q2, if_pos rfl, c21 q1 b1' b3', Option.bind_some]
  try dsimp only
  rw [q3, shl0, nI_clamp (by omega), nI_clamp (by omega), show (0 : Int32).toNatClampNeg = 0 by decide]
  unfold grd
  rw [if_pos ⟨by decide, by rw [lt0, nI_toInt (by omega)]; omega, by rw [lt0, nI_toInt (by omega)]; omega, by omega, by omega⟩, Option.bind_some, Option.bind_some, Option.bind_some, Option.bind_some, Option.bind_some]
  refine ⟨X1, n1, _, C.length + strL.getD i 0, rfl, ?_, Fr.trans f1 (Fr.trans (fr_tAY b1') (fr_sIY t1)), g1⟩
  refine b1.put (by omega) hF1.tA.sI rfl ?_ ?_ (fun j hj => (d3 j (by omega)).2) (fun ar2 hr2 j => ?_)
  · rw [wI_sI, if_neg (by omega)]
    rfl
  · rw [wI_sI, if_pos ⟨rfl, rfl⟩]
    show wI w1 2103 sb + _ = _
    rw [q3, nI_add, d1]
  · have : ar2 = ar1 := by rw [q1] at hr2; exact (Option.some.inj hr2).symm
    subst this
    show aI (tA w1 ar2 _) ar2 j = _
    rw [aI_tA', if_pos rfl, d1]
    unfold va_cpy
    by_cases e : C.length ≤ j ∧ j < C.length + strL.getD i 0
    · rw [if_pos e, if_pos e, Nat.zero_add]
      exact (d3 (j - C.length) (by omega)).1
    · rw [if_neg e, if_neg e]
theorem chr_d : ∀ k, k < 128 → vp_nar .byte ((nI k).toInt8.toInt32) = nI k := by decide +kernel
theorem ap_char {n : Nat} {w : Wd} {sb m k : Nat} {C : List Nat} (h : SBd X n w sb C m) (hk : k < 128) {c : Int32} (hc : c = nI k) (h3 : C.length + 17 ≤ 560) : ∃ X' n' w' m', f_J4_append_cf468 (Kx X) n sb c w = some (Kx X', n', some sb, w') ∧ SBd X' n' w' sb (C ++ [k]) m' ∧ Fr TSy TAy w w' ∧ n ≤ n' := by
  subst hc
  obtain ⟨⟨s1, s2, s3⟩, hF, ar, cap, ⟨a1, a2, a3⟩, ⟨l1, l2, l3⟩, r1, r2, r3, r4, r5⟩ := id h
  unfold f_J4_append_cf468 f_J5_append_3fe6f
  rw [c12 s1 s3, Option.bind_some, c12 s1 s3, Option.bind_some, r3]
  obtain ⟨X1, n1, w1, e1, b1, f1, g1⟩ := x_ensure h (need := C.length + 1) (nd := nI C.length + 1) (nI_add C.length 1) (by omega) (by omega) (by omega)
  rw [e1, Option.bind_some]
  try dsimp only
  obtain ⟨⟨t1, t2, t3⟩, hF1, ar1, cap1, ⟨b1', b2', b3'⟩, ⟨k1, k2, k3⟩, q1, q2, q3, q4, q5⟩ := id b1
  have kl := k3.le
  rw [c12 t1 t3, Option.bind_some]
  unfold f_J5_isLatin1_aae02 f_J1_canEncode_fc78d
  rw [q2, if_pos rfl, Option.bind_some]
  try dsimp only
  rw [ib_t, if_neg (show ¬ (255 : Int32) < nI k from fun q => by
    have := (nI_ltI (a := 255) (by omega) (by omega)).mp q
    omega), Option.bind_some]
  try dsimp only
  rw [ib_t, Option.bind_some, c21 q1 b1' b3', Option.bind_some]
  try dsimp only
  rw [q3, ixa_n (by omega) (by omega), Option.bind_some, Option.bind_some, Option.bind_some]
  refine ⟨X1, n1, _, C.length + 1, rfl, ?_, ?_, g1⟩
  rotate_left
  · exact Fr.trans f1 (Fr.trans (fr_sIY (w := w1) (f := 2103) (v := nI C.length + 1) t1) (fr_tIY b1'))
  refine b1.put (D := [k]) (by simp) hF1.sI.tI rfl ?_ ?_ (fun j hj => ?_) (fun ar2 hr2 j => ?_)
  · show wI (sI w1 2103 sb (nI C.length + 1)) 2101 sb = _
    rw [wI_sI, if_neg (by omega)]
  · show wI (sI w1 2103 sb (nI C.length + 1)) 2103 sb = _
    rw [wI_sI, if_pos ⟨rfl, rfl⟩]
    exact nI_add C.length 1
  · have : j = 0 := by simp at hj; exact hj
    subst this
    exact hk
  · have : ar2 = ar1 := by rw [q1] at hr2; exact (Option.some.inj hr2).symm
    subst this
    rw [aI_tI, chr_d k hk]
    by_cases e : j = C.length
    · rw [if_pos ⟨rfl, e⟩, if_pos ⟨by omega, by simp; omega⟩, e, Nat.sub_self]
      rfl
    · rw [if_neg (fun q => e q.2), if_neg (fun q => by simp at q; omega)]
      rfl
/-- a number's digits -/
def decC (v : Nat) : List Nat := if v < 10 then [48 + v] else [48 + v / 10, 48 + v % 10]
theorem dec_d : ∀ v, v < 100 → (-100 : Int32) < -nI v ∧ (-nI v ≤ (-10 : Int32) ↔ ¬ v < 10) ∧ ¬ (-nI v ≤ (10 * -10 : Int32)) ∧ ((-9 : Int32) ≤ -nI v ↔ v < 10) ∧ -(-nI v) = nI v ∧ vp_nar .byte (dg1B.getD v 0) = nI (48 + v % 10) ∧ vp_nar .byte (dg10B.getD v 0) = nI (48 + v / 10) ∧ (0 : Int32) ≤ nI v ∧ ¬ nI v < 0 := by decide +kernel
theorem x_size2 {K : Kd} {w : Wd} {v : Nat} (hv : v < 100) : f_J6_stringSize_0f7a4 K (nI v) w = some (nI (decC v).length, w) := by
  obtain ⟨d1, d2, d3, d4, d5, d6, d7, d8, d9⟩ := dec_d v hv
  unfold f_J6_stringSize_0f7a4
  rw [if_neg d9, show fu = (fu - 2) + 1 + 1 from rfl, f_J6_stringSize_0f7a4_L16, if_neg (by decide)]
  unfold decC
  by_cases e : v < 10
  · rw [if_neg (fun q => (d2.mp q) e), if_pos e]
    rfl
  · rw [if_pos (d2.mpr e), f_J6_stringSize_0f7a4_L16, if_neg (by decide), if_neg d3, if_neg e]
    rfl
theorem x_chars {n : Nat} {w : Wd} {ar cap v l : Nat} (hv : v < 100) (ha : 415 ≤ ar) (hX : X ar = some (21, cap)) {r : Option Nat} (hr : r = some ar) (hl : l + (decC v).length ≤ cap) (hc : cap < 2 ^ 30) : ∃ i w', f_J6_getChars_ba4f3 (Kx X) (nI v) (nI l + nI (decC v).length) r w = some (i, w') ∧ (FX w → FX w') ∧ Fr TSy TAy w w' ∧ wR w' = wR w ∧ wI w' = wI w ∧ ∀ j, aI w' ar j = if l ≤ j ∧ j < l + (decC v).length then nI ((decC v).getD (j - l) 0) else aI w ar j := by
  subst hr
  obtain ⟨d1, d2, d3, d4, d5, d6, d7, d8, d9⟩ := dec_d v hv
  have pm : ∀ k : Nat, nI (k + 1) + (-1) = nI k := fun k => by
    rw [show (-1 : Int32) = -nI 1 from rfl, nI_sub1 (by omega), Nat.add_sub_cancel]
  by_cases e : v < 10
  · have e1 : decC v = [48 + v] := by unfold decC; rw [if_pos e]
    have hs : nI l + nI (decC v).length = nI (l + 1) := by rw [e1]; exact nI_add l 1
    rw [hs]
    rw [e1] at hl ⊢
    simp only [List.length_cons, List.length_nil] at hl ⊢
    unfold f_J6_getChars_ba4f3
    rw [if_pos d8, show fu = (fu - 1) + 1 from rfl, f_J6_getChars_ba4f3_L22, if_pos d1, d5, ixa_n hv (by omega), Option.bind_some, c21 rfl ha hX, Option.bind_some]
    try dsimp only
    rw [pm l, ixa_n (by omega) (by omega), Option.bind_some, Option.bind_some, if_pos (d4.mpr e), if_pos rfl]
    refine ⟨_, _, rfl, fun h => h.tI, fr_tIY ha, rfl, rfl, fun j => ?_⟩
    rw [aI_tI, d6]
    by_cases e2 : j = l
    · rw [if_pos ⟨rfl, e2⟩, if_pos ⟨by omega, by omega⟩, e2, Nat.sub_self, show v % 10 = v by omega]
      rfl
    · rw [if_neg (fun q => e2 q.2), if_neg (fun q => e2 (by omega))]
  · have e1 : decC v = [48 + v / 10, 48 + v % 10] := by unfold decC; rw [if_neg e]
    have hs : nI l + nI (decC v).length = nI (l + 1 + 1) := by rw [e1]; exact nI_add l 2
    rw [hs]
    rw [e1] at hl ⊢
    simp only [List.length_cons, List.length_nil] at hl ⊢
    unfold f_J6_getChars_ba4f3
    rw [if_pos d8, show fu = (fu - 1) + 1 from rfl, f_J6_getChars_ba4f3_L22, if_pos d1, d5, ixa_n hv (by omega), Option.bind_some, c21 rfl ha hX, Option.bind_some]
    try dsimp only
    rw [pm (l + 1), ixa_n (by omega) (by omega), Option.bind_some, Option.bind_some, if_neg (fun q => e (d4.mp q)), pm l, ixa_n (by omega) (by omega), Option.bind_some, Option.bind_some, Option.bind_some, if_pos rfl]
    refine ⟨_, _, rfl, fun h => h.tI.tI, Fr.trans (fr_tIY ha) (fr_tIY ha), rfl, rfl, fun j => ?_⟩
    rw [aI_tI, aI_tI, d6, d7]
    by_cases e2 : j = l
    · rw [if_pos ⟨rfl, e2⟩, if_pos ⟨by omega, by omega⟩, e2, Nat.sub_self]
      rfl
    · rw [if_neg (fun q => e2 q.2)]
      by_cases e3 : j = l + 1
      · rw [if_pos ⟨rfl, e3⟩, if_pos ⟨by omega, by omega⟩, e3, Nat.add_sub_cancel_left]
        rfl
      · rw [if_neg (fun q => e3 q.2), if_neg (fun q => by omega)]
theorem decC_d : ∀ v, v < 100 → 1 ≤ (decC v).length ∧ (decC v).length ≤ 2 ∧ ∀ j, j < (decC v).length → (decC v).getD j 0 < 128 := by decide +kernel
theorem ap_int {n : Nat} {w : Wd} {sb m v : Nat} {C : List Nat} (h : SBd X n w sb C m) (hv : v < 100) {c : Int32} (hc : c = nI v) (h3 : C.length + 17 ≤ 560) : ∃ X' n' w' m', f_J4_append_bf812 (Kx X) n sb c w = some (Kx X', n', some sb, w') ∧ SBd X' n' w' sb (C ++ decC v) m' ∧ Fr TSy TAy w w' ∧ n ≤ n' := by
  subst hc
  obtain ⟨z1, z2, z3⟩ := decC_d v hv
  obtain ⟨⟨s1, s2, s3⟩, hF, ar, cap, ⟨a1, a2, a3⟩, ⟨l1, l2, l3⟩, r1, r2, r3, r4, r5⟩ := id h
  unfold f_J4_append_bf812 f_J5_append_c97b9
  rw [c12 s1 s3, Option.bind_some, c12 s1 s3, Option.bind_some, x_size2 hv, Option.bind_some, r3]
  try dsimp only
  obtain ⟨X1, n1, w1, e1, b1, f1, g1⟩ := x_ensure h (need := C.length + (decC v).length) (nd := nI C.length + nI (decC v).length) (nI_add _ _) (by omega) (by omega) (by omega)
  rw [e1, Option.bind_some]
  try dsimp only
  obtain ⟨⟨t1, t2, t3⟩, hF1, ar1, cap1, ⟨b1', b2', b3'⟩, ⟨k1, k2, k3⟩, q1, q2, q3, q4, q5⟩ := id b1
  have kl := k3.le
  rw [c12 t1 t3, Option.bind_some]
  unfold f_J5_isLatin1_aae02
  rw [q2, if_pos rfl, Option.bind_some]
  try dsimp only
  obtain ⟨i, w2, e2, p1, p2, p3, p4, p5⟩ := x_chars (X := X1) (w := w1) (l := C.length) (n := n1) hv b1' b3' q1 (by omega) (by omega)
  rw [ib_t, e2, Option.bind_some, Option.bind_some]
  refine ⟨X1, n1, _, C.length + (decC v).length, rfl, ?_, Fr.trans f1 (Fr.trans p2 (fr_sIY t1)), g1⟩
  refine b1.put (by omega) (p1 hF1).sI ?_ ?_ ?_ z3 (fun ar2 hr2 j => ?_)
  · show wR w2 2100 sb = _
    rw [p3]
  · rw [wI_sI, if_neg (by omega), p4]
  · rw [wI_sI, if_pos ⟨rfl, rfl⟩]
    exact nI_add _ _
  · have : ar2 = ar1 := by rw [q1] at hr2; exact (Option.some.inj hr2).symm
    subst this
    exact p5 j
