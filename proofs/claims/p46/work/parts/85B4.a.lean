/-! What the script draws; a call of act; isOpening. -/
variable {X : Kd}
def celI (L : Nat) (xs : Nat → Int32) (a : Nat) : Int32 := if nI L ≤ nI a then 1013904223 * nI a + 59 else xs a
def drN (L : Nat) (xs : Nat → Int32) (a lo hi : Nat) : Nat := lo + (celI L xs a).toBitVec.toNat % 2147483648 % (hi - lo + 1)
theorem drN_rg {L : Nat} {xs : Nat → Int32} {a lo hi : Nat} (h : lo ≤ hi) : lo ≤ drN L xs a lo hi ∧ drN L xs a lo hi ≤ hi := by
  unfold drN
  have := Nat.mod_lt ((celI L xs a).toBitVec.toNat % 2147483648) (show hi - lo + 1 > 0 by omega)
  omega
theorem and31 (x : Int32) : x &&& 2147483647 = nI (x.toBitVec.toNat % 2147483648) := by
  refine Int32.toBitVec_inj.mp ?_
  rw [Int32.toBitVec_and]
  show x.toBitVec &&& 2147483647#32 = BitVec.ofNat 32 (x.toBitVec.toNat % 2147483648)
  apply BitVec.eq_of_toNat_eq
  rw [BitVec.toNat_and, BitVec.toNat_ofNat, BitVec.toNat_ofNat, show 2147483647 % 2 ^ 32 = 2 ^ 31 - 1 from rfl, Nat.and_two_pow_sub_one_eq_mod]
  omega
theorem x_draw {K : Kd} {L : Nat} {xs : Nat → Int32} (hL : L < 2 ^ 31) {a lo hi : Nat} (ha : a < 2 ^ 31) (h1 : lo ≤ hi) (h2 : hi < 65536) {w : Wd} : f_L_draw L xs K (nI a) (nI lo) (nI hi) w = some (nI (drN L xs a lo hi), w) := by
  have e1 : f_L_cell L xs K (nI a) w = some (celI L xs a, w) := by
    unfold f_L_cell celI
    by_cases e : nI L ≤ nI a
    · rw [if_pos e, if_pos e]
    · rw [if_neg e, if_neg e, ixa_n (by
        have : ¬ L ≤ a := fun q => e ((nI_leI hL ha).mpr q)
        omega) hL, Option.bind_some]
  have m0 : nI hi - nI lo + 1 = nI (hi - lo + 1) := by rw [sub_nI h1]; exact nI_add _ 1
  have xl := Nat.mod_lt (celI L xs a).toBitVec.toNat (show 2147483648 > 0 by omega)
  unfold f_L_draw
  rw [e1, Option.bind_some]
  try dsimp only
  rw [m0, and31]
  unfold grd
  rw [if_pos (fun q => by
    have := (nI_eq (b := 0) (by omega) (by omega)).mp q
    omega), Option.bind_some, div_nI (by omega) (by omega) (by omega), show nI ((celI L xs a).toBitVec.toNat % 2147483648 / (hi - lo + 1)) * nI (hi - lo + 1) = nI ((celI L xs a).toBitVec.toNat % 2147483648 / (hi - lo + 1) * (hi - lo + 1)) from (Int32.ofNat_mul _ _).symm, sub_nI (Nat.div_mul_le_self _ _), nI_add]
  unfold drN
  rw [show (celI L xs a).toBitVec.toNat % 2147483648 - (celI L xs a).toBitVec.toNat % 2147483648 / (hi - lo + 1) * (hi - lo + 1) = (celI L xs a).toBitVec.toNat % 2147483648 % (hi - lo + 1) from by
    have := Nat.div_add_mod ((celI L xs a).toBitVec.toNat % 2147483648) (hi - lo + 1)
    rw [Nat.mul_comm] at this
    omega]
theorem draw_i {K : Kd} {L : Nat} {xs : Nat → Int32} (hL : L < 2 ^ 31) {a lo hi : Nat} {x y z : Int32} (hx : x = nI a) (hy : y = nI lo) (hz : z = nI hi) (ha : a < 2 ^ 31) (h1 : lo ≤ hi) (h2 : hi < 65536) {w : Wd} : f_L_draw L xs K x y z w = some (nI (drN L xs a lo hi), w) := by rw [hx, hy, hz, x_draw hL ha h1 h2]
theorem pSt_lo {s t : Nat → Nat} {G : Int32} {x : Nat} (hx : x < 46) : ∀ k, (pSt s t G k).1 x = t x
  | 0 => rfl
  | k + 1 => by
    cases e : urg s t k with
    | none =>
      have e2 : pSt s t G (k + 1) = pSt s t G k := by rw [pSt, e]
      rw [e2]
      exact pSt_lo hx k
    | some v =>
      rw [pSt_s e]
      dsimp only
      unfold plX
      cases e3 : fa s (pSt s t G k).1 G v with
      | none => exact pSt_lo hx k
      | some z =>
        obtain ⟨d, q, r, o⟩ := z
        try dsimp only
        rw [plT_lo hx]
        exact pSt_lo hx k
/-- what a call leaves behind: nothing, or one state more that can be undone -/
def NXT (b : Nat) (s t : Nat → Nat) (m : Nat) (hs : Nat → Nat → Nat) (w' : Wd) : Prop := ∃ t' m' hs', Cst w' b s t' m' hs' ∧ GI (fun _ => false) s t' ∧ t' 0 ≤ t 0 + 5 ∧ ((m' = m ∧ t' = t ∧ hs' = hs) ∨ (m' = rmM m ∧ hs' = rmH m hs t))
theorem NXT.same {b m : Nat} {s t : Nat → Nat} {hs : Nat → Nat → Nat} {w' : Wd} (h : Cst w' b s t m hs) (hG : GI (fun _ => false) s t) : NXT b s t m hs w' := ⟨t, m, hs, h, hG, Nat.le_add_right _ _, Or.inl ⟨rfl, rfl, rfl⟩⟩
theorem NXT.more {b m : Nat} {s t t' : Nat → Nat} {hs : Nat → Nat → Nat} {w' : Wd} (h : Cst w' b s t' (rmM m) (rmH m hs t)) (hG : GI (fun _ => false) s t') (h0 : t' 0 ≤ t 0 + 5) : NXT b s t m hs w' := ⟨t', rmM m, rmH m hs t, h, hG, h0, Or.inr ⟨rfl, rfl⟩⟩
theorem act_ok {w : Wd} {b m : Nat} {s t : Nat → Nat} {hs : Nat → Nat → Nat} (h : Cst w b s t m hs) (hG : GI (fun _ => false) s t) (h1 : s 1 = 2) (h2 : s 2 = 2) (h3 : s 3 = 4) {L : Nat} {xs : Nat → Int32} (hL : L < 2 ^ 31) {k : Nat} (hk : k < 1000) (hd : t 0 + 5 < 600) : ∃ w', f_L_act L xs (Kx X) (some 0) (nI k) w = some w' ∧ NXT b s t m hs w' := by
  have hx := h.1
  have hS := hx.gs
  have hT := hx.gt
  have a1 := drN_rg (L := L) (xs := xs) (a := 4 * k + 1) (lo := 0) (hi := 3) (by omega)
  have a2 := drN_rg (L := L) (xs := xs) (a := 4 * k + 2) (lo := 0) (hi := 3) (by omega)
  have a3 := drN_rg (L := L) (xs := xs) (a := 4 * k) (lo := 0) (hi := 7) (by omega)
  have k4 : (4 : Int32) * nI k = nI (4 * k) := (Int32.ofNat_mul 4 k).symm
  have kk : ∀ j : Nat, nI (4 * k) + nI j = nI (4 * k + j) := fun j => nI_add _ _
  unfold f_L_act
  rw [draw_i (x := 4 * nI k + 1) (y := 0) (z := 3) (a := 4 * k + 1) (lo := 0) (hi := 3) hL (by rw [k4]; exact kk 1) rfl rfl (by omega) (by omega) (by omega), Option.bind_some]
  try dsimp only
  rw [draw_i (x := 4 * nI k + 2) (y := 0) (z := 3) (a := 4 * k + 2) (lo := 0) (hi := 3) hL (by rw [k4]; exact kk 2) rfl rfl (by omega) (by omega) (by omega), Option.bind_some]
  try dsimp only
  rw [draw_i (x := 4 * nI k) (y := 0) (z := 7) (a := 4 * k) (lo := 0) (hi := 7) hL k4 rfl rfl (by omega) (by omega) (by omega), Option.bind_some]
  try dsimp only
  have d5 : ∀ lo hi, lo ≤ hi → hi < 65536 → ∀ x y, x = nI lo → y = nI hi → f_L_draw L xs (Kx X) (4 * nI k + 3) x y w = some (nI (drN L xs (4 * k + 3) lo hi), w) := fun lo hi q1 q2 x y q3 q4 => draw_i hL (by rw [k4]; exact kk 3) q3 q4 (by omega) q1 q2
  generalize drN L xs (4 * k + 1) 0 3 = n1 at a1 ⊢
  generalize drN L xs (4 * k + 2) 0 3 = n2 at a2 ⊢
  generalize drN L xs (4 * k) 0 7 = n3 at a3 ⊢
  have n22 : nI n2 - nI n2 / 2 * 2 = nI (n2 % 2) := by
    rcases (by omega : n2 = 0 ∨ n2 = 1 ∨ n2 = 2 ∨ n2 = 3) with e | e | e | e <;> subst e <;> decide
  have pln : ∃ w', ((f_L_planned (Kx X) (some 0) (nI n1) w).bind fun q9 => some q9.2) = some w' ∧ NXT b s t m hs w' := by
    unfold f_L_planned
    rw [k10, Option.bind_some]
    rcases m_planNext (X := X) h (i := n1) (by omega) with ⟨e, w2, x, q, c⟩ | ⟨d, q, r, o, w2, z, y, x, c⟩
    · rw [x, Option.bind_some]
      rcases q with q | q <;> subst q
      · exact ⟨w2, rfl, NXT.same c hG⟩
      · exact ⟨w2, rfl, NXT.same c hG⟩
    · rw [x, Option.bind_some]
      exact ⟨w2, rfl, NXT.more c (GIplT hS hT hG (by omega) (fa_fl y)) (by rw [plT_lo (by omega)]; omega)⟩
  rcases (by omega : n3 = 0 ∨ n3 = 1 ∨ n3 = 2 ∨ n3 = 3 ∨ n3 = 4 ∨ n3 = 5 ∨ n3 = 6 ∨ n3 = 7) with e | e | e | e | e | e | e | e <;> subst e
  · rw [if_neg (by decide), if_pos (by decide)]
    exact pln
  · rw [if_neg (by decide), if_neg (by decide), if_pos (by decide)]
    exact pln
  · rw [if_neg (by decide), if_neg (by decide), if_neg (by decide), if_pos (by decide)]
    unfold f_L_adjourned
    rw [k10, Option.bind_some]
    rcases m_adjourn (X := X) h (i := n1) (p := n2) (by omega) (by omega) with x | ⟨v, w2, z, y, x, c⟩
    · rw [x, Option.bind_some]
      exact ⟨w, rfl, NXT.same h hG⟩
    · rw [x, Option.bind_some]
      exact ⟨w2, rfl, NXT.more c (GItkT hS hT hG (by omega) (by omega) z (fun _ _ q => q)) (by rw [tkT_lo (by omega)]; omega)⟩
  · rw [if_neg (by decide), if_neg (by decide), if_neg (by decide), if_neg (by decide), if_pos (by decide), d5 0 60 (by omega) (by omega) 0 60 rfl rfl, Option.bind_some]
    try dsimp only
    have g := drN_rg (L := L) (xs := xs) (a := 4 * k + 3) (lo := 0) (hi := 60) (by omega)
    generalize drN L xs (4 * k + 3) 0 60 = d at g ⊢
    unfold f_L_withdrawn
    rw [k10, Option.bind_some, n22]
    rcases m_withdraw (X := X) h (v := n2 % 2) (d := d) (by omega) (by omega) with x | ⟨v, w2, z, x, c⟩
    · rw [x, Option.bind_some]
      exact ⟨w, rfl, NXT.same h hG⟩
    · rw [x, Option.bind_some]
      refine ⟨w2, rfl, NXT.more c (GItwT_end hS (wdT_good hT (by omega)) (fun c hc q => ?_) (GIwdT hS hT hG (by omega)) (by omega)) ?_⟩
      · simp only [Bool.and_eq_true, beq_iff_eq] at q
        exact q.1
      · rw [(twT_ge hS (wdT_good hT (by omega)) (by omega) (s 3) (by omega)).2.2 0 (by omega), wdT_ne (by omega)]
        omega
  · rw [if_neg (by decide), if_neg (by decide), if_neg (by decide), if_neg (by decide), if_neg (by decide), if_pos (by decide), d5 0 30 (by omega) (by omega) 0 30 rfl rfl, Option.bind_some]
    try dsimp only
    have g := drN_rg (L := L) (xs := xs) (a := 4 * k + 3) (lo := 0) (hi := 30) (by omega)
    generalize drN L xs (4 * k + 3) 0 30 = d at g ⊢
    unfold f_L_closed
    rw [k10, Option.bind_some]
    rcases m_addHoliday (X := X) h (d := d) (by omega) with ⟨e, x, q⟩ | ⟨v, w2, z1, z2, z3, x, c⟩
    · rw [x, Option.bind_some]
      rcases q with q | q <;> subst q
      · exact ⟨w, rfl, NXT.same h hG⟩
      · exact ⟨w, rfl, NXT.same h hG⟩
    · rw [x, Option.bind_some]
      have gh := hoT_good hT (d := d) (by omega) z3 (wkg_hol z2)
      refine ⟨w2, rfl, NXT.more c (GItwT_end hS gh (fun c hc q => ?_) (GIhoT hS hT hG z3) (by omega)) ?_⟩
      · simp only [Bool.and_eq_true, beq_iff_eq] at q
        exact q.1
      · rw [(twT_ge hS gh (by omega) (s 3) (by omega)).2.2 0 (by omega), hoT_ne (by omega) (by omega)]
        omega
  · rw [if_neg (by decide), if_neg (by decide), if_neg (by decide), if_neg (by decide), if_neg (by decide), if_neg (by decide), if_pos (by decide)]
    unfold f_L_barred
    rw [k10, Option.bind_some, n22]
    rcases m_addBar (X := X) h (o := n2 % 2) (j := n1) (by omega) (by omega) with x | ⟨w2, z, x, c⟩ | ⟨w2, z, x, c⟩
    · rw [x, Option.bind_some]
      exact ⟨w, rfl, NXT.same h hG⟩
    · rw [x, Option.bind_some]
      refine ⟨w2, rfl, NXT.more c (GItkT (P := fun c => c == n1) hS (brT_good hT (by omega) (by omega)) (GIbrT hS hT hG (by omega) (fun q => by simp at q)) (by omega) (by omega) (by rw [brT_cs (by omega)]; exact z.1) (fun c hc _ => beq_false_of_ne hc)) (by rw [tkT_lo (by omega), brT_ne (by omega)]; omega)⟩
    · rw [x, Option.bind_some]
      exact ⟨w2, rfl, NXT.more c (GIbrT hS hT hG (by omega) (fun _ e1 e2 => z ⟨e1, e2⟩)) (by rw [brT_ne (by omega)]; omega)⟩
  · rw [if_neg (by decide), if_neg (by decide), if_neg (by decide), if_neg (by decide), if_neg (by decide), if_neg (by decide), if_neg (by decide), if_pos (by decide), k10, Option.bind_some]
    obtain ⟨w2, x, c⟩ := m_planAll (X := X) h
    rw [x, Option.bind_some]
    exact ⟨w2, rfl, NXT.more c (GI_pSt hS hT h.2.1 hG _ (Nat.le_refl _)) (by rw [pSt_lo (by omega)]; omega)⟩
  · rw [if_pos (by decide), d5 1 5 (by omega) (by omega) 1 5 rfl rfl, Option.bind_some]
    try dsimp only
    have g := drN_rg (L := L) (xs := xs) (a := 4 * k + 3) (lo := 1) (hi := 5) (by omega)
    generalize drN L xs (4 * k + 3) 1 5 = d at g ⊢
    rw [k10, Option.bind_some]
    obtain ⟨w2, x, c⟩ := m_pass (X := X) h (n := d) (by omega) (by omega) (by omega)
    rw [x, Option.bind_some]
    exact ⟨w2, rfl, NXT.more c (GIfin hS hT hG (by omega)) (by rw [phT_0]; omega)⟩
theorem fl_le {s t : Nat → Nat} {G : Int32} {i d q r o : Nat} : flN s t G i d q r o ≤ 9 := by
  unfold flN pbN
  repeat' split
  all_goals omega
theorem op_bad {s t : Nat → Nat} (hS : GoodS s) {i d q r o d2 q2 r2 o2 : Nat} (hi : i < s 3) (h : fa s t (-nI 1) i = some (d, q, r, o)) (hd : d2 < d) (hr : r2 < s 0) (ho : o2 < s 1) : flN s t (-nI 1) i d2 q2 r2 o2 ≠ 0 := fun e => by
  obtain ⟨a1, a2, a3, a4⟩ := fl_dec.mp e
  unfold dyO at a1
  simp only [Bool.or_eq_false_iff, decide_eq_false_iff_not] at a1
  have := (hS.2.1 r2 hr).2
  have := (hS.2.2.2.2.1 i hi).2.1.1
  exact (cnD_1 h).2 d2 q2 r2 o2 (by omega) hd (by omega) hr ho e
theorem op_prob {w : Wd} {b m : Nat} {s t : Nat → Nat} {hs : Nat → Nat → Nat} (h : Cst w b s t m hs) (h0 : s 0 = 2) (h1 : s 1 = 2) {i d : Nat} (hi : i < s 3) (hp : cs t i 0 ≤ 1) (hd : 0 < d ∧ d < 600) (hbad : ∀ q r o, r < s 0 → o < s 1 → flN s t (-nI 1) i (d - 1) q r o ≠ 0) {q r o : Nat} (hq : q < 8) (hr : r < 2) (ho : o < 2) : ∃ w' v, f_NX12_problem (Kx X) 0 (nI i) (nI d - 1) (nI q) (nI r) (nI o) w = some (v, w') ∧ v ≠ 0 ∧ Cst w' b s t m hs := by
  obtain ⟨w1, x, o1⟩ := n_problem (X := X) h.1 hi (d := d - 1) (q := q) (r := r) (o := o) (by omega) hq (by omega) (by omega) hp
  refine ⟨w1, _, by rw [show nI d - 1 = nI (d - 1) from sub_nI (b := 1) (by omega)]; exact x, fun e => ?_, h.off o1⟩
  have := (nI_eq (b := 0) (by have := fl_le (s := s) (t := t) (G := -nI 1) (i := i) (d := d - 1) (q := q) (r := r) (o := o); omega) (by omega)).mp e
  exact hbad q r o (by omega) (by omega) this
theorem op_99 {w : Wd} {b m : Nat} {s t : Nat → Nat} {hs : Nat → Nat → Nat} (h : Cst w b s t m hs) (h0 : s 0 = 2) (h1 : s 1 = 2) {i d : Nat} (hi : i < s 3) (hp : cs t i 0 ≤ 1) (hd : 0 < d ∧ d < 600) (hbad : ∀ q r o, r < s 0 → o < s 1 → flN s t (-nI 1) i (d - 1) q r o ≠ 0) {q r : Nat} (hq : q < 8) (hr : r < 2) (k : Option Nat → Int32 → Int32 → Int32 → Int32 → Int32 → Wd → Option (Bool × Wd)) : ∃ w', f_L_isOpening_L99 (Kx X) k fu (some 0) (nI i) (nI d) (nI q) (nI r) 0 w = k (some 0) (nI i) (nI d) (nI q) (nI r) (nI 2) w' ∧ Cst w' b s t m hs := by
  obtain ⟨w1, v1, x1, n1, c1⟩ := op_prob (X := X) h h0 h1 hi hp hd hbad hq hr (o := 0) (by omega)
  obtain ⟨w2, v2, x2, n2, c2⟩ := op_prob (X := X) c1 h0 h1 hi hp hd hbad hq hr (o := 1) (by omega)
  refine ⟨w2, ?_, c2⟩
  rw [show fu = (fu - 3) + 1 + 1 + 1 from rfl, f_L_isOpening_L99, if_neg (by decide), k10, Option.bind_some, show f_NX12_problem (Kx X) 0 (nI i) (nI d - 1) (nI q) (nI r) 0 w = _ from x1, Option.bind_some]
  try dsimp only
  rw [if_neg n1, f_L_isOpening_L99, if_neg (by decide), k10, Option.bind_some, show f_NX12_problem (Kx X) 0 (nI i) (nI d - 1) (nI q) (nI r) (0 + 1) w1 = _ from x2, Option.bind_some]
  try dsimp only
  rw [if_neg n2, f_L_isOpening_L99, if_pos (by decide)]
  rfl
theorem op_90 {w : Wd} {b m : Nat} {s t : Nat → Nat} {hs : Nat → Nat → Nat} (h : Cst w b s t m hs) (h0 : s 0 = 2) (h1 : s 1 = 2) {i d : Nat} (hi : i < s 3) (hp : cs t i 0 ≤ 1) (hd : 0 < d ∧ d < 600) (hbad : ∀ q r o, r < s 0 → o < s 1 → flN s t (-nI 1) i (d - 1) q r o ≠ 0) {q : Nat} (hq : q < 8) (k : Option Nat → Int32 → Int32 → Int32 → Int32 → Wd → Option (Bool × Wd)) : ∃ w', f_L_isOpening_L90 (Kx X) k fu (some 0) (nI i) (nI d) (nI q) 0 w = k (some 0) (nI i) (nI d) (nI q) (nI 2) w' ∧ Cst w' b s t m hs := by
  obtain ⟨w1, x1, c1⟩ := op_99 (X := X) h h0 h1 hi hp hd hbad hq (r := 0) (by omega) (fun v0_99 v1_99 v2_99 v3_99 v4_99 v5_99 w18 => f_L_isOpening_L90 (Kx X) k ((fu - 3) + 1 + 1) v0_99 v1_99 v2_99 v3_99 (v4_99 + 1) w18)
  obtain ⟨w2, x2, c2⟩ := op_99 (X := X) c1 h0 h1 hi hp hd hbad hq (r := 1) (by omega) (fun v0_99 v1_99 v2_99 v3_99 v4_99 v5_99 w18 => f_L_isOpening_L90 (Kx X) k ((fu - 3) + 1) v0_99 v1_99 v2_99 v3_99 (v4_99 + 1) w18)
  refine ⟨w2, ?_, c2⟩
  have hf : f_L_isOpening_L90 (Kx X) k fu (some 0) (nI i) (nI d) (nI q) 0 w = f_L_isOpening_L90 (Kx X) k ((fu - 3) + 1 + 1 + 1) (some 0) (nI i) (nI d) (nI q) 0 w := rfl
  rw [hf, f_L_isOpening_L90, if_neg (by decide)]
  refine (show _ = _ from x1).trans ?_
  rw [f_L_isOpening_L90, if_neg (by decide)]
  refine (show _ = _ from x2).trans ?_
  rw [f_L_isOpening_L90, if_pos (by decide)]
  rfl
theorem op_77 {b m : Nat} {s t : Nat → Nat} {hs : Nat → Nat → Nat} (h0 : s 0 = 2) (h1 : s 1 = 2) {i d : Nat} (hi : i < s 3) (hp : cs t i 0 ≤ 1) (hd : d < 600) (hbad : 0 < d → ∀ q r o, r < s 0 → o < s 1 → flN s t (-nI 1) i (d - 1) q r o ≠ 0) (f : Nat) : ∀ c q w, q + c = 8 → Cst w b s t m hs → ∃ w', f_L_isOpening_L77 (Kx X) (fun v0_77 v1_77 v2_77 v3_77 w13 => some (true, w13)) (f + c + 1) (some 0) (nI i) (nI d) (nI q) w = some (true, w') ∧ Cst w' b s t m hs
  | 0, q, w, hc, h => by
    have : q = 8 := by omega
    subst this
    exact ⟨w, by rw [f_L_isOpening_L77, if_pos (by decide)], h⟩
  | c + 1, q, w, hc, h => by
    have q8 : ¬ ((8 : Int32) ≤ nI q) := fun e => by
      have := (nI_leI (a := 8) (b := q) (by omega) (by omega)).mp e
      omega
    by_cases e : d = 0
    · exact ⟨w, by rw [f_L_isOpening_L77, if_neg q8, e, if_pos (by decide)], h⟩
    · have d0 : ¬ (nI d ≤ (0 : Int32)) := fun e2 => by
        have := (nI_leI (a := d) (b := 0) (by omega) (by omega)).mp e2
        omega
      obtain ⟨w1, x1, c1⟩ := op_90 (X := X) h h0 h1 hi hp ⟨by omega, hd⟩ (hbad (by omega)) (q := q) (by omega) (fun v0_90 v1_90 v2_90 v3_90 v4_90 w16 => f_L_isOpening_L77 (Kx X) (fun v0_77 v1_77 v2_77 v3_77 w13 => some (true, w13)) (f + c + 1) v0_90 v1_90 v2_90 (v3_90 + 1) w16)
      obtain ⟨w2, x2, c2⟩ := op_77 h0 h1 hi hp hd hbad f c (q + 1) w1 (by omega) c1
      refine ⟨w2, ?_, c2⟩
      rw [show f + (c + 1) + 1 = f + c + 1 + 1 by omega, f_L_isOpening_L77, if_neg q8, if_neg d0]
      refine (show _ = _ from x1).trans ?_
      try dsimp only
      rw [show nI q + 1 = nI (q + 1) from nI_add q 1]
      exact x2
theorem opening_ok {w : Wd} {b m : Nat} {s t : Nat → Nat} {hs : Nat → Nat → Nat} (h : Cst w b s t m hs) (h0 : s 0 = 2) (h1 : s 1 = 2) {i : Nat} (hi : i < s 3) : ∃ w', f_L_isOpening (Kx X) (some 0) (nI i) w = some (true, w') ∧ Cst w' b s t m hs := by
  have hx := h.1
  have hS := hx.gs
  have hT := hx.gt
  have c3 := hT.c3 (i := i) (by have := hS.1; omega)
  unfold f_L_isOpening
  rw [k10, Option.bind_some, n_matter5 hx hi, Option.bind_some]
  try dsimp only
  by_cases hp : cs t i 0 ≤ 1
  · rw [if_pos (show nI (cs t i 0) ≤ (1 : Int32) from (nI_leI (b := 1) (by omega) (by omega)).mpr hp)]
    obtain ⟨w1, x1, o1⟩ := n_opening0 (X := X) hx hi hp
    have k1 := h.off o1
    obtain ⟨w2, x2, o2⟩ := n_openDays (X := X) k1.1 hi hp
    have k2 := k1.off o2
    rw [x1, Option.bind_some]
    try dsimp only
    cases e : fa s t (-nI 1) i with
    | none =>
      try dsimp only
      rw [if_neg (by decide), x2, Option.bind_some]
      try dsimp only
      rw [cnD_0 e, if_pos (by rfl)]
      exact ⟨w2, rfl, k2⟩
    | some z =>
      obtain ⟨d, q, r, o⟩ := z
      try dsimp only
      obtain ⟨y1, y2, y3, y4⟩ := fa_good hS hT hi e
      have cd := (cnD_1 e).1
      have ld := limD_le hS hT hi
      have cl : cnD s t (-nI 1) i (limD s t i) ≤ 1000 := Nat.le_trans (cnt_le _) (by omega)
      have lc := (hS.2.2.2.2.1 i hi).2.1.1
      rw [if_pos (show (0 : Int32) ≤ nI d from (nI_leI (a := 0) (b := d) (by omega) (by omega)).mpr (Nat.zero_le _)), x2, Option.bind_some]
      try dsimp only
      rw [if_neg (show ¬ nI (cnD s t (-nI 1) i (limD s t i)) < (1 : Int32) from fun q => by
        have := (nI_ltI (b := 1) (by omega) (by omega)).mp q
        omega)]
      obtain ⟨w3, x3, o3⟩ := n_opening1 (X := X) k2.1 hi hp
      have k3 := k2.off o3
      obtain ⟨w4, x4, o4⟩ := n_opening2 (X := X) k3.1 hi hp
      have k4 := k3.off o4
      obtain ⟨w5, x5, o5⟩ := n_opening3 (X := X) k4.1 hi hp
      have k5 := k4.off o5
      obtain ⟨w6, x6, o6⟩ := n_problem (X := X) k5.1 hi (d := d) (q := q) (r := r) (o := o) (by omega) (by omega) y3 y4 hp
      have k6 := k5.off o6
      rw [e] at x3 x4 x5
      rw [x3, Option.bind_some]
      try dsimp only
      rw [x4, Option.bind_some]
      try dsimp only
      rw [x5, Option.bind_some]
      try dsimp only
      rw [x6, Option.bind_some]
      try dsimp only
      rw [fa_fl e, if_pos (by rfl)]
      obtain ⟨w7, x7, k7⟩ := op_77 (X := X) h0 h1 hi hp (d := d) (by omega) (fun d0 q2 r2 o2 z1 z2 => op_bad hS hi e (by omega) z1 z2) (fu - 9) 8 0 w6 rfl k6
      exact ⟨w7, x7, k7⟩
  · rw [if_neg (show ¬ nI (cs t i 0) ≤ (1 : Int32) from fun q => hp ((nI_leI (b := 1) (by omega) (by omega)).mp q))]
    exact ⟨w, rfl, h⟩
