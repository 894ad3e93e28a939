/-! The text is fed. -/
variable {X : Kd}
/-- four bytes of a word, so far -/
def pN (g : Nat → Nat) (j : Nat) : Nat := (if 0 < j then g 0 * 16777216 else 0) + (if 1 < j then g 1 * 65536 else 0) + (if 2 < j then g 2 * 256 else 0) + (if 3 < j then g 3 else 0)
theorem sft_d : ∀ k, k < 20 → ((24 - (8 * (nI k - nI k / 4 * 4))) : Int32) = nI (24 - 8 * (k % 4)) ∧ (nI k : Int32) / 4 = nI (k / 4) := by decide +kernel
theorem or_mul {a b i : Nat} (h : b < 2 ^ i) : (a * 2 ^ i) ||| b = a * 2 ^ i + b := by
  have := Nat.shiftLeft_add_eq_or_of_lt h a
  rw [Nat.shiftLeft_eq] at this
  exact this.symm
theorem pN_0 {g : Nat → Nat} : pN g 0 = 0 := rfl
theorem pN_1 {g : Nat → Nat} : pN g 1 = g 0 * 16777216 := by
  unfold pN
  rw [if_pos (by omega), if_neg (by omega), if_neg (by omega), if_neg (by omega)]
  try omega
theorem pN_2 {g : Nat → Nat} : pN g 2 = g 0 * 16777216 + g 1 * 65536 := by
  unfold pN
  rw [if_pos (by omega), if_pos (by omega), if_neg (by omega), if_neg (by omega)]
  try omega
theorem pN_3 {g : Nat → Nat} : pN g 3 = g 0 * 16777216 + g 1 * 65536 + g 2 * 256 := by
  unfold pN
  rw [if_pos (by omega), if_pos (by omega), if_pos (by omega), if_neg (by omega)]
  try omega
theorem pN_4 {g : Nat → Nat} : pN g 4 = g 0 * 16777216 + g 1 * 65536 + g 2 * 256 + g 3 := by
  unfold pN
  rw [if_pos (by omega), if_pos (by omega), if_pos (by omega), if_pos (by omega)]
theorem pN_step {g : Nat → Nat} (hg : ∀ u, u < 4 → g u < 128) {j : Nat} (hj : j < 4) : nI (pN g j) ||| (nI (g j) <<< (nI (24 - 8 * j) &&& 31)) = nI (pN g (j + 1)) := by
  have g0 := hg 0 (by omega)
  have g1 := hg 1 (by omega)
  have g2 := hg 2 (by omega)
  have g3 := hg 3 (by omega)
  rw [show (31 : Int32) = nI 31 from rfl]
  rcases (by omega : j = 0 ∨ j = 1 ∨ j = 2 ∨ j = 3) with e | e | e | e <;> subst e
  · rw [shl_nI (n := g 0) (k := 24) (by omega) (by omega), pN_0, or_nI (a := 0) (b := g 0 * 2 ^ 24) (by omega) (by omega), Nat.zero_or, show 0 + 1 = 1 from rfl, pN_1]
    all_goals exact congrArg nI (by omega)
  · rw [shl_nI (n := g 1) (k := 16) (by omega) (by omega), pN_1, or_nI (a := g 0 * 16777216) (b := g 1 * 2 ^ 16) (by omega) (by omega), show g 0 * 16777216 = g 0 * 2 ^ 24 by omega, or_mul (b := g 1 * 2 ^ 16) (by omega), pN_2]
    all_goals exact congrArg nI (by omega)
  · rw [shl_nI (n := g 2) (k := 8) (by omega) (by omega), pN_2, or_nI (a := g 0 * 16777216 + g 1 * 65536) (b := g 2 * 2 ^ 8) (by omega) (by omega), show g 0 * 16777216 + g 1 * 65536 = (g 0 * 256 + g 1) * 2 ^ 16 by omega, or_mul (b := g 2 * 2 ^ 8) (by omega), pN_3]
    all_goals exact congrArg nI (by omega)
  · rw [shl_nI (n := g 3) (k := 0) (by omega) (by omega), pN_3, or_nI (a := g 0 * 16777216 + g 1 * 65536 + g 2 * 256) (b := g 3 * 2 ^ 0) (by omega) (by omega), show g 0 * 16777216 + g 1 * 65536 + g 2 * 256 = (g 0 * 65536 + g 1 * 256 + g 2) * 2 ^ 8 by omega, or_mul (b := g 3 * 2 ^ 0) (by omega), pN_4]
    all_goals exact congrArg nI (by omega)
theorem byB_n {M : Nat} (h : M % 256 < 128) : byB (nI M) = nI (M % 256) := by
  have e : (nI M).toInt8 = (nI (M % 256)).toInt8 := by
    apply Int8.toBitVec_inj.mp
    rw [Int32.toBitVec_toInt8, Int32.toBitVec_toInt8]
    apply BitVec.eq_of_toNat_eq
    show (BitVec.signExtend 8 (BitVec.ofNat 32 M)).toNat = (BitVec.signExtend 8 (BitVec.ofNat 32 (M % 256))).toNat
    rw [BitVec.signExtend_eq_setWidth_of_le _ (by omega), BitVec.signExtend_eq_setWidth_of_le _ (by omega), BitVec.toNat_setWidth, BitVec.toNat_setWidth, BitVec.toNat_ofNat, BitVec.toNat_ofNat]
    omega
  unfold byB
  rw [e]
  exact chr_d _ h
theorem sshr {N s : Nat} (hN : N < 2 ^ 31) (hs : s < 32) : shM (nI N) s = nI (N / 2 ^ s) := shr_nI hN hs
/-- a byte of a word -/
theorem pN_by {g : Nat → Nat} (hg : ∀ u, u < 4 → g u < 128) {j : Nat} (hj : j < 4) : byB (shM (nI (pN g 4)) (24 - 8 * j)) = nI (g j) := by
  have g0 := hg 0 (by omega)
  have g1 := hg 1 (by omega)
  have g2 := hg 2 (by omega)
  have g3 := hg 3 (by omega)
  have h4 := pN_4 (g := g)
  rw [sshr (by omega) (by omega)]
  have e : pN g 4 / 2 ^ (24 - 8 * j) % 256 = g j := by
    rcases (by omega : j = 0 ∨ j = 1 ∨ j = 2 ∨ j = 3) with e | e | e | e <;> subst e
    · show pN g 4 / 16777216 % 256 = g 0
      omega
    · show pN g 4 / 65536 % 256 = g 1
      omega
    · show pN g 4 / 256 % 256 = g 2
      omega
    · show pN g 4 / 1 % 256 = g 3
      omega
  rw [byB_n (by rw [e]; exact hg j hj), e]
theorem str_len {n : Nat} {w : Wd} {so : Nat} {C : List Nat} (h : STR X n w so C) : f_J0_length_8abf5 (Kx X) so w = some (nI C.length, w) := by
  obtain ⟨⟨s1, s2, s3⟩, h1, ar, ⟨a1, a2, a3⟩, h2, h3⟩ := h
  unfold f_J0_length_8abf5 f_J0_coder_7d493
  rw [c21 h2 a1 a3, Option.bind_some, h1]
  unfold grd
  rw [if_pos (by decide), Option.bind_some, Option.bind_some, shr0]
theorem i2c_d : ∀ c, c < 128 → i2cI (nI c &&& 255) = nI c ∧ i2cI (nI c) = nI c := by decide +kernel
theorem str_at {n : Nat} {w : Wd} {so k : Nat} {C : List Nat} (h : STR X n w so C) (hk : k < C.length) (hC : ∀ j, j < C.length → C.getD j 0 < 128) (hl : C.length < 2 ^ 30) : f_J0_charAt_5068e (Kx X) so (nI k) w = some (nI (C.getD k 0), w) := by
  obtain ⟨⟨s1, s2, s3⟩, h1, ar, ⟨a1, a2, a3⟩, h2, h3⟩ := h
  obtain ⟨i1, i2⟩ := i2c_d _ (hC k hk)
  unfold f_J0_charAt_5068e f_J0_isLatin1_aae02
  rw [h1, if_pos rfl, Option.bind_some]
  try dsimp only
  rw [ib_t]
  unfold f_J1_charAt_3b067 f_J0_checkIndex_df160 f_J3_checkIndex_8e157
  rw [c21 h2 a1 a3, Option.bind_some]
  try dsimp only
  rw [if_neg (fun q => by have := lt0.mp q; rw [nI_toInt (by omega)] at this; omega), if_lt_t (by omega) (by omega) hk, Option.bind_some, Option.bind_some, ixa_n hk (by omega), Option.bind_some, Option.bind_some, h3 k hk, i1]
  unfold grd
  rw [if_pos i2, Option.bind_some]
theorem STR.keep {n : Nat} {w w' : Wd} {so : Nat} {C : List Nat} (h : STR X n w so C) (k : ∀ x, 415 ≤ x → x < n → (∀ f, wI w' f x = wI w f x) ∧ (∀ f, wR w' f x = wR w f x) ∧ aI w' x = aI w x) : STR X n w' so C := by
  obtain ⟨⟨s1, s2, s3⟩, h1, ar, ⟨a1, a2, a3⟩, h2, h3⟩ := h
  exact ⟨⟨s1, s2, s3⟩, by rw [(k so s1 s2).1]; exact h1, ar, ⟨a1, a2, a3⟩, by rw [(k so s1 s2).2.1]; exact h2, fun j hj => by rw [(k ar a1 a2).2.2]; exact h3 j hj⟩
theorem STR.up {n : Nat} {w : Wd} {so : Nat} {C : List Nat} (h : STR X n w so C) {q : Nat × Nat} : STR (kup X n q) (n + 1) w so C := by
  obtain ⟨⟨s1, s2, s3⟩, h1, ar, ⟨a1, a2, a3⟩, h2, h3⟩ := h
  exact ⟨⟨s1, by omega, by show (if so = n then _ else _) = _; rw [if_neg (by omega)]; exact s3⟩, h1, ar, ⟨a1, by omega, by show (if ar = n then _ else _) = _; rw [if_neg (by omega)]; exact a3⟩, h2, h3⟩
theorem STR.le {n n' : Nat} {w : Wd} {so : Nat} {C : List Nat} (h : STR X n w so C) (hn : n ≤ n') : STR X n' w so C := by
  obtain ⟨⟨s1, s2, s3⟩, h1, ar, ⟨a1, a2, a3⟩, h2, h3⟩ := h
  exact ⟨⟨s1, by omega, s3⟩, h1, ar, ⟨a1, by omega, a3⟩, h2, h3⟩
/-- what stands at a place of the text, or a space behind its end -/
def gT (C : List Nat) (x : Nat) : Nat := if x < C.length then C.getD x 0 else 32
theorem gT_lt {C : List Nat} (hC : ∀ j, j < C.length → C.getD j 0 < 128) (x : Nat) : gT C x < 128 := by
  unfold gT
  by_cases e : x < C.length
  · rw [if_pos e]; exact hC x e
  · rw [if_neg e]; omega
def wqT (C : List Nat) (p k j : Nat) : Nat := pN (fun u => gT C (p + 4 * j + u)) (min (k - 4 * j) 4)
theorem fd17 {n : Nat} {w : Wd} {so p : Nat} {C : List Nat} (hn : 415 ≤ n) (h : STR X n w so C) (hC : ∀ j, j < C.length → C.getD j 0 < 128) (hl : C.length < 600) (hp : p < 600) (h0 : ∀ j, j < 5 → aI w n j = nI 0) (k : Option Nat → Option Nat → Int32 → Option Nat → Int32 → Wd → Option (Int32 × Option Nat × Option Nat × Wd)) : ∃ w', f_L_feed_L17 (Kx (kup X n (20, 5))) k fu (some 0) (some so) (nI p) (some n) 0 w = k (some 0) (some so) (nI p) (some n) (nI 20) w' ∧ Ofi NS (fun x => x = n) w w' ∧ ∀ j, j < 5 → aI w' n j = nI (wqT C p 20 j) := by
  refine loop_q (fun f c w1 => f_L_feed_L17 (Kx (kup X n (20, 5))) k f (some 0) (some so) (nI p) (some n) (nI c) w1) (fun c w1 => Ofi NS (fun x => x = n) w w1 ∧ ∀ j, j < 5 → aI w1 n j = nI (wqT C p c j)) (fun r => ∃ w', r = k (some 0) (some so) (nI p) (some n) (nI 20) w' ∧ Ofi NS (fun x => x = n) w w' ∧ ∀ j, j < 5 → aI w' n j = nI (wqT C p 20 j)) 20 (fun f w1 hi => ?_) (fun f c w1 hc hi ih => ?_) fu 0 w ⟨Ofi.rf, fun j hj => by
    rw [h0 j hj]
    unfold wqT
    rw [show min (0 - 4 * j) 4 = 0 by omega, pN_0]⟩ (by omega) (fu_lt (by omega))
  · try dsimp only
    rw [f_L_feed_L17, if_pos (by decide)]
    exact ⟨w1, rfl, hi.1, hi.2⟩
  · try dsimp only at ih ⊢
    obtain ⟨i1, i2⟩ := hi
    obtain ⟨d1, d2⟩ := sft_d c hc
    rw [d2] at d1
    have hS : STR (kup X n (20, 5)) (n + 1) w1 so C := (h.keep (w' := w1) (fun x x1 x2 => ⟨fun f => i1.2.1 f x (fun q => q), fun f => by rw [i1.1.1], i1.2.2 x (by omega)⟩)).up
    have hcn : cha (Kx (kup X n (20, 5))) 20 (some n) = some (n, 5) := ca rfl (by rw [kx_hi hn]; exact if_pos rfl)
    have cso : chk (Kx (kup X n (20, 5))) 11 (some so) = some so := ck rfl (by rw [kx_hi hS.1.1]; exact hS.1.2.2)
    have hw : nI (wqT C p c (c / 4)) ||| (nI (gT C (p + c)) <<< (nI (24 - 8 * (c % 4)) &&& 31)) = nI (wqT C p (c + 1) (c / 4)) := by
      unfold wqT
      rw [show min (c - 4 * (c / 4)) 4 = c % 4 by omega, show min (c + 1 - 4 * (c / 4)) 4 = c % 4 + 1 by omega, show p + c = p + 4 * (c / 4) + c % 4 by omega]
      exact pN_step (g := fun u => gT C (p + 4 * (c / 4) + u)) (fun u _ => gT_lt hC _) (j := c % 4) (by omega)
    have fin : ∀ (w2 : Wd), w2 = tI w1 n (c / 4) (nI (wqT C p (c + 1) (c / 4))) → Ofi NS (fun x => x = n) w w2 ∧ ∀ j, j < 5 → aI w2 n j = nI (wqT C p (c + 1) j) := fun w2 e => by
      rw [e]
      refine ⟨i1.trans (ofi_tI rfl), fun j hj => ?_⟩
      rw [aI_tI]
      by_cases e2 : j = c / 4
      · rw [if_pos ⟨rfl, e2⟩, e2]
      · rw [if_neg (fun q => e2 q.2), i2 j hj]
        unfold wqT
        by_cases e3 : j < c / 4
        · rw [show min (c - 4 * j) 4 = 4 by omega, show min (c + 1 - 4 * j) 4 = 4 by omega]
        · rw [show min (c - 4 * j) 4 = 0 by omega, show min (c + 1 - 4 * j) 4 = 0 by omega]
    rw [f_L_feed_L17, if_neg (show ¬ (20 : Int32) ≤ nI c from fun q => by
      have := (nI_leI (a := 20) (by omega) (by omega)).mp q
      omega), hcn, Option.bind_some, d2]
    try dsimp only
    rw [ixa_n (by omega) (by omega), Option.bind_some, cso, Option.bind_some, str_len hS, Option.bind_some, d1, nI_add]
    try dsimp only
    by_cases e : p + c < C.length
    · rw [if_neg (show ¬ nI C.length ≤ nI (p + c) from fun q => by
        have := (nI_leI (by omega) (by omega)).mp q
        omega), str_at hS e hC (by omega), Option.bind_some, Option.bind_some]
      try dsimp only
      have g : gT C (p + c) = C.getD (p + c) 0 := by unfold gT; rw [if_pos e]
      rw [i2 _ (by omega), ← g, hw, Option.bind_some, show nI c + 1 = nI (c + 1) from nI_add c 1]
      exact ih _ (fin _ rfl)
    · rw [if_pos (show nI C.length ≤ nI (p + c) from (nI_leI (by omega) (by omega)).mpr (by omega)), Option.bind_some, Option.bind_some]
      try dsimp only
      have g : gT C (p + c) = 32 := by unfold gT; rw [if_neg e]
      rw [i2 _ (by omega), show (32 : Int32) = nI (gT C (p + c)) by rw [g]; rfl, hw, show nI c + 1 = nI (c + 1) from nI_add c 1]
      exact ih _ (fin _ rfl)
/-- what feeding changes -/
def FDs (f x : Nat) : Prop := (x = 0 ∧ f = 1201) ∨ 415 ≤ x
def FDa (x : Nat) : Prop := x = 35 ∨ 415 ≤ x
theorem fr_clrF {w : Wd} {n : Nat} (hn : 415 ≤ n) : Fr FDs FDa w (clr w n) := ⟨fun f x q => by
  have hx : x ≠ n := fun e => q (Or.inr (by omega))
  exact ⟨if_neg hx, if_neg hx, if_neg hx⟩, fun x q => by
  have hx : x ≠ n := fun e => q (Or.inr (by omega))
  exact ⟨if_neg hx, if_neg hx, if_neg hx⟩⟩
theorem fd_it {n : Nat} {w : Wd} {so p : Nat} {C : List Nat} (hn : 415 ≤ n) (hF : FX w) (h : STR X n w so C) (hC : ∀ j, j < C.length → C.getD j 0 < 128) (hl : C.length < 600) (hp : p < 600) (h1 : wI w 1201 0 = nI p) : ∃ w', f_L_feed_it (Kx X) n (some 0) (some so) (nI p) w = some (nI (p + 20), some so, some 0, w') ∧ FX w' ∧ STR X n w' so C ∧ Fr FDs FDa w w' ∧ wI w' 1201 0 = nI (p + 20) ∧ ∀ j, aI w' 35 j = if p ≤ j ∧ j < p + 20 then nI (gT C j) else aI w 35 j := by
  have hF1 : FX (clr w n) := FX_clr hF hn
  have hS1 : STR X n (clr w n) so C := h.keep (fun x x1 x2 => ⟨fun f => clr_wI (by omega), fun f => clr_wR (by omega), clr_aI (by omega)⟩)
  have K10 : chk (Kx (kup X n (20, 5))) 10 (some 0) = some 0 := k10
  have hcn : cha (Kx (kup X n (20, 5))) 20 (some n) = some (n, 5) := ca rfl (by rw [kx_hi hn]; exact if_pos rfl)
  obtain ⟨w1, e1, o1, a1⟩ := fd17 (X := X) hn hS1 hC hl hp (fun j hj => by rw [clr_aI0]; rfl) (fun v0_17 v1_17 v2_17 v3_17 v4_17 w2 =>
    (cha (Kx (kup X n (20, 5))) 20 v3_17).bind fun a14 =>
    (ixa 0 a14.2).bind fun j15 =>
    (ixa 1 a14.2).bind fun j16 =>
    (ixa 2 a14.2).bind fun j17 =>
    (ixa 3 a14.2).bind fun j18 =>
    (ixa 4 a14.2).bind fun j19 =>
    (chk (Kx (kup X n (20, 5))) 10 v0_17).bind fun a20 =>
    (f_X12_feed (Kx (kup X n (20, 5))) a20 (aI w2 a14.1 j15) (aI w2 a14.1 j16) (aI w2 a14.1 j17) (aI w2 a14.1 j18) (aI w2 a14.1 j19) w2).bind fun q21 =>
    some ((v2_17 + 20), v1_17, v0_17, q21.2))
  have hF2 : FX w1 := o1.FX hF1
  have n1 : wI w1 1201 0 = nI p := by
    rw [o1.2.1 _ _ (fun q => q), clr_wI (by omega)]
    exact h1
  obtain ⟨w2, e2, o2, n2, q2⟩ := x_feed (X := kup X n (20, 5)) (a := aI w1 n 0) (b := aI w1 n 1) (c := aI w1 n 2) (d := aI w1 n 3) (e := aI w1 n 4) hF2 n1 (by omega)
  refine ⟨w2, ?_, o2.FX hF2, ?_, ?_, n2, fun j => ?_⟩
  · unfold f_L_feed_it
    rw [Option.bind_some, kup_x hn]
    refine (show _ = _ from e1).trans ?_
    try dsimp only
    rw [hcn, Option.bind_some]
    try dsimp only
    rw [show ixa (0 : Int32) 5 = some 0 from ixa_n (n := 0) (by omega) (by omega), Option.bind_some, show ixa (1 : Int32) 5 = some 1 from ixa_n (n := 1) (by omega) (by omega), Option.bind_some, show ixa (2 : Int32) 5 = some 2 from ixa_n (n := 2) (by omega) (by omega), Option.bind_some, show ixa (3 : Int32) 5 = some 3 from ixa_n (n := 3) (by omega) (by omega), Option.bind_some, show ixa (4 : Int32) 5 = some 4 from ixa_n (n := 4) (by omega) (by omega), Option.bind_some, K10, Option.bind_some, e2, Option.bind_some, show nI p + 20 = nI (p + 20) from nI_add p 20]
  · refine hS1.keep (fun x x1 x2 => ⟨fun f => ?_, fun f => ?_, ?_⟩)
    · rw [o2.2.1 f x (fun q => by unfold SBu at q; omega), o1.2.1 f x (fun q => q)]
    · rw [o2.1.1, o1.1.1]
    · rw [o2.2.2 x (by omega), o1.2.2 x (by omega)]
  · exact (fr_clrF hn).trans ((o1.fr.mono (fun _ _ q => q.elim) (fun x q => Or.inr (by omega))).trans (o2.fr.mono (fun f x q => Or.inl ⟨q.1, q.2⟩) (fun x q => Or.inl q)))
  · rw [q2 j]
    by_cases e : p ≤ j ∧ j < p + 20
    · rw [if_pos e, if_pos e]
      have pk : pk5 (aI w1 n 0) (aI w1 n 1) (aI w1 n 2) (aI w1 n 3) (aI w1 n 4) (j - p) = nI (pN (fun u => gT C (p + 4 * ((j - p) / 4) + u)) 4) := by
        unfold pk5
        rw [a1 0 (by omega), a1 1 (by omega), a1 2 (by omega), a1 3 (by omega), a1 4 (by omega)]
        have z : ∀ i, i < 5 → wqT C p 20 i = pN (fun u => gT C (p + 4 * i + u)) 4 := fun i hi => by
          unfold wqT
          rw [show min (20 - 4 * i) 4 = 4 by omega]
        rw [z 0 (by omega), z 1 (by omega), z 2 (by omega), z 3 (by omega), z 4 (by omega)]
        by_cases c1 : j - p < 4
        · rw [if_pos c1, show (j - p) / 4 = 0 by omega]
        · rw [if_neg c1]
          by_cases c2 : j - p < 8
          · rw [if_pos c2, show (j - p) / 4 = 1 by omega]
          · rw [if_neg c2]
            by_cases c3 : j - p < 12
            · rw [if_pos c3, show (j - p) / 4 = 2 by omega]
            · rw [if_neg c3]
              by_cases c4 : j - p < 16
              · rw [if_pos c4, show (j - p) / 4 = 3 by omega]
              · rw [if_neg c4, show (j - p) / 4 = 4 by omega]
      unfold fdB
      rw [pk, pN_by (fun u _ => gT_lt hC _) (j := (j - p) % 4) (by omega)]
      try dsimp only
      rw [show p + 4 * ((j - p) / 4) + (j - p) % 4 = j by omega]
    · rw [if_neg e, if_neg e, o1.2.2 35 (by omega), clr_aI (by omega)]
theorem fd_loop {so : Nat} {C : List Nat} (hC : ∀ j, j < C.length → C.getD j 0 < 128) (hl : C.length < 600) : ∀ m r p n w, r < m → C.length ≤ p + 20 * r → p < C.length + 20 → 415 ≤ n → FX w → STR X n w so C → wI w 1201 0 = nI p → (∀ j, j < p → aI w 35 j = nI (gT C j)) → ∃ w', f_L_feed_L2 (Kx X) m n (some 0) (some so) (nI p) w = some w' ∧ FX w' ∧ Fr FDs FDa w w' ∧ wI w' 1201 0 = nI C.length ∧ ∀ j, j < C.length → aI w' 35 j = nI (C.getD j 0)
  | 0, r, p, n, w, hr, _, _, _, _, _, _, _ => absurd hr (Nat.not_lt_zero _)
  | m + 1, r, p, n, w, hr, hp, hp2, hn, hF, h, h1, h2 => by
    have cso : chk (Kx X) 11 (some so) = some so := ck rfl (by rw [kx_hi h.1.1]; exact h.1.2.2)
    rw [f_L_feed_L2, cso, Option.bind_some, str_len h, Option.bind_some]
    try dsimp only
    by_cases e : C.length ≤ p
    · rw [if_pos ((nI_leI (by omega) (by omega)).mpr e), str_len h, Option.bind_some, k10, Option.bind_some]
      unfold f_X12_truncate
      try dsimp only
      rw [if_neg (show ¬ nI C.length < 0 from fun q => by have := lt0.mp q; rw [nI_toInt (by omega)] at this; omega), h1, if_le_t (by omega) (by omega) e, Option.bind_some, Option.bind_some]
      refine ⟨_, rfl, hF.sI, fr_sI (Or.inl ⟨rfl, rfl⟩), by rw [wI_sI, if_pos ⟨rfl, rfl⟩], fun j hj => ?_⟩
      show aI w 35 j = _
      rw [h2 j (by omega)]
      unfold gT
      rw [if_pos hj]
    · rw [if_neg (fun q => e ((nI_leI (by omega) (by omega)).mp q))]
      obtain ⟨w1, e1, f1, s1, r1, n1, q1⟩ := fd_it (X := X) hn hF h hC hl (p := p) (by omega) h1
      rw [e1, Option.bind_some]
      try dsimp only
      obtain ⟨w2, e2, f2, r2, n2, q2⟩ := fd_loop hC hl m (r - 1) (p + 20) (n + 1) w1 (by omega) (by omega) (by omega) (by omega) f1 (s1.le (by omega)) n1 (fun j hj => by
        rw [q1 j]
        by_cases e3 : p ≤ j ∧ j < p + 20
        · rw [if_pos e3]
        · rw [if_neg e3]
          exact h2 j (by omega))
      exact ⟨w2, e2, f2, r1.trans r2, n2, q2⟩
theorem x_fed {n so : Nat} {w : Wd} {C : List Nat} (hn : 415 ≤ n) (hF : FX w) (h : STR X n w so C) (hC : ∀ j, j < C.length → C.getD j 0 < 128) (hl : C.length < 600) (h1 : wI w 1201 0 = nI 0) : ∃ w', f_L_feed (Kx X) n (some 0) (some so) w = some w' ∧ FX w' ∧ Fr FDs FDa w w' ∧ wI w' 1201 0 = nI C.length ∧ ∀ j, j < C.length → aI w' 35 j = nI (C.getD j 0) := by
  unfold f_L_feed
  exact fd_loop (X := X) hC hl 59 31 0 n w (by omega) (by omega) (by omega) hn hF h h1 (fun j hj => absurd hj (Nat.not_lt_zero _))
