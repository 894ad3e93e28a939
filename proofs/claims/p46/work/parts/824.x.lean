variable {X : Kd}
theorem sh_k : ∀ k, k < 32 → (((nI k) &&& 31).toBitVec.smod 32).toNat = k := by decide +kernel
theorem ush_k : ∀ k, k < 32 → (((nI k).toUInt32 &&& Int32.toUInt32 31).toBitVec % 32).toNat = k := by decide +kernel
theorem shr_nI {n k : Nat} (h : n < 2 ^ 31) (hk : k < 32) : nI n >>> (nI k &&& nI 31) = nI (n / 2 ^ k) := pk_shrN h _ k (sh_k k hk)
theorem ushr_nI {n k : Nat} (h : n < 2 ^ 32) (hk : k < 32) : ushr (nI n) (nI k) = nI (n / 2 ^ k) := pk_ushrN h _ k (ush_k k hk)
theorem shl_nI {n k : Nat} (hk : k < 32) (h : n * 2 ^ k < 2 ^ 32) : nI n <<< (nI k &&& nI 31) = nI (n * 2 ^ k) := pk_shlN _ k (sh_k k hk) h
theorem and1_nI {n : Nat} (h : n < 2 ^ 32) : nI n &&& nI 1 = nI (n % 2) := pk_andN h 1 rfl
theorem x_has {K : Kd} {w : Wd} {u k : Nat} (h : u < 2 ^ 31) (hk : k < 32) : f_X12_has K (nI u) (nI k) w = some (u.testBit k, w) := by
  unfold f_X12_has
  have h1 : u / 2 ^ k < 2 ^ 31 := Nat.lt_of_le_of_lt (Nat.div_le_self _ _) h
  have h2 : u / 2 ^ k % 2 < 2 := Nat.mod_lt _ (by omega)
  rw [Nat.testBit_eq_decide_div_mod_eq]
  by_cases e : u / 2 ^ k % 2 = 0
  · simp (disch := omega) only [il, ushr_nI, and1_nI, if_eq_t]; simp [e]
  · simp (disch := omega) only [il, ushr_nI, and1_nI, if_eq_f]; simp [show u / 2 ^ k % 2 = 1 by omega]
theorem x_size {w : Wd} {a b : Nat} {s t : Nat → Nat} (h : HX w a b s t) {k : Nat} (hk : k < 4) : f_X9_size (Kx X) b (nI k) w = some (nI (s k), w) := by
  unfold f_X9_size
  simp (disch := omega) only [Option.bind_some, u900 h.1 h.2.1.2.1, ixa_n, unm h.1 h.2.1.2.1, h.2.2.1.1]
theorem x_contains {w : Wd} {a b : Nat} {s t : Nat → Nat} (h : HX w a b s t) {d : Nat} (hd : d < 2 ^ 31) : f_X2_contains (Kx X) (a + 1) (nI d) w = some (isHol t d, w) := by
  unfold f_X2_contains
  by_cases e : d < 600
  · have hbit := h.2.2.2.1.2.1 d e
    simp only [il]
    simp (disch := omega) only [↓rem_nI, if_lt_f, if_le_f, Option.bind_some, t200 h.1 h.2.1.1, div_nI, ixa_n, hbit]
    cases isHol t d <;> rfl
  · have h0 : isHol t d = false := by
      cases e2 : isHol t d with
      | false => rfl
      | true =>
        obtain ⟨k, h1, h2, h3⟩ := (anyF_iff _ _).mp e2
        have := h.2.2.2.2.2.2.2.1 k (by omega)
        simp at h3
        omega
    simp (disch := omega) only [il, if_lt_f, if_le_t, h0]
theorem x_works {w : Wd} {a b : Nat} {s t : Nat → Nat} (h : HX w a b s t) {d : Nat} (hd : d < 2 ^ 31) : f_X10_works (Kx X) a (nI d) w = some (wkg t d, w) := by
  unfold f_X10_works wkg
  by_cases e : d % 7 < 5
  · simp (disch := omega) only [il, rem_nI, if_le_f, t1002 h.1 h.2.1.1, x_contains h, Option.bind_some, ↓ifb]
    cases isHol t d <;> simp [e]
  · simp (disch := omega) only [il, rem_nI, if_le_t]
    simp [e]
theorem x_limitLoop {w : Wd} {a b : Nat} {s t : Nat → Nat} (h : HX w a b s t) {i : Nat} {r : Option Nat} : ∀ f l d g, l ≤ wkIn t (d + 1) f → l < 1000 → d + f < 9000 → f < g → f_X10_limitDay_L31 (Kx X) a (fun v1_31 v2_31 v3_31 v4_31 w8 => some (v4_31, w8)) g (nI i) r (nI l) (nI d) w = some (nI (lim t f l d), w) := by
  intro f
  induction f with
  | zero =>
    intro l d g hl hl2 hd hg
    obtain ⟨g, rfl⟩ : ∃ k, g = k + 1 := ⟨g - 1, by omega⟩
    have h0 : l = 0 := by simpa [wkIn, sm] using hl
    subst h0
    rw [f_X10_limitDay_L31]
    simp (disch := omega) only [il, if_le_t]
    rfl
  | succ f ih =>
    intro l d g hl hl2 hd hg
    obtain ⟨g, rfl⟩ : ∃ k, g = k + 1 := ⟨g - 1, by omega⟩
    have h1 : ∀ n, wkIn t (d + 1) (n + 1) = bn (wkg t (d + 1)) + wkIn t (d + 1 + 1) n := by
      intro n
      induction n with
      | zero => simp [wkIn, sm]
      | succ n ih =>
        rw [wkIn_succ, ih, wkIn_succ, show d + 1 + (n + 1) = d + 1 + 1 + n by omega]
        omega
    rw [h1] at hl
    rw [f_X10_limitDay_L31, lim]
    by_cases e : l = 0
    · subst e
      simp (disch := omega) only [il, if_le_t]
      rfl
    · have e2 := bn_le (wkg t (d + 1))
      simp (disch := omega) only [il, if_le_f, x_works h, Option.bind_some, ↓ifb, nI_add, nI_sub1]
      rw [if_neg e]
      have := ih (l - bn (wkg t (d + 1))) (d + 1) g (by omega) (by omega) (by omega) (by omega)
      cases e3 : wkg t (d + 1)
      · rw [e3] at this
        simpa [bn] using this
      · rw [e3] at this
        simpa [bn] using this
theorem x_limitDay {w : Wd} {a b : Nat} {s t : Nat → Nat} (h : HX w a b s t) {i : Nat} (hi : i < s 3) : f_X10_limitDay (Kx X) a (nI i) w = some (nI (limD s t i), w) := by
  have hS := h.2.2.2.2.1
  have hT := h.2.2.2.2.2
  have h12 := hS.1.2.2.2
  have h1 := hS.2.2.2.2.1 i hi
  have h2 := hT.2.2.2.2.2.2 i (by omega)
  have hU := h.2.2.1.2.2.2.2.2.1 i hi
  have hP := h.2.2.2.1.2.2.2.2 i (by omega)
  unfold f_X10_limitDay
  simp (disch := omega) only [Option.bind_some, h.su, u909 h.1 h.2.1.2.1, ixa_n, umt h.1 h.2.1.2.1, t1005 h.1 h.2.1.1, tpr h.1 h.2.1.1, hU.1, hU.2.2.1, hP.2.1, nI_add]
  unfold limD
  rw [show 400 = 322 + 78 by rfl, lim_big hT.2.1 (by omega)]
  exact x_limitLoop h 322 _ _ fu (by have := wkIn_322 hT.2.1 (s (88 + i) + 1); omega) (by omega) (by omega) (fu_lt (by omega))
theorem x_countPhase {w : Wd} {a b : Nat} {s t : Nat → Nat} (h : HX w a b s t) {p : Nat} (hp : p < 2 ^ 31) : f_X10_countPhase (Kx X) a (nI p) w = some (nI (cnt (fun i => cs t i 0 == p) (s 3)), w) := by
  have h12 := h.2.2.2.2.1.1.2.2.2
  unfold f_X10_countPhase
  refine loop_g (fun f c => f_X10_countPhase_L4 (Kx X) a (fun v1_4 v2_4 v3_4 w1 => some (v2_4, w1)) f (nI p) (nI (cnt (fun i => cs t i 0 == p) c)) (nI c) w) (fun _ => some (nI (cnt (fun i => cs t i 0 == p) (s 3)), w)) (s 3) (fun f => ?_) (fun f c hc ih => ?_) fu 0 (by omega) (fu_lt (by omega))
  · try dsimp only
    rw [f_X10_countPhase_L4]
    simp (disch := omega) only [il, Option.bind_some, h.su, x_size h, if_le_t]
  · try dsimp only at ih ⊢
    have h2 := h.2.2.2.2.2.2.2.2.2.2.2 c (by omega)
    have hP := h.2.2.2.1.2.2.2.2 c (by omega)
    rw [f_X10_countPhase_L4]
    rw [cnt_succ] at ih
    by_cases e : cs t c 0 = p
    · simp (disch := omega) only [il, Option.bind_some, h.su, x_size h, if_le_f, t1005 h.1 h.2.1.1, ixa_n, tpr h.1 h.2.1.1, hP.1, if_eq_t, nI_add]
      simpa [bn, e] using ih
    · simp (disch := omega) only [il, Option.bind_some, h.su, x_size h, if_le_f, t1005 h.1 h.2.1.1, ixa_n, tpr h.1 h.2.1.1, hP.1, if_eq_f, nI_add]
      simpa [bn, e] using ih

