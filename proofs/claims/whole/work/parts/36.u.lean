/-! The reference's open days; the order of urgency on both sides. -/
def FN (f x : Nat) : Prop := x = 415 ∧ 1316 ≤ f ∧ f ≤ 1319
def NA (_ : Nat) : Prop := False
theorem setF_ofi {w : Wd} {d q r o : Nat} : Ofi FN NA w (setF w d q r o) := (((ofi_sI ⟨rfl, by omega, by omega⟩).trans (ofi_sI ⟨rfl, by omega, by omega⟩)).trans (ofi_sI ⟨rfl, by omega, by omega⟩)).trans (ofi_sI ⟨rfl, by omega, by omega⟩)
theorem FN_HM {w w' : Wd} {s t : Nat → Nat} (h : Ofi FN NA w w') (k : HM w s t) : HM w' s t := h.HM k (fun q => q) (fun q => q)
theorem FN_g {w w' : Wd} {f : Nat} (h : Ofi FN NA w w') (hf : f < 1316 ∨ 1319 < f) : wI w' f 415 = wI w f 415 := h.2.1 f 415 (fun q => by obtain ⟨_, q1, q2⟩ := q; omega)
theorem m_openDaysL {w : Wd} {s t : Nat → Nat} (h : HM w s t) {G : Int32} (hg : wI w 1315 415 = G) {i L : Nat} (hi : i < s 3) (hL : L ≤ 421) : ∃ w', f_X13_openDays_L43 Kc 415 (fun v1_43 v2_43 v3_43 v4_43 w10 => some (v2_43, w10)) fu (nI i) (nI 0) (nI L) (nI (t 0)) w = some (nI (cnD s t G i L), w') ∧ Ofi FN NA w w' := by
  have g0 := h.gt.1
  by_cases e0 : t 0 ≤ L + 1
  · have em : nI 0 = nI (cn (opn s t G i) (t 0) (t 0 - t 0)) := by rw [Nat.sub_self]; rfl
    rw [em]
    refine loop_q (fun f c w1 => f_X13_openDays_L43 Kc 415 (fun v1_43 v2_43 v3_43 v4_43 w10 => some (v2_43, w10)) f (nI i) (nI (cn (opn s t G i) (t 0) (c - t 0))) (nI L) (nI c) w1) (fun c w1 => t 0 ≤ c ∧ Ofi FN NA w w1) (fun r => ∃ w', r = some (nI (cnD s t G i L), w') ∧ Ofi FN NA w w') (L + 1) (fun f w1 hI => ?_) (fun f c w1 hc hI ih => ?_) fu (t 0) w ⟨by omega, Ofi.rf⟩ e0 (fu_lt (by omega))
    · try dsimp only
      rw [f_X13_openDays_L43]
      simp (disch := first | omega | assumption) only [il, Option.bind_some, ixa_n, nI_add, pk_mul, if_le_t, if_le_f, if_lt_t, if_lt_f, if_eq_t, if_eq_f, ↓ifb']
      exact ⟨w1, rfl, hI.2⟩
    · try dsimp only at ih ⊢
      have h1 := FN_HM hI.2 h
      have hg1 : wI w1 1315 415 = G := (FN_g hI.2 (by omega)).trans hg
      rw [show c + 1 - t 0 = (c - t 0) + 1 by omega, cn_succ, show t 0 + (c - t 0) = c by omega] at ih
      rw [f_X13_openDays_L43, if_lt_f (by omega) (by omega) (by omega), m_isDayOut h1 hi (by omega), Option.bind_some]
      try dsimp only
      cases e1 : dyO s t i c
      · rw [if_pos (by decide), m_findsOn h1 hg1 hi (by omega)]
        cases e3 : fo s t G i c with
        | none =>
          have eo : opn s t G i c = false := by unfold opn; rw [e3]; simp
          unfold foR
          rw [Option.bind_some]
          try dsimp only
          rw [if_pos (by decide), show nI c + 1 = nI (c + 1) from nI_add c 1]
          rw [eo] at ih
          exact ih _ ⟨by omega, hI.2⟩
        | some x =>
          obtain ⟨q, r, o⟩ := x
          have eo : opn s t G i c = true := by unfold opn; rw [e1, e3]; rfl
          unfold foR
          rw [Option.bind_some]
          try dsimp only
          rw [if_neg (by decide), show ∀ x, nI x + 1 = nI (x + 1) from fun x => nI_add x 1, show nI c + 1 = nI (c + 1) from nI_add c 1]
          rw [eo] at ih
          exact ih _ ⟨by omega, hI.2.trans setF_ofi⟩
      · have eo : opn s t G i c = false := by unfold opn; rw [e1]; rfl
        rw [if_neg (by decide), show nI c + 1 = nI (c + 1) from nI_add c 1]
        rw [eo] at ih
        exact ih _ ⟨by omega, hI.2⟩
  · have ez : cnD s t G i L = 0 := by unfold cnD; rw [show L + 1 - t 0 = 0 by omega]; rfl
    rw [ez]
    obtain ⟨g, eg⟩ : ∃ g, fu = g + 1 := ⟨fu - 1, by have := fu_lt (n := 5) (by omega); omega⟩
    rw [eg, f_X13_openDays_L43]
    simp (disch := first | omega | assumption) only [il, Option.bind_some, ixa_n, nI_add, pk_mul, if_le_t, if_le_f, if_lt_t, if_lt_f, if_eq_t, if_eq_f, ↓ifb']
    exact ⟨w, rfl, Ofi.rf⟩
/-- the smaller, the more urgent -/
def kyN (s t : Nat → Nat) (i : Nat) : Nat := (limD s t i * 2 + (if s (124 + i) = 1 then 0 else 1)) * 12 + i
def wt (t : Nat → Nat) (i : Nat) : Bool := cs t i 0 == 0
def rk (s t : Nat → Nat) (i c : Nat) : Nat := cnt (fun u => wt t u && decide (kyN s t u < kyN s t i)) c
theorem rk_succ {s t : Nat → Nat} {i c : Nat} : rk s t i (c + 1) = rk s t i c + bn (wt t c && decide (kyN s t c < kyN s t i)) := rfl
theorem kyN_lt {s t : Nat → Nat} (hS : GoodS s) (hT : GoodT s t) {i : Nat} (hi : i < s 3) : kyN s t i < 20000 := by
  have l3 := limD_le hS hT hi
  have h12 := hS.1.2.2.2
  unfold kyN
  split <;> omega
theorem kyN_mod {s t : Nat → Nat} {i : Nat} (hi : i < 12) : kyN s t i % 12 = i := by
  unfold kyN
  omega
theorem cnt_mono {p q : Nat → Bool} : ∀ n, (∀ u, u < n → p u = true → q u = true) → cnt p n ≤ cnt q n
  | 0, _ => Nat.le_refl _
  | n + 1, h => by
    have i1 := cnt_mono n (fun u hu => h u (by omega))
    have i2 := h n (by omega)
    rw [cnt_succ, cnt_succ]
    cases e : p n
    · simp [bn]; omega
    · rw [i2 e]; omega
theorem cnt_strict {p q : Nat → Bool} {v : Nat} : ∀ n, (∀ u, u < n → p u = true → q u = true) → v < n → p v = false → q v = true → cnt p n < cnt q n
  | 0, _, h, _, _ => by omega
  | n + 1, h, hv, h1, h2 => by
    rw [cnt_succ, cnt_succ]
    by_cases e : v = n
    · subst e
      have i1 := cnt_mono (p := p) (q := q) v (fun u hu => h u (by omega))
      rw [h1, h2]
      simp only [bn, if_true, Bool.false_eq_true, if_false]
      omega
    · have i1 := cnt_strict (p := p) (q := q) (v := v) n (fun u hu => h u (by omega)) (by omega) h1 h2
      have i2 := h n (by omega)
      cases e : p n
      · have := bn_le (q n); simp only [bn, Bool.false_eq_true, if_false]; omega
      · rw [i2 e]; omega
theorem rk_lt {s t : Nat → Nat} {i j c : Nat} (hi : i < c) (hw : wt t i = true) (h : kyN s t i < kyN s t j) : rk s t i c < rk s t j c := cnt_strict (v := i) c (fun u hu hp => by
  simp only [Bool.and_eq_true, decide_eq_true_eq] at hp ⊢
  exact ⟨hp.1, by omega⟩) hi (by simp) (by simp [hw, h])
theorem rk_le {s t : Nat → Nat} {i j c : Nat} (h : kyN s t i ≤ kyN s t j) : rk s t i c ≤ rk s t j c := cnt_mono c (fun u hu hp => by
  simp only [Bool.and_eq_true, decide_eq_true_eq] at hp ⊢
  exact ⟨hp.1, by omega⟩)
theorem rk_w {s t : Nat → Nat} {i c : Nat} (hi : i < c) (hw : wt t i = true) : rk s t i c < cnt (wt t) c := cnt_strict (v := i) c (fun u hu hp => by
  simp only [Bool.and_eq_true] at hp
  exact hp.1) hi (by simp) hw
theorem rk_wle {s t : Nat → Nat} {i c : Nat} : rk s t i c ≤ cnt (wt t) c := cnt_mono c (fun u hu hp => by
  simp only [Bool.and_eq_true] at hp
  exact hp.1)
def urg (s t : Nat → Nat) (k : Nat) : Option Nat := fstF (fun v => wt t v && rk s t v (s 3) == k) 0 (s 3)
theorem urg_at {s t : Nat → Nat} (hS : GoodS s) {v k : Nat} (hv : v < s 3) (hw : wt t v = true) (hk : rk s t v (s 3) = k) : urg s t k = some v := by
  have h12 := hS.1.2.2.2
  refine fstF_at _ _ v (by omega) (by omega) (by simp [hw, hk]) (fun j _ hj => ?_)
  cases e : (wt t j && rk s t j (s 3) == k) with
  | false => rfl
  | true =>
    simp only [Bool.and_eq_true, beq_iff_eq] at e
    have hne : kyN s t j ≠ kyN s t v := fun q => by
      have h1 := kyN_mod (s := s) (t := t) (i := j) (by omega)
      have h2 := kyN_mod (s := s) (t := t) (i := v) (by omega)
      omega
    rcases Nat.lt_or_gt_of_ne hne with q | q
    · have := rk_lt (s := s) (c := s 3) (by omega) e.1 q
      omega
    · have := rk_lt (s := s) (c := s 3) hv hw q
      omega
theorem urg_some {s t : Nat → Nat} {v k : Nat} (h : urg s t k = some v) : v < s 3 ∧ wt t v = true ∧ rk s t v (s 3) = k := by
  have h1 := fstF_p _ _ _ h
  have h2 := h1.2.2
  simp only [Bool.and_eq_true, beq_iff_eq] at h2
  exact ⟨by omega, h2.1, h2.2⟩
theorem m_isUrgenter {w : Wd} {s t : Nat → Nat} (h : HM w s t) {u v : Nat} (hu : u < s 3) (hv : v < s 3) : f_X13_isUrgenter Kc 415 (nI u) (nI v) w = some (decide (kyN s t u < kyN s t v), w) := by
  have h12 := h.gs.1.2.2.2
  have l1 := limD_le h.gs h.gt hu
  have l2 := limD_le h.gs h.gt hv
  have c1 := (h.gs.2.2.2.2.1 u hu).2.2.2.1
  have c2 := (h.gs.2.2.2.2.1 v hv).2.2.2.1
  have m1 := m_limitDay h hu
  have m2 := m_limitDay h hv
  unfold f_X13_isUrgenter kyN
  generalize limD s t u = L1 at *
  generalize limD s t v = L2 at *
  by_cases e : L1 = L2
  · by_cases e2 : s (124 + u) = s (124 + v)
    · by_cases e3 : v ≤ u
      · simp (disch := first | omega | assumption) only [il, Option.bind_some, ixa_n, nI_add, pk_mul, if_le_t, if_le_f, if_lt_t, if_lt_f, if_eq_t, if_eq_f, ↓ifb', x1301 h.1, x1303 h.1, h.S, h.T, m_of h, m_hasHearing h, m1, m2]
        rw [decide_eq_false (by rw [e, e2]; omega)]
      · simp (disch := first | omega | assumption) only [il, Option.bind_some, ixa_n, nI_add, pk_mul, if_le_t, if_le_f, if_lt_t, if_lt_f, if_eq_t, if_eq_f, ↓ifb', x1301 h.1, x1303 h.1, h.S, h.T, m_of h, m_hasHearing h, m1, m2]
        rw [decide_eq_true (by rw [e, e2]; omega)]
    · by_cases e3 : s (124 + u) = 1
      · simp (disch := first | omega | assumption) only [il, Option.bind_some, ixa_n, nI_add, pk_mul, if_le_t, if_le_f, if_lt_t, if_lt_f, if_eq_t, if_eq_f, ↓ifb', x1301 h.1, x1303 h.1, h.S, h.T, m_of h, m_hasHearing h, m1, m2]
        rw [decide_eq_true (by rw [if_pos e3, if_neg (by omega)]; omega)]
      · simp (disch := first | omega | assumption) only [il, Option.bind_some, ixa_n, nI_add, pk_mul, if_le_t, if_le_f, if_lt_t, if_lt_f, if_eq_t, if_eq_f, ↓ifb', x1301 h.1, x1303 h.1, h.S, h.T, m_of h, m_hasHearing h, m1, m2]
        rw [decide_eq_false (by rw [if_neg e3, if_pos (by omega)]; omega)]
  · by_cases e3 : L2 ≤ L1
    · simp (disch := first | omega | assumption) only [il, Option.bind_some, ixa_n, nI_add, pk_mul, if_le_t, if_le_f, if_lt_t, if_lt_f, if_eq_t, if_eq_f, ↓ifb', x1301 h.1, x1303 h.1, h.S, h.T, m_of h, m_hasHearing h, m1, m2]
      rw [decide_eq_false (by split <;> split <;> omega)]
    · simp (disch := first | omega | assumption) only [il, Option.bind_some, ixa_n, nI_add, pk_mul, if_le_t, if_le_f, if_lt_t, if_lt_f, if_eq_t, if_eq_f, ↓ifb', x1301 h.1, x1303 h.1, h.S, h.T, m_of h, m_hasHearing h, m1, m2]
      rw [decide_eq_true (by split <;> split <;> omega)]
theorem m_urgentIn {w : Wd} {s t : Nat → Nat} (h : HM w s t) {z v : Nat} (hv : v < s 3) {k : Int32 → Int32 → Int32 → Int32 → Wd → Option (Int32 × Wd)} : f_X13_urgentAt_L29 Kc 415 k fu (nI z) (nI v) (nI 0) (nI 0) w = k (nI z) (nI v) (nI (rk s t v (s 3))) (nI (s 3)) w := by
  have h12 := h.gs.1.2.2.2
  refine loop_g (fun f c => f_X13_urgentAt_L29 Kc 415 k f (nI z) (nI v) (nI (rk s t v c)) (nI c) w) (fun _ => k (nI z) (nI v) (nI (rk s t v (s 3))) (nI (s 3)) w) (s 3) (fun f => ?_) (fun f c hc ih => ?_) fu 0 (by omega) (fu_lt (by omega))
  · try dsimp only
    rw [f_X13_urgentAt_L29]
    simp (disch := first | omega | assumption) only [il, Option.bind_some, ixa_n, nI_add, pk_mul, if_le_t, if_le_f, if_lt_t, if_lt_f, if_eq_t, if_eq_f, ↓ifb', x1301 h.1, x1303 h.1, h.S, h.T, m_of h, m_hasHearing h]
  · try dsimp only at ih ⊢
    have c3 := h.gt.c3 (i := c) (by omega)
    rw [f_X13_urgentAt_L29]
    rw [rk_succ] at ih
    by_cases e1 : c = v
    · simp (disch := first | omega | assumption) only [il, Option.bind_some, ixa_n, nI_add, pk_mul, if_le_t, if_le_f, if_lt_t, if_lt_f, if_eq_t, if_eq_f, ↓ifb', x1301 h.1, x1303 h.1, h.S, h.T, m_of h, m_hasHearing h]
      simpa [e1, bn] using ih
    · by_cases e2 : cs t c 0 = 0
      · by_cases e3 : kyN s t c < kyN s t v
        · simp (disch := first | omega | assumption) only [il, Option.bind_some, ixa_n, nI_add, pk_mul, if_le_t, if_le_f, if_lt_t, if_lt_f, if_eq_t, if_eq_f, ↓ifb', x1301 h.1, x1303 h.1, h.S, h.T, m_of h, m_hasHearing h, m_isUrgenter h, decide_eq_true e3, if_true]
          simpa [wt, e2, e3, bn] using ih
        · simp (disch := first | omega | assumption) only [il, Option.bind_some, ixa_n, nI_add, pk_mul, if_le_t, if_le_f, if_lt_t, if_lt_f, if_eq_t, if_eq_f, ↓ifb', x1301 h.1, x1303 h.1, h.S, h.T, m_of h, m_hasHearing h, m_isUrgenter h, decide_eq_false e3, Bool.false_eq_true, if_false]
          simpa [wt, e2, e3, bn] using ih
      · simp (disch := first | omega | assumption) only [il, Option.bind_some, ixa_n, nI_add, pk_mul, if_le_t, if_le_f, if_lt_t, if_lt_f, if_eq_t, if_eq_f, ↓ifb', x1301 h.1, x1303 h.1, h.S, h.T, m_of h, m_hasHearing h]
        simpa [wt, e2, bn] using ih
theorem m_urgentAt {w : Wd} {s t : Nat → Nat} (h : HM w s t) {z : Nat} (hz : z < 2 ^ 31) : f_X13_urgentAt Kc 415 (nI z) w = some (oI (urg s t z), w) := by
  have h12 := h.gs.1.2.2.2
  unfold f_X13_urgentAt
  simp only [il]
  refine (loop_fst (fun f c => f_X13_urgentAt_L2 Kc 415 (fun v1_2 v2_2 w1 => some (-nI 1, w1)) f (nI z) (nI c) w) (fun v => wt t v && rk s t v (s 3) == z) (s 3) (fun v => some (nI v, w)) (some (-nI 1, w)) (fun f => ?_) (fun f c hc hp => ?_) (fun f c hc hp => ?_) (s 3) 0 fu (by omega) (fu_lt (by omega))).trans ?_
  · try dsimp only
    rw [f_X13_urgentAt_L2]
    simp (disch := first | omega | assumption) only [il, Option.bind_some, ixa_n, nI_add, pk_mul, if_le_t, if_le_f, if_lt_t, if_lt_f, if_eq_t, if_eq_f, ↓ifb', x1301 h.1, x1303 h.1, h.S, h.T, m_of h, m_hasHearing h]
  · try dsimp only
    have c3 := h.gt.c3 (i := c) (by omega)
    have hr := rk_wle (s := s) (t := t) (i := c) (c := s 3)
    have hr2 := cnt_le (p := wt t) (s 3)
    simp only [wt, Bool.and_eq_true, beq_iff_eq] at hp
    rw [f_X13_urgentAt_L2]
    simp (disch := first | omega | assumption) only [il, Option.bind_some, ixa_n, nI_add, pk_mul, if_le_t, if_le_f, if_lt_t, if_lt_f, if_eq_t, if_eq_f, ↓ifb', x1301 h.1, x1303 h.1, h.S, h.T, m_of h, m_hasHearing h, m_urgentIn h]
  · try dsimp only
    have c3 := h.gt.c3 (i := c) (by omega)
    have hr := rk_wle (s := s) (t := t) (i := c) (c := s 3)
    have hr2 := cnt_le (p := wt t) (s 3)
    rw [f_X13_urgentAt_L2]
    by_cases e2 : cs t c 0 = 0
    · have e3 : rk s t c (s 3) ≠ z := by simpa [wt, e2] using hp
      simp (disch := first | omega | assumption) only [il, Option.bind_some, ixa_n, nI_add, pk_mul, if_le_t, if_le_f, if_lt_t, if_lt_f, if_eq_t, if_eq_f, ↓ifb', x1301 h.1, x1303 h.1, h.S, h.T, m_of h, m_hasHearing h, m_urgentIn h]
    · simp (disch := first | omega | assumption) only [il, Option.bind_some, ixa_n, nI_add, pk_mul, if_le_t, if_le_f, if_lt_t, if_lt_f, if_eq_t, if_eq_f, ↓ifb', x1301 h.1, x1303 h.1, h.S, h.T, m_of h, m_hasHearing h]
  · unfold urg
    cases fstF (fun v => wt t v && rk s t v (s 3) == z) 0 (s 3) <;> rfl
theorem x_urgencyKey {w : Wd} {a b : Nat} {s t : Nat → Nat} (h : HX w a b s t) {i : Nat} (hi : i < s 3) : f_X10_urgencyKey Kc a (nI i) w = some (nI (kyN s t i), w) := by
  have h12 := h.gs.1.2.2.2
  have l1 := limD_le h.gs h.gt hi
  have m1 := x_limitDay h hi
  have f3 := h.f3 hi
  unfold f_X10_urgencyKey kyN
  generalize limD s t i = L at *
  by_cases e : s (124 + i) = 1
  · have e2 : (s (124 + i) == 1) = true := by simp [e]
    simp (disch := first | omega | assumption) only [il, Option.bind_some, ixa_n, nI_add, pk_mul, if_le_t, if_le_f, if_lt_t, if_lt_f, if_eq_t, if_eq_f, ↓ifb', h.su, x_size h, h.pg, h.pe, h.mt, h.me, h.p0, h.p1, h.p6, h.p2, h.p3, h.p4, h.p5, h.n2, h.n3, h.n4, h.n5, h.f0, h.f1, h.f2, h.f4, h.f5, h.dy, f3, e2, m1, if_true, if_pos e]
  · have e2 : (s (124 + i) == 1) = false := by simp [e]
    simp (disch := first | omega | assumption) only [il, Option.bind_some, ixa_n, nI_add, pk_mul, if_le_t, if_le_f, if_lt_t, if_lt_f, if_eq_t, if_eq_f, ↓ifb', h.su, x_size h, h.pg, h.pe, h.mt, h.me, h.p0, h.p1, h.p6, h.p2, h.p3, h.p4, h.p5, h.n2, h.n3, h.n4, h.n5, h.f0, h.f1, h.f2, h.f4, h.f5, h.dy, f3, e2, m1, Bool.false_eq_true, if_false, if_neg e]
