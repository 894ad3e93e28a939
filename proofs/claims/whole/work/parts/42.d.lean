/-! One day, some days. -/
def gF (t f : Nat → Nat) (v c i : Nat) : Nat := if i < c ∧ f i = 1 ∧ cs t i 3 = v then 2 else f i
def dF (lm : Nat → Nat) (S : Nat) (t f : Nat → Nat) (v c i : Nat) : Nat := if i < c ∧ gF t f v S i = 0 ∧ lm i < v + 1 then 3 else gF t f v S i
theorem gF_PH {t f : Nat → Nat} (h : PH t f) (v c : Nat) : PH t (gF t f v c) := fun i hi => by
  unfold gF
  by_cases e : i < c ∧ f i = 1 ∧ cs t i 3 = v
  · rw [if_pos e]
    refine ⟨by omega, ?_⟩
    rw [← (h i hi).2, e.2.1]
    simp
  · rw [if_neg e]; exact h i hi
theorem dF_PH {lm t f : Nat → Nat} {S : Nat} (h : PH t f) (v c : Nat) : PH t (dF lm S t f v c) := fun i hi => by
  have q := gF_PH h v S i hi
  unfold dF
  by_cases e : i < c ∧ gF t f v S i = 0 ∧ lm i < v + 1
  · rw [if_pos e]
    refine ⟨by omega, ?_⟩
    rw [← q.2, e.2.1]
    simp
  · rw [if_neg e]; exact q
theorem gF_y {t f : Nat → Nat} {v c : Nat} (h : f c = 1 ∧ cs t c 3 = v) : gF t f v (c + 1) = pz (gF t f v c) c 2 := by
  funext j
  unfold gF pz
  try dsimp only
  by_cases e : j = c
  · subst e; rw [if_pos ⟨by omega, h⟩, if_pos rfl]
  · rw [if_neg e]
    by_cases e2 : j < c ∧ f j = 1 ∧ cs t j 3 = v
    · rw [if_pos e2, if_pos ⟨by omega, e2.2⟩]
    · rw [if_neg e2, if_neg (fun q => e2 ⟨by omega, q.2⟩)]
theorem gF_n {t f : Nat → Nat} {v c : Nat} (h : ¬ (f c = 1 ∧ cs t c 3 = v)) : gF t f v (c + 1) = gF t f v c := by
  funext j
  unfold gF
  by_cases e2 : j < c ∧ f j = 1 ∧ cs t j 3 = v
  · rw [if_pos e2, if_pos ⟨by omega, e2.2⟩]
  · rw [if_neg e2, if_neg (fun q => by
      by_cases e : j = c
      · subst e; exact h q.2
      · exact e2 ⟨by omega, q.2⟩)]
theorem dF_y {lm t f : Nat → Nat} {S : Nat} {v c : Nat} (h : gF t f v S c = 0 ∧ lm c < v + 1) : dF lm S t f v (c + 1) = pz (dF lm S t f v c) c 3 := by
  funext j
  unfold dF pz
  try dsimp only
  by_cases e : j = c
  · subst e; rw [if_pos ⟨by omega, h⟩, if_pos rfl]
  · rw [if_neg e]
    by_cases e2 : j < c ∧ gF t f v S j = 0 ∧ lm j < v + 1
    · rw [if_pos e2, if_pos ⟨by omega, e2.2⟩]
    · rw [if_neg e2, if_neg (fun q => e2 ⟨by omega, q.2⟩)]
theorem dF_n {lm t f : Nat → Nat} {S : Nat} {v c : Nat} (h : ¬ (gF t f v S c = 0 ∧ lm c < v + 1)) : dF lm S t f v (c + 1) = dF lm S t f v c := by
  funext j
  unfold dF
  by_cases e2 : j < c ∧ gF t f v S j = 0 ∧ lm j < v + 1
  · rw [if_pos e2, if_pos ⟨by omega, e2.2⟩]
  · rw [if_neg e2, if_neg (fun q => by
      by_cases e : j = c
      · subst e; exact h q.2
      · exact e2 ⟨by omega, q.2⟩)]
theorem gF_0 {t f : Nat → Nat} {v : Nat} : gF t f v 0 = f := by
  funext j
  unfold gF
  rw [if_neg (by omega)]
theorem dF_0 {lm t f : Nat → Nat} {S : Nat} {v : Nat} : dF lm S t f v 0 = gF t f v S := by
  funext j
  unfold dF
  rw [if_neg (by omega)]
theorem gF_c {t f : Nat → Nat} {v c : Nat} : gF t f v c c = f c := by
  unfold gF
  rw [if_neg (by omega)]
theorem dF_c {lm t f : Nat → Nat} {S : Nat} {v c : Nat} : dF lm S t f v c c = gF t f v S c := by
  unfold dF
  rw [if_neg (by omega)]
def h1N (s t f : Nat → Nat) (v : Nat) : Nat → Nat := cnt (fun i => f i == 1 && cs t i 3 == v)
theorem m_lapse {w : Wd} {s T : Nat → Nat} (h : HM w s T) {c G L v1 m n : Nat} (hc : c < s 3) (e0 : cs T c 0 = G) (e1 : T 0 = v1) (ml : f_X13_limitDay Kc 415 (nI c) w = some (nI L, w)) (hL : L ≤ 421) (hG : G ≤ 3) {k : Int32 → Int32 → Wd → Option (Int32 × Wd)} : (G = 0 → L < v1 → f_X13_passes_L75 Kc 415 k (n + 1) (nI m) (nI c) w = f_X13_passes_L75 Kc 415 k n (nI m) (nI (c + 1)) (tI w 418 (46 + 27 * c + 0) (nI 3))) ∧ (¬ (G = 0 ∧ L < v1) → f_X13_passes_L75 Kc 415 k (n + 1) (nI m) (nI c) w = f_X13_passes_L75 Kc 415 k n (nI m) (nI (c + 1)) w) := by
  have h12 := h.gs.1.2.2.2
  have g0 := h.gt.1
  have lay := h.hr.lays (i := c) (k := 0) (v := 3) (by omega) (by omega)
  refine ⟨fun a1 a2 => ?_, fun a1 => ?_⟩
  · rw [f_X13_passes_L75]
    simp (disch := first | omega | assumption) only [il, Option.bind_some, ixa_n, nI_add, pk_mul, if_le_t, if_le_f, if_lt_t, if_lt_f, if_eq_t, if_eq_f, ↓ifb', x1301 h.1, x1303 h.1, h.S, h.T, m_of h, m_hasHearing h, e0, e1, ml, lay]
  · rw [f_X13_passes_L75]
    by_cases e2 : G = 0
    · simp (disch := first | omega | assumption) only [il, Option.bind_some, ixa_n, nI_add, pk_mul, if_le_t, if_le_f, if_lt_t, if_lt_f, if_eq_t, if_eq_f, ↓ifb', x1301 h.1, x1303 h.1, h.S, h.T, m_of h, m_hasHearing h, e0, e1, ml]
    · simp (disch := first | omega | assumption) only [il, Option.bind_some, ixa_n, nI_add, pk_mul, if_le_t, if_le_f, if_lt_t, if_lt_f, if_eq_t, if_eq_f, ↓ifb', x1301 h.1, x1303 h.1, h.S, h.T, m_of h, m_hasHearing h, e0, e1]
theorem m_heard {w : Wd} {s T : Nat → Nat} (h : HM w s T) {c G D v1 m n : Nat} (hc : c < s 3) (e0 : cs T c 0 = G) (e3 : cs T c 3 = D) (e1 : T 0 = v1) (hG : G ≤ 3) (hD : G = 1 → D < 600) {k : Int32 → Int32 → Wd → Option (Int32 × Wd)} : (G = 1 → D = v1 → f_X13_passes_L4 Kc 415 k (n + 1) (nI m) (nI c) w = f_X13_passes_L4 Kc 415 k n (nI (m + 1)) (nI (c + 1)) (tI w 418 (46 + 27 * c + 0) (nI 2))) ∧ (¬ (G = 1 ∧ D = v1) → f_X13_passes_L4 Kc 415 k (n + 1) (nI m) (nI c) w = f_X13_passes_L4 Kc 415 k n (nI m) (nI (c + 1)) w) := by
  have h12 := h.gs.1.2.2.2
  have g0 := h.gt.1
  have lay := h.hr.lays (i := c) (k := 0) (v := 2) (by omega) (by omega)
  refine ⟨fun a1 a2 => ?_, fun a1 => ?_⟩
  · rw [f_X13_passes_L4]
    simp (disch := first | omega | assumption) only [il, Option.bind_some, ixa_n, nI_add, pk_mul, if_le_t, if_le_f, if_lt_t, if_lt_f, if_eq_t, if_eq_f, ↓ifb', x1301 h.1, x1303 h.1, h.S, h.T, m_of h, m_hasHearing h, e0, e1, e3, lay]
  · rw [f_X13_passes_L4]
    by_cases e2 : G = 1
    · have := hD e2
      simp (disch := first | omega | assumption) only [il, Option.bind_some, ixa_n, nI_add, pk_mul, if_le_t, if_le_f, if_lt_t, if_lt_f, if_eq_t, if_eq_f, ↓ifb', x1301 h.1, x1303 h.1, h.S, h.T, m_of h, m_hasHearing h, e0, e1, e3]
    · simp (disch := first | omega | assumption) only [il, Option.bind_some, ixa_n, nI_add, pk_mul, if_le_t, if_le_f, if_lt_t, if_lt_f, if_eq_t, if_eq_f, ↓ifb', x1301 h.1, x1303 h.1, h.S, h.T, m_of h, m_hasHearing h, e0, e1, e3]
theorem m_passesL {w : Wd} {s t f lm : Nat → Nat} {v : Nat} (hlm : ∀ i, i < s 3 → lm i ≤ 421) (hll : ∀ w1 T c, HM w1 s (phT t v T) ∨ HM w1 s (phT t (v + 1) T) → c < s 3 → f_X13_limitDay Kc 415 (nI c) w1 = some (nI (lm c), w1)) (h : HM w s (phT t v f)) (hT : GoodT s t) (hf : PH t f) (hv : v + 1 < 600) : ∃ w', f_X13_passes Kc 415 w = some (nI (h1N s t f v (s 3)), w') ∧ HM w' s (phT t (v + 1) (dF lm (s 3) t f v (s 3))) ∧ Ofi NS (fun x => x = 418) w w' := by
  have hS := h.gs
  have h12 := hS.1.2.2.2
  unfold f_X13_passes
  simp only [il]
  have two : ∀ w1, HM w1 s (phT t (v + 1) (gF t f v (s 3))) → Ofi NS (fun x => x = 418) w w1 → ∃ w', f_X13_passes_L75 Kc 415 (fun v1_75 v2_75 w16 => some (v1_75, w16)) fu (nI (h1N s t f v (s 3))) (nI 0) w1 = some (nI (h1N s t f v (s 3)), w') ∧ HM w' s (phT t (v + 1) (dF lm (s 3) t f v (s 3))) ∧ Ofi NS (fun x => x = 418) w w' := by
    intro w1 h1 o1
    refine loop_q (fun n c w2 => f_X13_passes_L75 Kc 415 (fun v1_75 v2_75 w16 => some (v1_75, w16)) n (nI (h1N s t f v (s 3))) (nI c) w2) (fun c w2 => HM w2 s (phT t (v + 1) (dF lm (s 3) t f v c)) ∧ Ofi NS (fun x => x = 418) w w2) (fun r => ∃ w', r = some (nI (h1N s t f v (s 3)), w') ∧ HM w' s (phT t (v + 1) (dF lm (s 3) t f v (s 3))) ∧ Ofi NS (fun x => x = 418) w w') (s 3) (fun n w2 hI => ?_) (fun n c w2 hc hI ih => ?_) fu 0 w1 ⟨by rw [dF_0]; exact h1, o1⟩ (by omega) (fu_lt (by omega))
    · try dsimp only
      have h3 : aI w2 416 3 = nI (s 3) := hI.1.2.1 3 (by omega)
      have fx := hI.1.1
      rw [f_X13_passes_L75, x1301 fx, Option.bind_some]
      try dsimp only
      rw [show (3 : Int32) = nI 3 from rfl, ixa_n (by omega) (by omega), Option.bind_some, h3, if_le_t (by omega) (by omega) (Nat.le_refl _)]
      exact ⟨w2, rfl, hI.1, hI.2⟩
    · try dsimp only at ih ⊢
      have h := hI.1
      have e0 : cs (phT t (v + 1) (dF lm (s 3) t f v c)) c 0 = gF t f v (s 3) c := by rw [phT_cs (by omega), if_pos rfl, dF_c]
      have e1 := phT_0 (t := t) (v := v + 1) (f := dF lm (s 3) t f v c)
      have l3 := hlm c hc
      have ml := hll w2 _ c (Or.inr h) hc
      have hy : gF t f v (s 3) c = 0 → lm c < v + 1 → dF lm (s 3) t f v (c + 1) = pz (dF lm (s 3) t f v c) c 3 := fun x y => dF_y ⟨x, y⟩
      have hn : ¬ (gF t f v (s 3) c = 0 ∧ lm c < v + 1) → dF lm (s 3) t f v (c + 1) = dF lm (s 3) t f v c := fun x => dF_n x
      have c3 := (gF_PH hf v (s 3) c (by omega)).1
      have st := m_lapse (n := n) (m := h1N s t f v (s 3)) (k := fun v1_75 v2_75 w16 => some (v1_75, w16)) h hc e0 e1 ml l3 c3
      by_cases e2 : gF t f v (s 3) c = 0 ∧ lm c < v + 1
      · have ps := hy e2.1 e2.2
        have hp : PH t (pz (dF lm (s 3) t f v c) c 3) := ps ▸ dF_PH hf v (c + 1)
        rw [st.1 e2.1 e2.2]
        exact ih _ ⟨ps ▸ h.ph (i := c) hT hp, hI.2.tIx⟩
      · have ps := hn e2
        rw [st.2 e2]
        exact ih _ ⟨ps ▸ hI.1, hI.2⟩
  refine loop_q (fun n c w2 => f_X13_passes_L4 Kc 415 (fun v1_4 v2_4 w1 => (cha Kc 20 (wR w1 1303 415)).bind fun a12 => (ixa (nI 0) a12.2).bind fun j13 => (ixa (nI 0) a12.2).bind fun j14 => (some (tI w1 a12.1 j14 ((aI w1 a12.1 j13) + nI 1))).bind fun w15 => f_X13_passes_L75 Kc 415 (fun v1_75 v2_75 w16 => some (v1_75, w16)) fu v1_4 (nI 0) w15) n (nI (h1N s t f v c)) (nI c) w2) (fun c w2 => HM w2 s (phT t v (gF t f v c)) ∧ Ofi NS (fun x => x = 418) w w2) (fun r => ∃ w', r = some (nI (h1N s t f v (s 3)), w') ∧ HM w' s (phT t (v + 1) (dF lm (s 3) t f v (s 3))) ∧ Ofi NS (fun x => x = 418) w w') (s 3) (fun n w2 hI => ?_) (fun n c w2 hc hI ih => ?_) fu 0 w ⟨by rw [gF_0]; exact h, Ofi.rf⟩ (by omega) (fu_lt (by omega))
  · try dsimp only
    have h := hI.1
    have e1 := phT_0 (t := t) (v := v) (f := gF t f v (s 3))
    have h3 : aI w2 416 3 = nI (s 3) := h.2.1 3 (by omega)
    have h0 : aI w2 418 0 = nI v := by rw [h.T (by omega) (by omega), e1]
    rw [f_X13_passes_L4, x1301 h.1, Option.bind_some]
    try dsimp only
    rw [show (3 : Int32) = nI 3 from rfl, ixa_n (by omega) (by omega), Option.bind_some, h3, if_le_t (by omega) (by omega) (Nat.le_refl _), x1303 h.1, Option.bind_some]
    try dsimp only
    rw [ixa_n (by omega) (by omega), Option.bind_some, Option.bind_some, h0, nI_add, Option.bind_some]
    refine two _ ?_ hI.2.tIx
    refine ((h.hr.set (p := 0) (v := v + 1) (by omega)).eqv (fun x _ => ?_)).hm hS (phT_good hT hv (gF_PH hf v (s 3)))
    unfold phT ups
    try dsimp only
    by_cases x0 : x = 0
    · rw [if_pos x0, if_pos x0]
    · rw [if_neg x0, if_neg x0, if_neg x0]
  · try dsimp only at ih ⊢
    have h := hI.1
    have e0 : cs (phT t v (gF t f v c)) c 0 = f c := by rw [phT_cs (by omega), if_pos rfl, gF_c]
    have e3 : cs (phT t v (gF t f v c)) c 3 = cs t c 3 := by rw [phT_cs (by omega), if_neg (by omega)]
    have e1 := phT_0 (t := t) (v := v) (f := gF t f v c)
    have c3 := hf c (by omega)
    have hs : h1N s t f v (c + 1) = h1N s t f v c + bn (f c == 1 && cs t c 3 == v) := rfl
    rw [hs] at ih
    have st := m_heard (n := n) (m := h1N s t f v c) (k := fun v1_4 v2_4 w1 => (cha Kc 20 (wR w1 1303 415)).bind fun a12 => (ixa (nI 0) a12.2).bind fun j13 => (ixa (nI 0) a12.2).bind fun j14 => (some (tI w1 a12.1 j14 ((aI w1 a12.1 j13) + nI 1))).bind fun w15 => f_X13_passes_L75 Kc 415 (fun v1_75 v2_75 w16 => some (v1_75, w16)) fu v1_4 (nI 0) w15) h hc e0 e3 e1 c3.1 (fun q => (hT.hr (i := c) (by omega) (c3.2.mp (Or.inl q))).2.1)
    by_cases e2 : f c = 1 ∧ cs t c 3 = v
    · have ps := gF_y (t := t) (f := f) e2
      have hp : PH t (pz (gF t f v c) c 2) := ps ▸ gF_PH hf v (c + 1)
      have eb : (f c == 1 && cs t c 3 == v) = true := by simp [e2.1, e2.2]
      rw [eb] at ih
      rw [st.1 e2.1 e2.2]
      exact ih _ ⟨ps ▸ h.ph (i := c) hT hp, hI.2.tIx⟩
    · have ps := gF_n (t := t) (f := f) (v := v) (c := c) e2
      have eb : (f c == 1 && cs t c 3 == v) = false := by
        cases z : (f c == 1 && cs t c 3 == v) with
        | false => rfl
        | true => simp only [Bool.and_eq_true, beq_iff_eq] at z; exact absurd z e2
      rw [eb] at ih
      rw [st.2 e2]
      exact ih _ ⟨ps ▸ hI.1, hI.2⟩
theorem m_passes {w : Wd} {s t f : Nat → Nat} {v : Nat} (h : HM w s (phT t v f)) (hT : GoodT s t) (hf : PH t f) (hv : v + 1 < 600) : ∃ w', f_X13_passes Kc 415 w = some (nI (h1N s t f v (s 3)), w') ∧ HM w' s (phT t (v + 1) (dF (limD s t) (s 3) t f v (s 3))) ∧ Ofi NS (fun x => x = 418) w w' := by
  have hS := h.gs
  have h1 : ∀ i, i < s 3 → limD s t i ≤ 421 := fun i hi => limD_le hS hT hi
  have h2 : ∀ w1 T c, HM w1 s (phT t v T) ∨ HM w1 s (phT t (v + 1) T) → c < s 3 → f_X13_limitDay Kc 415 (nI c) w1 = some (nI (limD s t c), w1) := fun w1 T c hh hc => by
    rcases hh with hh | hh
    · rw [m_limitDay hh hc, limD_phT hT.2.1]
    · rw [m_limitDay hh hc, limD_phT hT.2.1]
  generalize limD s t = lm at *
  exact m_passesL h1 h2 h hT hf hv
theorem sm_add {g g1 g2 : Nat → Nat} : ∀ n, (∀ i, i < n → g i = g1 i + g2 i) → sm g n = sm g1 n + sm g2 n
  | 0, _ => rfl
  | n + 1, h => by
    simp only [sm]
    rw [sm_add n (fun i hi => h i (by omega)), h n (by omega)]
    omega
theorem hdN_s {s t : Nat → Nat} {k : Nat} : hdN s t (k + 1) = hdN s t k + h1N s t (fin s t k) (t 0 + k) (s 3) := by
  refine sm_add _ (fun i hi => ?_)
  have e : (fin s t k i == 1 && cs t i 3 == t 0 + k) = (cs t i 0 == 1 && (cs t i 3 == t 0 + k)) := by
    unfold fin
    by_cases e1 : i < s 3 ∧ cs t i 0 = 1 ∧ cs t i 3 < t 0 + k
    · rw [if_pos e1]
      have : (cs t i 3 == t 0 + k) = false := by simp; omega
      simp [this]
    · rw [if_neg e1]
      by_cases e2 : i < s 3 ∧ cs t i 0 = 0 ∧ limD s t i < t 0 + k ∧ 0 < k
      · rw [if_pos e2, e2.2.1]; rfl
      · rw [if_neg e2]
  try dsimp only
  rw [e]
  cases e0 : (cs t i 0 == 1)
  · rfl
  · simp only [Bool.true_and]
    by_cases e1 : cs t i 3 < t 0 + k
    · rw [decide_eq_true (show cs t i 3 < t 0 + (k + 1) by omega), decide_eq_true e1, show (cs t i 3 == t 0 + k) = false by simp; omega]
      rfl
    · by_cases e2 : cs t i 3 = t 0 + k
      · rw [decide_eq_true (show cs t i 3 < t 0 + (k + 1) by omega), decide_eq_false e1, show (cs t i 3 == t 0 + k) = true by simp [e2]]
        rfl
      · rw [decide_eq_false (show ¬ cs t i 3 < t 0 + (k + 1) by omega), decide_eq_false e1, show (cs t i 3 == t 0 + k) = false by simp [e2]]
        rfl
theorem fin_s {s t : Nat → Nat} {k : Nat} : dF (limD s t) (s 3) t (fin s t k) (t 0 + k) (s 3) = fin s t (k + 1) := by
  funext i
  unfold dF gF fin
  by_cases hi : i < s 3
  · by_cases z1 : cs t i 0 = 1
    · by_cases z2 : cs t i 3 < t 0 + k
      · simp [hi, z1, z2]; omega
      · by_cases z3 : cs t i 3 = t 0 + k
        · simp [hi, z1, z3]
        · have z4 : ¬ cs t i 3 < t 0 + (k + 1) := by omega
          simp [hi, z1, z2, z3, z4]
    · by_cases z0 : cs t i 0 = 0
      · generalize limD s t i = L at *
        by_cases z2 : L < t 0 + k
        · have z3 : L < t 0 + k + 1 := by omega
          have z4 : L < t 0 + (k + 1) := by omega
          by_cases z5 : 0 < k
          · simp [hi, z0, z2, z3, z4, z5]
          · simp [hi, z0, z2, z3, z4, z5]
        · by_cases z3 : L < t 0 + k + 1
          · have z4 : L < t 0 + (k + 1) := by omega
            simp [hi, z0, z2, z3, z4]
          · have z4 : ¬ L < t 0 + (k + 1) := by omega
            simp [hi, z0, z2, z3, z4]
      · simp [hi, z1, z0]
  · simp [hi]
