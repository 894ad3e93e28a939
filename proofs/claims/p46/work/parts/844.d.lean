variable {X : Kd}
def xF (t : Nat → Nat) (v c i : Nat) : Nat := if i < c ∧ cs t i 0 = 1 ∧ cs t i 3 < v then 2 else cs t i 0
def yF (lm : Nat → Nat) (S : Nat) (t : Nat → Nat) (v c i : Nat) : Nat := if i < c ∧ xF t v S i = 0 ∧ lm i < v then 3 else xF t v S i
theorem xF_PH {s t : Nat → Nat} (hT : GoodT s t) (v c : Nat) : PH t (xF t v c) := fun i hi => by
  have c3 := (hT.c3 hi).1
  unfold xF hrg
  by_cases e : i < c ∧ cs t i 0 = 1 ∧ cs t i 3 < v
  · rw [if_pos e]; simp [e.2.1]
  · rw [if_neg e]; simp [c3]
theorem yF_PH {s t lm : Nat → Nat} {S : Nat} (hT : GoodT s t) (v c : Nat) : PH t (yF lm S t v c) := fun i hi => by
  have q := xF_PH hT v S i hi
  unfold yF
  by_cases e : i < c ∧ xF t v S i = 0 ∧ lm i < v
  · rw [if_pos e]
    refine ⟨by omega, ?_⟩
    rw [← q.2, e.2.1]
    simp
  · rw [if_neg e]; exact q
theorem xF_y {t : Nat → Nat} {v c : Nat} (h : cs t c 0 = 1 ∧ cs t c 3 < v) : xF t v (c + 1) = pz (xF t v c) c 2 := by
  funext j
  unfold xF pz
  try dsimp only
  by_cases e : j = c
  · subst e; rw [if_pos ⟨by omega, h⟩, if_pos rfl]
  · rw [if_neg e]
    by_cases e2 : j < c ∧ cs t j 0 = 1 ∧ cs t j 3 < v
    · rw [if_pos e2, if_pos ⟨by omega, e2.2⟩]
    · rw [if_neg e2, if_neg (fun q => e2 ⟨by omega, q.2⟩)]
theorem xF_n {t : Nat → Nat} {v c : Nat} (h : ¬ (cs t c 0 = 1 ∧ cs t c 3 < v)) : xF t v (c + 1) = xF t v c := by
  funext j
  unfold xF
  by_cases e2 : j < c ∧ cs t j 0 = 1 ∧ cs t j 3 < v
  · rw [if_pos e2, if_pos ⟨by omega, e2.2⟩]
  · rw [if_neg e2, if_neg (fun q => by
      by_cases e : j = c
      · subst e; exact h q.2
      · exact e2 ⟨by omega, q.2⟩)]
theorem yF_y {lm t : Nat → Nat} {S v c : Nat} (h : xF t v S c = 0 ∧ lm c < v) : yF lm S t v (c + 1) = pz (yF lm S t v c) c 3 := by
  funext j
  unfold yF pz
  try dsimp only
  by_cases e : j = c
  · subst e; rw [if_pos ⟨by omega, h⟩, if_pos rfl]
  · rw [if_neg e]
    by_cases e2 : j < c ∧ xF t v S j = 0 ∧ lm j < v
    · rw [if_pos e2, if_pos ⟨by omega, e2.2⟩]
    · rw [if_neg e2, if_neg (fun q => e2 ⟨by omega, q.2⟩)]
theorem yF_n {lm t : Nat → Nat} {S v c : Nat} (h : ¬ (xF t v S c = 0 ∧ lm c < v)) : yF lm S t v (c + 1) = yF lm S t v c := by
  funext j
  unfold yF
  by_cases e2 : j < c ∧ xF t v S j = 0 ∧ lm j < v
  · rw [if_pos e2, if_pos ⟨by omega, e2.2⟩]
  · rw [if_neg e2, if_neg (fun q => by
      by_cases e : j = c
      · subst e; exact h q.2
      · exact e2 ⟨by omega, q.2⟩)]
theorem xF_0 {t : Nat → Nat} {v : Nat} : xF t v 0 = fun i => cs t i 0 := by
  funext j
  unfold xF
  rw [if_neg (by omega)]
theorem yF_0 {lm t : Nat → Nat} {S v : Nat} : yF lm S t v 0 = xF t v S := by
  funext j
  unfold yF
  rw [if_neg (by omega)]
theorem xF_c {t : Nat → Nat} {v c : Nat} : xF t v c c = cs t c 0 := by
  unfold xF
  rw [if_neg (by omega)]
theorem yF_c {lm t : Nat → Nat} {S v c : Nat} : yF lm S t v c c = xF t v S c := by
  unfold yF
  rw [if_neg (by omega)]
theorem fin_x {s t : Nat → Nat} {n : Nat} (hn : 0 < n) : yF (limD s t) (s 3) t (t 0 + n) (s 3) = fin s t n := by
  funext i
  unfold yF xF fin
  by_cases e1 : i < s 3 ∧ cs t i 0 = 1 ∧ cs t i 3 < t 0 + n
  · rw [if_pos e1, if_neg (by omega), if_pos e1]
  · rw [if_neg e1, if_neg e1]
    by_cases e2 : i < s 3 ∧ cs t i 0 = 0 ∧ limD s t i < t 0 + n
    · rw [if_pos e2, if_pos ⟨e2.1, e2.2.1, e2.2.2, hn⟩]
    · rw [if_neg e2, if_neg (fun q => e2 ⟨q.1, q.2.1, q.2.2.1⟩)]
theorem x_heard {w : Wd} {a b : Nat} {s T : Nat → Nat} (h : HX w a b s T) {c G D v1 m n z : Nat} (hc : c < s 3) (e0 : cs T c 0 = G) (e3 : cs T c 3 = D) (e1 : T 0 = v1) (hG : G ≤ 3) (hD : G = 1 → D < 600) {k : Int32 → Int32 → Int32 → Wd → Option (Int32 × Wd)} : (G = 1 → D < v1 → f_X10_passDays_L14 (Kx X) a k (n + 1) (nI z) (nI m) (nI c) w = f_X10_passDays_L14 (Kx X) a k n (nI z) (nI (m + 1)) (nI (c + 1)) (sI w 700 (a + 6 + 2 * c) (nI 2))) ∧ (¬ (G = 1 ∧ D < v1) → f_X10_passDays_L14 (Kx X) a k (n + 1) (nI z) (nI m) (nI c) w = f_X10_passDays_L14 (Kx X) a k n (nI z) (nI m) (nI (c + 1)) w) := by
  have h12 := h.gs.1.2.2.2
  have g0 := h.gt.1
  refine ⟨fun a1 a2 => ?_, fun a1 => ?_⟩
  · have eh : hrg T c = true := by unfold hrg; rw [e0, a1]; rfl
    have d2 := hD a1
    rw [f_X10_passDays_L14]
    simp (disch := first | omega | assumption) only [il, Option.bind_some, ixa_n, nI_add, pk_mul, if_le_t, if_le_f, if_lt_t, if_lt_f, if_eq_t, if_eq_f, ↓ifb', h.su, x_size h, h.pg, h.pe, h.mt, h.me, h.p0, h.p1, h.p6, h.p2, h.p3, h.p4, h.p5, h.n2, h.n3, h.n4, h.n5, h.f0, h.f1, h.f2, h.f4, h.f5, h.dy, e0, e1, e3]
  · rw [f_X10_passDays_L14]
    by_cases e2 : G = 1
    · have eh : hrg T c = true := by unfold hrg; rw [e0, e2]; rfl
      have d2 := hD e2
      simp (disch := first | omega | assumption) only [il, Option.bind_some, ixa_n, nI_add, pk_mul, if_le_t, if_le_f, if_lt_t, if_lt_f, if_eq_t, if_eq_f, ↓ifb', h.su, x_size h, h.pg, h.pe, h.mt, h.me, h.p0, h.p1, h.p6, h.p2, h.p3, h.p4, h.p5, h.n2, h.n3, h.n4, h.n5, h.f0, h.f1, h.f2, h.f4, h.f5, h.dy, e0, e1, e3]
    · simp (disch := first | omega | assumption) only [il, Option.bind_some, ixa_n, nI_add, pk_mul, if_le_t, if_le_f, if_lt_t, if_lt_f, if_eq_t, if_eq_f, ↓ifb', h.su, x_size h, h.pg, h.pe, h.mt, h.me, h.p0, h.p1, h.p6, h.p2, h.p3, h.p4, h.p5, h.n2, h.n3, h.n4, h.n5, h.f0, h.f1, h.f2, h.f4, h.f5, h.dy, e0, e1, e3]
theorem x_lapse {w : Wd} {a b : Nat} {s T : Nat → Nat} (h : HX w a b s T) {c G L v1 m n z : Nat} (hc : c < s 3) (e0 : cs T c 0 = G) (e1 : T 0 = v1) (ml : f_X10_limitDay (Kx X) a (nI c) w = some (nI L, w)) (hL : L ≤ 421) (hG : G ≤ 3) {k : Int32 → Int32 → Int32 → Wd → Option (Int32 × Wd)} : (G = 0 → L < v1 → f_X10_passDays_L76 (Kx X) a k (n + 1) (nI z) (nI m) (nI c) w = f_X10_passDays_L76 (Kx X) a k n (nI z) (nI m) (nI (c + 1)) (sI w 700 (a + 6 + 2 * c) (nI 3))) ∧ (¬ (G = 0 ∧ L < v1) → f_X10_passDays_L76 (Kx X) a k (n + 1) (nI z) (nI m) (nI c) w = f_X10_passDays_L76 (Kx X) a k n (nI z) (nI m) (nI (c + 1)) w) := by
  have h12 := h.gs.1.2.2.2
  have g0 := h.gt.1
  refine ⟨fun a1 a2 => ?_, fun a1 => ?_⟩
  · rw [f_X10_passDays_L76]
    simp (disch := first | omega | assumption) only [il, Option.bind_some, ixa_n, nI_add, pk_mul, if_le_t, if_le_f, if_lt_t, if_lt_f, if_eq_t, if_eq_f, ↓ifb', h.su, x_size h, h.pg, h.pe, h.mt, h.me, h.p0, h.p1, h.p6, h.p2, h.p3, h.p4, h.p5, h.n2, h.n3, h.n4, h.n5, h.f0, h.f1, h.f2, h.f4, h.f5, h.dy, e0, e1, ml]
  · rw [f_X10_passDays_L76]
    by_cases e2 : G = 0
    · simp (disch := first | omega | assumption) only [il, Option.bind_some, ixa_n, nI_add, pk_mul, if_le_t, if_le_f, if_lt_t, if_lt_f, if_eq_t, if_eq_f, ↓ifb', h.su, x_size h, h.pg, h.pe, h.mt, h.me, h.p0, h.p1, h.p6, h.p2, h.p3, h.p4, h.p5, h.n2, h.n3, h.n4, h.n5, h.f0, h.f1, h.f2, h.f4, h.f5, h.dy, e0, e1, ml]
    · simp (disch := first | omega | assumption) only [il, Option.bind_some, ixa_n, nI_add, pk_mul, if_le_t, if_le_f, if_lt_t, if_lt_f, if_eq_t, if_eq_f, ↓ifb', h.su, x_size h, h.pg, h.pe, h.mt, h.me, h.p0, h.p1, h.p6, h.p2, h.p3, h.p4, h.p5, h.n2, h.n3, h.n4, h.n5, h.f0, h.f1, h.f2, h.f4, h.f5, h.dy, e0, e1]
def PD (a x : Nat) : Prop := x = a ∨ (a + 6 ≤ x ∧ x < a + 30)
theorem x_passDaysL {w : Wd} {a b : Nat} {s t lm : Nat → Nat} {v z : Nat} (hlm : ∀ i, i < s 3 → lm i ≤ 421) (hll : ∀ w1 T c, HX w1 a b s (phT t v T) → c < s 3 → f_X10_limitDay (Kx X) a (nI c) w1 = some (nI (lm c), w1)) (h : HX w a b s (phT t v (fun i => cs t i 0))) (hT : GoodT s t) (hv : v < 600) : ∃ w', f_X10_passDays_L14 (Kx X) a (fun v1_14 v2_14 v3_14 w2 => f_X10_passDays_L76 (Kx X) a (fun v1_76 v2_76 v3_76 w16 => some (v2_76, w16)) fu v1_14 v2_14 (nI 0) w2) fu (nI z) (nI 0) (nI 0) w = some (nI (cnt (fun i => cs t i 0 == 1 && decide (cs t i 3 < v)) (s 3)), w') ∧ HX w' a b s (phT t v (yF lm (s 3) t v (s 3))) ∧ Off (PD a) w w' := by
  have hS := h.gs
  have h12 := hS.1.2.2.2
  have hcn := cnt_le (p := fun i => cs t i 0 == 1 && decide (cs t i 3 < v)) (s 3)
  have two : ∀ w1, HX w1 a b s (phT t v (xF t v (s 3))) → Off (PD a) w w1 → ∃ w', f_X10_passDays_L76 (Kx X) a (fun v1_76 v2_76 v3_76 w16 => some (v2_76, w16)) fu (nI z) (nI (cnt (fun i => cs t i 0 == 1 && decide (cs t i 3 < v)) (s 3))) (nI 0) w1 = some (nI (cnt (fun i => cs t i 0 == 1 && decide (cs t i 3 < v)) (s 3)), w') ∧ HX w' a b s (phT t v (yF lm (s 3) t v (s 3))) ∧ Off (PD a) w w' := by
    intro w1 h1 o1
    refine loop_q (fun n c w2 => f_X10_passDays_L76 (Kx X) a (fun v1_76 v2_76 v3_76 w16 => some (v2_76, w16)) n (nI z) (nI (cnt (fun i => cs t i 0 == 1 && decide (cs t i 3 < v)) (s 3))) (nI c) w2) (fun c w2 => HX w2 a b s (phT t v (yF lm (s 3) t v c)) ∧ Off (PD a) w w2) (fun r => ∃ w', r = some (nI (cnt (fun i => cs t i 0 == 1 && decide (cs t i 3 < v)) (s 3)), w') ∧ HX w' a b s (phT t v (yF lm (s 3) t v (s 3))) ∧ Off (PD a) w w') (s 3) (fun n w2 hI => ?_) (fun n c w2 hc hI ih => ?_) fu 0 w1 ⟨by rw [yF_0]; exact h1, o1⟩ (by omega) (fu_lt (by omega))
    · try dsimp only
      have h := hI.1
      rw [f_X10_passDays_L76, h.su, Option.bind_some, show (3 : Int32) = nI 3 from rfl, x_size h (by omega), Option.bind_some, if_le_t (by omega) (by omega) (Nat.le_refl _)]
      exact ⟨w2, rfl, hI.1, hI.2⟩
    · try dsimp only at ih ⊢
      have h := hI.1
      have e0 : cs (phT t v (yF lm (s 3) t v c)) c 0 = xF t v (s 3) c := by rw [phT_cs (by omega), if_pos rfl, yF_c]
      have st := x_lapse (X := X) (n := n) (m := cnt (fun i => cs t i 0 == 1 && decide (cs t i 3 < v)) (s 3)) (z := z) (k := fun v1_76 v2_76 v3_76 w16 => some (v2_76, w16)) h hc e0 phT_0 (hll w2 _ c h hc) (hlm c hc) (xF_PH hT v (s 3) c (by omega)).1
      by_cases e2 : xF t v (s 3) c = 0 ∧ lm c < v
      · have ps := yF_y (lm := lm) e2
        have hp : PH t (pz (yF lm (s 3) t v c) c 3) := ps ▸ yF_PH hT v (c + 1)
        rw [st.1 e2.1 e2.2]
        exact ih _ ⟨ps ▸ h.ph (i := c) (by omega) hT (yF_PH hT v c) hp, hI.2.trans (off_sI (Or.inr (by omega)))⟩
      · have ps := yF_n (lm := lm) e2
        rw [st.2 e2]
        exact ih _ ⟨ps ▸ hI.1, hI.2⟩
  refine loop_q (fun n c w2 => f_X10_passDays_L14 (Kx X) a (fun v1_14 v2_14 v3_14 w2 => f_X10_passDays_L76 (Kx X) a (fun v1_76 v2_76 v3_76 w16 => some (v2_76, w16)) fu v1_14 v2_14 (nI 0) w2) n (nI z) (nI (cnt (fun i => cs t i 0 == 1 && decide (cs t i 3 < v)) c)) (nI c) w2) (fun c w2 => HX w2 a b s (phT t v (xF t v c)) ∧ Off (PD a) w w2) (fun r => ∃ w', r = some (nI (cnt (fun i => cs t i 0 == 1 && decide (cs t i 3 < v)) (s 3)), w') ∧ HX w' a b s (phT t v (yF lm (s 3) t v (s 3))) ∧ Off (PD a) w w') (s 3) (fun n w2 hI => ?_) (fun n c w2 hc hI ih => ?_) fu 0 w ⟨by rw [xF_0]; exact h, Off.rf⟩ (by omega) (fu_lt (by omega))
  · try dsimp only
    have h := hI.1
    rw [f_X10_passDays_L14, h.su, Option.bind_some, show (3 : Int32) = nI 3 from rfl, x_size h (by omega), Option.bind_some, if_le_t (by omega) (by omega) (Nat.le_refl _)]
    exact two w2 hI.1 hI.2
  · try dsimp only at ih ⊢
    have h := hI.1
    have e0 : cs (phT t v (xF t v c)) c 0 = cs t c 0 := by rw [phT_cs (by omega), if_pos rfl, xF_c]
    have e3 : cs (phT t v (xF t v c)) c 3 = cs t c 3 := by rw [phT_cs (by omega), if_neg (by omega)]
    have st := x_heard (X := X) (n := n) (m := cnt (fun i => cs t i 0 == 1 && decide (cs t i 3 < v)) c) (z := z) (k := fun v1_14 v2_14 v3_14 w2 => f_X10_passDays_L76 (Kx X) a (fun v1_76 v2_76 v3_76 w16 => some (v2_76, w16)) fu v1_14 v2_14 (nI 0) w2) h hc e0 e3 phT_0 (hT.c3 (i := c) (by omega)).1 (fun q => (hT.hr (i := c) (by omega) (by unfold hrg; rw [q]; rfl)).2.1)
    rw [cnt_succ] at ih
    by_cases e2 : cs t c 0 = 1 ∧ cs t c 3 < v
    · have ps := xF_y e2
      have hp : PH t (pz (xF t v c) c 2) := ps ▸ xF_PH hT v (c + 1)
      have eb : (cs t c 0 == 1 && decide (cs t c 3 < v)) = true := by rw [decide_eq_true e2.2, e2.1]; rfl
      rw [eb] at ih
      rw [st.1 e2.1 e2.2]
      exact ih _ ⟨ps ▸ h.ph (i := c) (by omega) hT (xF_PH hT v c) hp, hI.2.trans (off_sI (Or.inr (by omega)))⟩
    · have ps := xF_n e2
      have eb : (cs t c 0 == 1 && decide (cs t c 3 < v)) = false := by
        cases zz : (cs t c 0 == 1 && decide (cs t c 3 < v)) with
        | false => rfl
        | true => simp only [Bool.and_eq_true, beq_iff_eq, decide_eq_true_eq] at zz; exact absurd zz e2
      rw [eb] at ih
      rw [st.2 e2]
      exact ih _ ⟨ps ▸ hI.1, hI.2⟩
theorem x_passDays {w : Wd} {a b : Nat} {s t : Nat → Nat} (h : HX w a b s t) {n : Nat} (h0 : 0 < n) (hn : t 0 + n < 600) : ∃ w', f_X10_passDays (Kx X) a (nI n) w = some (nI (hdN s t n), w') ∧ HX w' a b s (phT t (t 0 + n) (fin s t n)) ∧ Off (PD a) w w' := by
  have hT := h.gt
  have hS := h.gs
  have hd := h.day (t' := phT t (t 0 + n) (fun i => cs t i 0)) (fun x x0 hx => phT_lo x0 hx) (fun j k _ hk => by
    rw [phT_cs hk]
    by_cases k0 : k = 0
    · rw [if_pos k0, k0]
    · rw [if_neg k0]) (phT_good hT hn (fun i hi => by
    have c3 := (hT.c3 hi).1
    unfold hrg
    simp [c3]))
  rw [phT_0] at hd
  have h1 : ∀ i, i < s 3 → limD s t i ≤ 421 := fun i hi => limD_le hS hT hi
  have h2 : ∀ w1 T c, HX w1 a b s (phT t (t 0 + n) T) → c < s 3 → f_X10_limitDay (Kx X) a (nI c) w1 = some (nI (limD s t c), w1) := fun w1 T c hh hc => by
    rw [x_limitDay hh hc, limD_phT hT.2.1]
  have ff := fin_x (s := s) (t := t) h0
  have dy := h.dy
  unfold f_X10_passDays
  rw [Option.bind_some, dy, nI_add]
  generalize limD s t = lm at *
  have main := x_passDaysL (X := X) (z := n) h1 h2 hd hT hn
  rw [ff] at main
  obtain ⟨w2, e2, q2, o2⟩ := main
  exact ⟨w2, e2, q2, (off_sI (Or.inl rfl)).trans o2⟩

