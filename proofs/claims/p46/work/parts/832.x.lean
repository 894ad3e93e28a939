variable {X : Kd}
def LO (w : Wd) (s t : Nat → Nat) (i : Nat) : Prop := wI w 604 404 = nI (brN s t i) ∧ ∀ o, o < s 1 → aI w 407 o = nI (ldN s t o)
theorem x_lookAtOfficers {w : Wd} {a b : Nat} {s t : Nat → Nat} (h : HX w a b s t) {i : Nat} (hi : i < s 3) : ∃ w', f_X6_lookAtOfficers (Kx X) 404 (some a) (nI i) w = some w' ∧ Off PL w w' ∧ LO w' s t i := by
  have h6 := h.gs.1.2.1
  unfold f_X6_lookAtOfficers
  rw [h.ca, Option.bind_some, x_barredOfficers h hi, Option.bind_some, Option.bind_some]
  refine loop_q (fun f c w1 => f_X6_lookAtOfficers_L11 (Kx X) 404 (fun v1_11 v2_11 v3_11 w4 => some w4) f (some a) (nI i) (nI c) w1) (fun c w1 => Off PL w w1 ∧ wI w1 604 404 = nI (brN s t i) ∧ ∀ o, o < c → aI w1 407 o = nI (ldN s t o)) (fun r => ∃ w', r = some w' ∧ Off PL w w' ∧ LO w' s t i) (s 1) (fun f w1 hI => ?_) (fun f c w1 hc hI ih => ?_) fu 0 _ ⟨off_sI ⟨by omega, by omega⟩, by rw [wI_sI, if_pos ⟨rfl, rfl⟩], fun o ho => by omega⟩ (by omega) (fu_lt (by omega))
  · have h0 := h
    have h := hI.1.HX h0 PL_ge
    rw [f_X6_lookAtOfficers_L11]
    simp (disch := first | omega | assumption) only [il, Option.bind_some, ixa_n, nI_add, pk_mul, if_le_t, if_le_f, if_lt_t, if_lt_f, if_eq_t, if_eq_f, ↓ifb', h.su, x_size h, h.pg, h.pe, h.mt, h.me, h.p0, h.p1, h.p6, h.p2, h.p3, h.p4, h.p5, h.n2, h.n3, h.n4, h.n5, h.f0, h.f1, h.f2, h.f4, h.f5, h.dy, h.ca]
    exact ⟨w1, rfl, hI.1, hI.2.1, hI.2.2⟩
  · have h0 := h
    have h := hI.1.HX h0 PL_ge
    try dsimp only at ih ⊢
    rw [f_X6_lookAtOfficers_L11]
    simp (disch := first | omega | assumption) only [il, Option.bind_some, ixa_n, nI_add, pk_mul, if_le_t, if_le_f, if_lt_t, if_lt_f, if_eq_t, if_eq_f, ↓ifb', h.su, x_size h, h.pg, h.pe, h.mt, h.me, h.p0, h.p1, h.p6, h.p2, h.p3, h.p4, h.p5, h.n2, h.n3, h.n4, h.n5, h.f0, h.f1, h.f2, h.f4, h.f5, h.dy, h.ca, x_loadOf h, x602 h.1]
    refine ih _ ⟨hI.1.trans (off_tI ⟨by omega, by omega⟩), by rw [wI_tI]; exact hI.2.1, fun o ho => ?_⟩
    rw [aI_tI]
    by_cases e : o = c
    · rw [if_pos ⟨rfl, e⟩, e]; rfl
    · rw [if_neg (fun q => e q.2)]; exact hI.2.2 o (by omega)
theorem x_fill {w : Wd} {v : Option Nat} {r n : Nat} (hv : cha (Kx X) 20 v = some (r, n)) (hn : n < 100000) : ∃ w', f_J7_fill_53178 (Kx X) v (nI 0) w = some w' ∧ Ofi (fun _ _ => False) (fun x => x = r) w w' ∧ ∀ j, j < n → aI w' r j = nI 0 := by
  unfold f_J7_fill_53178
  rw [hv, Option.bind_some]
  refine loop_q (fun f c w1 => f_J7_fill_53178_L5 (Kx X) (fun v0_5 v1_5 v2_5 v3_5 w2 => some w2) f v (nI 0) (nI c) (nI n) w1) (fun c w1 => Ofi (fun _ _ => False) (fun x => x = r) w w1 ∧ ∀ j, j < c → aI w1 r j = nI 0) (fun q => ∃ w', q = some w' ∧ Ofi (fun _ _ => False) (fun x => x = r) w w' ∧ ∀ j, j < n → aI w' r j = nI 0) n (fun f w1 hI => ?_) (fun f c w1 hc hI ih => ?_) fu 0 _ ⟨Ofi.rf, fun o ho => by omega⟩ (by omega) (fu_lt (by omega))
  · rw [f_J7_fill_53178_L5]
    simp (disch := first | omega | assumption) only [il, Option.bind_some, ixa_n, nI_add, pk_mul, if_le_t, if_le_f, if_lt_t, if_lt_f, if_eq_t, if_eq_f, ↓ifb']
    exact ⟨w1, rfl, hI.1, hI.2⟩
  · try dsimp only at ih ⊢
    rw [f_J7_fill_53178_L5]
    simp (disch := first | omega | assumption) only [il, Option.bind_some, ixa_n, nI_add, pk_mul, if_le_t, if_le_f, if_lt_t, if_lt_f, if_eq_t, if_eq_f, ↓ifb', hv]
    refine ih _ ⟨hI.1.trans (ofi_tI rfl), fun o ho => ?_⟩
    rw [aI_tI]
    by_cases e : o = c
    · rw [if_pos ⟨rfl, e⟩]
    · rw [if_neg (fun q => e q.2)]; exact hI.2 o (by omega)
theorem Ofi.off {S : Nat → Nat → Prop} {A P : Nat → Prop} {w w' : Wd} (h : Ofi S A w w') (hS : ∀ f x, S f x → P x) (hA : ∀ x, A x → P x) : Off P w w' := ⟨h.1.1, h.1.2.1, fun x hx => ⟨fun f => h.2.1 f x (fun q => hx (hS f x q)), fun f => by rw [h.1.2.2.1], fun f => by rw [h.1.2.2.2.1], h.2.2 x (fun q => hx (hA x q)), by rw [h.1.2.2.2.2.1], by rw [h.1.2.2.2.2.2]⟩⟩
theorem x_take {w : Wd} {v : Option Nat} {m n r o e : Nat} (hv : cha (Kx X) 20 v = some (m, n)) (hn : n < 100000) (hr : r < n) (ho : aI w m r = nI o) (h1 : o < 2 ^ 32) (h2 : e < 2 ^ 32) : f_X6_take (Kx X) v (nI r) (nI e) w = some (tI w m r (nI (o ||| e))) := by
  unfold f_X6_take
  simp (disch := first | omega | assumption) only [il, Option.bind_some, ixa_n, nI_add, pk_mul, if_le_t, if_le_f, if_lt_t, if_lt_f, if_eq_t, if_eq_f, ↓ifb', hv]
  rw [ho, or_nI h1 h2]
def LD (w : Wd) (s t : Nat → Nat) (i d ab n : Nat) : Prop := wI w 605 404 = nI (ab ||| awN s d (s 1)) ∧ wI w 606 404 = nI (ouN s t (s (136 + i)) d (s 2)) ∧ wI w 607 404 = nI (wiN s t i d n) ∧ (∀ r, r < 3 → aI w 405 r = nI (rmN s t i d r n)) ∧ ∀ o, o < 6 → aI w 406 o = nI (ofN s t i d o n)
def LK (w w' : Wd) : Prop := wI w' 604 404 = wI w 604 404 ∧ aI w' 407 = aI w 407
theorem x_lookAtDay {w : Wd} {a b : Nat} {s t : Nat → Nat} (h : HX w a b s t) {i d ab : Nat} (hi : i < s 3) (hd : d < 2 ^ 31) (hab : ab < 64) : ∃ w', f_X6_lookAtDay (Kx X) 404 (some a) (nI i) (nI d) (nI ab) w = some w' ∧ Off PL w w' ∧ LK w w' ∧ LD w' s t i d ab (s 3) := by
  have h6 := h.gs.1.2.1
  have h3 := h.gs.1.1
  have h12 := h.gs.1.2.2.2
  have nd := h.gs.nd hi
  have bw := awN_lt (s := s) (d := d) h6
  unfold f_X6_lookAtDay
  obtain ⟨w1, e1, o1, z1⟩ := x_fill (X := X) (w := w) (x600 h.1) (by omega)
  have p1 : Off PL w w1 := o1.off (fun _ _ q => q.elim) (fun x q => by subst q; exact ⟨by omega, by omega⟩)
  have k1 := p1.HX h PL_ge
  obtain ⟨w2, e2, o2, z2⟩ := x_fill (X := X) (w := w1) (x601 k1.1) (by omega)
  have p2 : Off PL w1 w2 := o2.off (fun _ _ q => q.elim) (fun x q => by subst q; exact ⟨by omega, by omega⟩)
  have p3 : Off PL w (sI w2 607 404 (nI 0)) := (p1.trans p2).trans (off_sI ⟨by omega, by omega⟩)
  have k3 := p3.HX h PL_ge
  have p4 : Off PL w (sI (sI w2 607 404 (nI 0)) 605 404 (nI (ab ||| awN s d (s 1)))) := p3.trans (off_sI ⟨by omega, by omega⟩)
  have k4 := p4.HX h PL_ge
  have p5 : Off PL w (sI (sI (sI w2 607 404 (nI 0)) 605 404 (nI (ab ||| awN s d (s 1)))) 606 404 (nI (ouN s t (s (136 + i)) d (s 2)))) := p4.trans (off_sI ⟨by omega, by omega⟩)
  rw [h.ca, Option.bind_some, h.su, Option.bind_some]
  try dsimp only
  rw [h.mt, Option.bind_some]
  try dsimp only
  rw [ixa_n (by omega) (by omega), Option.bind_some]
  try dsimp only
  rw [h.me (by omega), Option.bind_some]
  try dsimp only
  rw [show (0 : Int32) = nI 0 from rfl, e1, Option.bind_some, e2, Option.bind_some, Option.bind_some, x_awayOfficers k3 hd, Option.bind_some]
  try dsimp only
  rw [or_nI (by omega) (by omega), Option.bind_some, h.f4 hi, x_slotsOutside k4 (by omega) hd, Option.bind_some, Option.bind_some]
  try dsimp only
  have s605 : wI (sI (sI (sI w2 607 404 (nI 0)) 605 404 (nI (ab ||| awN s d (s 1)))) 606 404 (nI (ouN s t (s (136 + i)) d (s 2)))) 605 404 = nI (ab ||| awN s d (s 1)) := by simp [wI_sI]
  have s606 : wI (sI (sI (sI w2 607 404 (nI 0)) 605 404 (nI (ab ||| awN s d (s 1)))) 606 404 (nI (ouN s t (s (136 + i)) d (s 2)))) 606 404 = nI (ouN s t (s (136 + i)) d (s 2)) := by simp [wI_sI]
  have s607 : wI (sI (sI (sI w2 607 404 (nI 0)) 605 404 (nI (ab ||| awN s d (s 1)))) 606 404 (nI (ouN s t (s (136 + i)) d (s 2)))) 607 404 = nI (wiN s t i d 0) := by simp [wI_sI]; rfl
  have s604 : wI (sI (sI (sI w2 607 404 (nI 0)) 605 404 (nI (ab ||| awN s d (s 1)))) 606 404 (nI (ouN s t (s (136 + i)) d (s 2)))) 604 404 = wI w 604 404 := by
    simp only [wI_sI]
    rw [if_neg (by omega), if_neg (by omega), if_neg (by omega), o2.2.1 _ _ (fun q => q), o1.2.1 _ _ (fun q => q)]
  have q5 : ∀ r, r < 3 → aI (sI (sI (sI w2 607 404 (nI 0)) 605 404 (nI (ab ||| awN s d (s 1)))) 606 404 (nI (ouN s t (s (136 + i)) d (s 2)))) 405 r = nI (rmN s t i d r 0) := fun r hr => by
    simp only [aI_sI]
    rw [o2.2.2 405 (by omega)]
    exact z1 r hr
  have q6 : ∀ o, o < 6 → aI (sI (sI (sI w2 607 404 (nI 0)) 605 404 (nI (ab ||| awN s d (s 1)))) 606 404 (nI (ouN s t (s (136 + i)) d (s 2)))) 406 o = nI (ofN s t i d o 0) := fun r hr => by
    simp only [aI_sI]
    exact z2 r hr
  have q7 : aI (sI (sI (sI w2 607 404 (nI 0)) 605 404 (nI (ab ||| awN s d (s 1)))) 606 404 (nI (ouN s t (s (136 + i)) d (s 2)))) 407 = aI w 407 := by
    simp only [aI_sI]
    rw [o2.2.2 407 (by omega), o1.2.2 407 (by omega)]
  generalize sI (sI (sI w2 607 404 (nI 0)) 605 404 (nI (ab ||| awN s d (s 1)))) 606 404 (nI (ouN s t (s (136 + i)) d (s 2))) = w5 at *
  refine loop_q (fun f c w1 => f_X6_lookAtDay_L66 (Kx X) 404 (fun v1_66 v2_66 v3_66 v4_66 v5_66 v6_66 v7_66 w13 => some w13) f (some a) (nI i) (nI d) (nI ab) (wR w 1000 a) (nI (s (136 + i))) (nI c) w1) (fun c w1 => Off PL w w1 ∧ LK w w1 ∧ LD w1 s t i d ab c) (fun r => ∃ w', r = some w' ∧ Off PL w w' ∧ LK w w' ∧ LD w' s t i d ab (s 3)) (s 3) (fun f w1 hI => ?_) (fun f c w1 hc hI ih => ?_) fu 0 w5 ⟨p5, ⟨s604, q7⟩, s605, s606, s607, q5, q6⟩ (by omega) (fu_lt (by omega))
  · have su0 := h.su (X := X)
    have h0 := h
    have h := hI.1.HX h0 PL_ge
    rw [f_X6_lookAtDay_L66]
    simp (disch := first | omega | assumption) only [il, Option.bind_some, ixa_n, nI_add, pk_mul, if_le_t, if_le_f, if_lt_t, if_lt_f, if_eq_t, if_eq_f, ↓ifb', h.su, x_size h, h.pg, h.pe, h.mt, h.me, h.p0, h.p1, h.p6, h.p2, h.p3, h.p4, h.p5, h.n2, h.n3, h.n4, h.n5, h.f0, h.f1, h.f2, h.f4, h.f5, h.dy, h.ca, su0]
    exact ⟨w1, rfl, hI.1, hI.2⟩
  · have su0 := h.su (X := X)
    have h0 := h
    have h := hI.1.HX h0 PL_ge
    have bW : wiN s t i d c < 2 ^ 12 := tkG_lt h.gs h.gt (by omega)
    have bO : ∀ r, rmN s t i d r c < 2 ^ 12 := fun r => tkG_lt h.gs h.gt (by omega)
    have bF : ∀ o, ofN s t i d o c < 2 ^ 12 := fun r => tkG_lt h.gs h.gt (by omega)
    obtain ⟨i1, i2, i3, i4, i5, i6, i7⟩ := hI
    try dsimp only at ih ⊢
    rw [f_X6_lookAtDay_L66]
    by_cases ec : c = i
    · have eg : onG s t i d c = 0 := by unfold onG; simp [ec]
      simp (disch := first | omega | assumption) only [il, Option.bind_some, ixa_n, nI_add, pk_mul, if_le_t, if_le_f, if_lt_t, if_lt_f, if_eq_t, if_eq_f, ↓ifb', h.su, x_size h, h.pg, h.pe, h.mt, h.me, h.p0, h.p1, h.p6, h.p2, h.p3, h.p4, h.p5, h.n2, h.n3, h.n4, h.n5, h.f0, h.f1, h.f2, h.f4, h.f5, h.dy, h.ca, su0]
      refine ih _ ⟨i1, i2, i3, i4, ?_, fun r hr => ?_, fun o ho => ?_⟩
      · rw [i5]; unfold wiN; rw [tkG_succ, eg]; simp
      · rw [i6 r hr]; unfold rmN; rw [tkG_succ, eg]; simp
      · rw [i7 o ho]; unfold ofN; rw [tkG_succ, eg]; simp
    · cases eo : (hrg t c && cs t c 3 == d)
      · have eg : onG s t i d c = 0 := by unfold onG; simp [eo]
        simp (disch := first | omega | assumption) only [il, Option.bind_some, ixa_n, nI_add, pk_mul, if_le_t, if_le_f, if_lt_t, if_lt_f, if_eq_t, if_eq_f, ↓ifb', h.su, x_size h, h.pg, h.pe, h.mt, h.me, h.p0, h.p1, h.p6, h.p2, h.p3, h.p4, h.p5, h.n2, h.n3, h.n4, h.n5, h.f0, h.f1, h.f2, h.f4, h.f5, h.dy, h.ca, su0, x_isOn h, eo, Bool.false_eq_true, if_false]
        refine ih _ ⟨i1, i2, i3, i4, ?_, fun r hr => ?_, fun o ho => ?_⟩
        · rw [i5]; unfold wiN; rw [tkG_succ, eg]; simp
        · rw [i6 r hr]; unfold rmN; rw [tkG_succ, eg]; simp
        · rw [i7 o ho]; unfold ofN; rw [tkG_succ, eg]; simp
      · have eh : hrg t c = true := by simp only [Bool.and_eq_true] at eo; exact eo.1
        have e2 := h.gt.hr (by omega) eh
        have eg : onG s t i d c = sset (cs t c 4) (s (100 + c)) := by unfold onG; simp [eo, ec]
        have bs : sset (cs t c 4) (s (100 + c)) < 4096 := sset_lt (by omega)
        have nc := h.gs.nd hc
        have tk1 := x_take (X := X) (w := w1) (x600 (X := X) h.1) (by omega) (show cs t c 5 < 3 by omega) (i6 _ (by omega)) (Nat.lt_trans (bO _) (by omega)) (show sset (cs t c 4) (s (100 + c)) < 2 ^ 32 by omega)
        have j1 : Off PL w (tI w1 405 (cs t c 5) (nI (rmN s t i d (cs t c 5) c ||| sset (cs t c 4) (s (100 + c))))) := i1.trans (off_tI ⟨by omega, by omega⟩)
        have m1 := j1.HX h0 PL_ge
        have tk2 := x_take (X := X) (w := tI w1 405 (cs t c 5) (nI (rmN s t i d (cs t c 5) c ||| sset (cs t c 4) (s (100 + c))))) (x601 (X := X) m1.1) (by omega) (show cs t c 6 < 6 by omega) (by rw [aI_tI, if_neg (by omega)]; exact i7 _ (by omega)) (Nat.lt_trans (bF _) (by omega)) (show sset (cs t c 4) (s (100 + c)) < 2 ^ 32 by omega)
        have j2 : Off PL w (tI (tI w1 405 (cs t c 5) (nI (rmN s t i d (cs t c 5) c ||| sset (cs t c 4) (s (100 + c))))) 406 (cs t c 6) (nI (ofN s t i d (cs t c 6) c ||| sset (cs t c 4) (s (100 + c))))) := j1.trans (off_tI ⟨by omega, by omega⟩)
        have m2 := j2.HX h0 PL_ge
        have n607 : wI (tI (tI w1 405 (cs t c 5) (nI (rmN s t i d (cs t c 5) c ||| sset (cs t c 4) (s (100 + c))))) 406 (cs t c 6) (nI (ofN s t i d (cs t c 6) c ||| sset (cs t c 4) (s (100 + c))))) 607 404 = nI (wiN s t i d c) := by rw [wI_tI, wI_tI]; exact i5
        have n5 : ∀ r, r < 3 → aI (tI (tI w1 405 (cs t c 5) (nI (rmN s t i d (cs t c 5) c ||| sset (cs t c 4) (s (100 + c))))) 406 (cs t c 6) (nI (ofN s t i d (cs t c 6) c ||| sset (cs t c 4) (s (100 + c))))) 405 r = nI (rmN s t i d r (c + 1)) := fun r hr => by
          rw [aI_tI, if_neg (by omega), aI_tI]; unfold rmN; rw [tkG_succ, eg]
          by_cases er : r = cs t c 5
          · rw [if_pos ⟨rfl, er⟩, er]; simp
          · rw [if_neg (fun q => er q.2), i6 r hr]
            have : (cs t c 5 == r) = false := by simp; omega
            simp [this, rmN]
        have n6 : ∀ o, o < 6 → aI (tI (tI w1 405 (cs t c 5) (nI (rmN s t i d (cs t c 5) c ||| sset (cs t c 4) (s (100 + c))))) 406 (cs t c 6) (nI (ofN s t i d (cs t c 6) c ||| sset (cs t c 4) (s (100 + c))))) 406 o = nI (ofN s t i d o (c + 1)) := fun r hr => by
          rw [aI_tI]; unfold ofN; rw [tkG_succ, eg]
          by_cases er : r = cs t c 6
          · rw [if_pos ⟨rfl, er⟩, er]; simp
          · rw [if_neg (fun q => er q.2), aI_tI, if_neg (by omega), i7 r hr]
            have : (cs t c 6 == r) = false := by simp; omega
            simp [this, ofN]
        have n7 : aI (tI (tI w1 405 (cs t c 5) (nI (rmN s t i d (cs t c 5) c ||| sset (cs t c 4) (s (100 + c))))) 406 (cs t c 6) (nI (ofN s t i d (cs t c 6) c ||| sset (cs t c 4) (s (100 + c))))) 407 = aI w1 407 := by
          funext j
          rw [aI_tI, if_neg (by omega), aI_tI, if_neg (by omega)]
        have n4 : ∀ f, wI (tI (tI w1 405 (cs t c 5) (nI (rmN s t i d (cs t c 5) c ||| sset (cs t c 4) (s (100 + c))))) 406 (cs t c 6) (nI (ofN s t i d (cs t c 6) c ||| sset (cs t c 4) (s (100 + c))))) f 404 = wI w1 f 404 := fun f => by rw [wI_tI, wI_tI]
        have x5 := h.p4 (i := c) (by omega) eh
        have x6 := m1.p5 (i := c) (by omega) eh
        rw [su0, Option.bind_some]
        try dsimp only
        rw [show (3 : Int32) = nI 3 from rfl, x_size h (by omega), Option.bind_some, if_le_f (by omega) (by omega) hc, h.ca, Option.bind_some]
        try dsimp only
        rw [h.pg, Option.bind_some]
        try dsimp only
        rw [ixa_n (by omega) (by omega), Option.bind_some, if_eq_f (by omega) (by omega) ec, h.pe (by omega), Option.bind_some, x_isOn h (by omega) hd, Option.bind_some, ifb, eo, if_pos rfl]
        try dsimp only
        rw [x_slotsOf h (by omega) eh, Option.bind_some]
        try dsimp only
        rw [x5, tk1, Option.bind_some, x6, tk2, Option.bind_some]
        generalize tI (tI w1 405 (cs t c 5) (nI (rmN s t i d (cs t c 5) c ||| sset (cs t c 4) (s (100 + c))))) 406 (cs t c 6) (nI (ofN s t i d (cs t c 6) c ||| sset (cs t c 4) (s (100 + c)))) = w7 at *
        rw [m2.mt, Option.bind_some]
        try dsimp only
        rw [ixa_n (by omega) (by omega), Option.bind_some, m2.me (by omega), Option.bind_some, m2.f4 hc, show (0 : Int32) = nI 0 from rfl, z32 (by omega) (by omega), n607, show nI c + 1 = nI (c + 1) from nI_add c 1]
        by_cases ez : s (136 + i) &&& s (136 + c) = 0
        · rw [if_pos ez, Option.bind_some, or_nI (by omega) (by omega), Nat.or_zero]
          refine ih _ ⟨j2.trans (off_sI ⟨by omega, by omega⟩), ⟨?_, ?_⟩, ?_, ?_, ?_, n5, n6⟩
          · rw [wI_sI, if_neg (by omega), n4]; exact i2.1
          · rw [aI_sI, n7]; exact i2.2
          · rw [wI_sI, if_neg (by omega), n4]; exact i3
          · rw [wI_sI, if_neg (by omega), n4]; exact i4
          · rw [wI_sI, if_pos ⟨rfl, rfl⟩]; unfold wiN; rw [tkG_succ, Nat.and_comm, ez]; simp
        · rw [if_neg ez, Option.bind_some, or_nI (by omega) (by omega)]
          refine ih _ ⟨j2.trans (off_sI ⟨by omega, by omega⟩), ⟨?_, ?_⟩, ?_, ?_, ?_, n5, n6⟩
          · rw [wI_sI, if_neg (by omega), n4]; exact i2.1
          · rw [aI_sI, n7]; exact i2.2
          · rw [wI_sI, if_neg (by omega), n4]; exact i3
          · rw [wI_sI, if_neg (by omega), n4]; exact i4
          · have ez2 : ¬ (s (136 + c) &&& s (136 + i) = 0) := fun q => ez (by rw [Nat.and_comm]; exact q)
            rw [wI_sI, if_pos ⟨rfl, rfl⟩]; unfold wiN; rw [tkG_succ, eg]; simp [ez2]

