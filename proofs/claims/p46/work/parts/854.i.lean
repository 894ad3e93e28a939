variable {X : Kd}
theorem i1205 {w : Wd} (h : FX w) : wR w 1205 0 = some 73 := h.1 (1205, 0, 73) (by decide +kernel)
theorem i1206 {w : Wd} (h : FX w) : wR w 1206 0 = some 103 := h.1 (1206, 0, 103) (by decide +kernel)
theorem i1208 {w : Wd} (h : FX w) : wR w 1208 0 = some 133 := h.1 (1208, 0, 133) (by decide +kernel)
theorem x_remL {w : Wd} {pa : Nat → Nat} (h : FX w) (hp : PA8 w pa) {k : Option Nat → Int32 → Wd → Option Wd} {v : Option Nat} : ∃ w', f_X12_remember_L18 (Kx X) 0 k fu v (nI 1) w = k v (nI 8) w' ∧ Fr NS (fun x => x = 163) w w' ∧ FX w' ∧ ∀ j, j < 8 → aR w' 163 j = if j < 7 then some (pa (j + 1)) else some (pa j) := by
  refine loop_q (fun n i w1 => f_X12_remember_L18 (Kx X) 0 k n v (nI i) w1) (fun i w1 => 1 ≤ i ∧ Fr NS (fun x => x = 163) w w1 ∧ FX w1 ∧ ∀ j, j < 8 → aR w1 163 j = if j + 1 < i then some (pa (j + 1)) else some (pa j)) (fun r => ∃ w', r = k v (nI 8) w' ∧ Fr NS (fun x => x = 163) w w' ∧ FX w' ∧ ∀ j, j < 8 → aR w' 163 j = if j < 7 then some (pa (j + 1)) else some (pa j)) 8 (fun n w1 hI => ?_) (fun n i w1 hi hI ih => ?_) fu 1 w ⟨by omega, Fr.rf, h, fun j hj => by rw [if_neg (by omega)]; exact (hp.1 j hj).1⟩ (by omega) (fu_lt (by omega))
  · try dsimp only
    rw [f_X12_remember_L18, x1209 hI.2.2.1, Option.bind_some]
    try dsimp only
    rw [if_le_t (by omega) (by omega) (Nat.le_refl _)]
    refine ⟨w1, rfl, hI.2.1, hI.2.2.1, fun j hj => ?_⟩
    rw [hI.2.2.2 j hj]
    by_cases e : j < 7
    · rw [if_pos (by omega), if_pos e]
    · rw [if_neg (by omega), if_neg e]
  · try dsimp only at ih ⊢
    obtain ⟨i1, i2, i3, i4⟩ := hI
    have e1 : aR w1 163 i = some (pa i) := by rw [i4 i hi, if_neg (by omega)]
    rw [f_X12_remember_L18, x1209 i3, Option.bind_some]
    try dsimp only
    rw [if_le_f (by omega) (by omega) hi, ixa_n (by omega) (by omega), Option.bind_some, show nI i - 1 = nI (i - 1) from sub_nI (a := i) (b := 1) (by omega), ixa_n (by omega) (by omega), Option.bind_some, ck e1 (kSA (SP_SA (hp.1 i hi).2)), Option.bind_some, Option.bind_some, show nI i + 1 = nI (i + 1) from nI_add i 1]
    refine ih _ ⟨by omega, i2.trans (fr_tR rfl), i3.tR163, fun j hj => ?_⟩
    rw [aR_tR]
    by_cases e : j = i - 1
    · rw [if_pos ⟨rfl, e⟩, if_pos (by omega), e, show i - 1 + 1 = i by omega]
    · rw [if_neg (fun q => e q.2), i4 j hj]
      by_cases e2 : j + 1 < i
      · rw [if_pos e2, if_pos (by omega)]
      · rw [if_neg e2, if_neg (by omega)]
def rmM (m : Nat) : Nat := if m < 8 then m + 1 else 8
def rmH (m : Nat) (hs : Nat → Nat → Nat) (t : Nat → Nat) (i : Nat) : Nat → Nat := if m < 8 then (if i = m then t else hs i) else (if i = 7 then t else hs (i + 1))
def SRm (f x : Nat) : Prop := (f = 1210 ∧ x = 0) ∨ (164 ≤ x ∧ x < 404)
def ARm (x : Nat) : Prop := 163 ≤ x ∧ x < 404
theorem cpF {w w' : Wd} {a : Nat} {v : Option Nat} (h : Ofi (fun _ x => RG a x) (RG a) (sR w 1000 a v) w') : Fr (fun _ x => RG a x) (RG a) w w' := (fr_sR (S := fun _ x => RG a x) (A := RG a) ⟨Nat.le_refl _, by omega⟩).trans h.fr
/-- the last step of it -/
theorem x_rem1 {w : Wd} {b n : Nat} {s t : Nat → Nat} {hs : Nat → Nat → Nat} {pa : Nat → Nat} (h : HX w 73 b s t) (hp : PA8 w pa) (hn : n < 8) (h9 : wI w 1210 0 = nI n) (hh : ∀ i, i < n → HX w (pa i) b s (hs i)) : ∃ w1 w', f_X10_copyFrom (Kx X) (pa n) (wR w 1205 0) w = some w1 ∧ w' = sI w1 1210 0 (wI w1 1210 0 + 1) ∧ Fr SRm ARm w w' ∧ HX w' 73 b s t ∧ HSx w' b s (n + 1) (fun i => if i = n then t else hs i) := by
  have ra := hp.1 n hn
  have rg := SP_rg ra.2
  have hb := h.2.1.2.1
  have ub := SU_rg hb
  obtain ⟨w1, e1, o1, h1⟩ := x_copyFrom (X := X) h (SP_SA ra.2) (by omega)
  have r1 := cpF o1
  have f1 : FX w1 := h1.1
  have nb : ∀ x, RG (pa n) x → ¬ RB b x := fun x q z => by
    have q1 := q.1
    have z2 := z.2
    omega
  have g9 : wI w1 1210 0 = nI n := by rw [(r1.1 1210 0 (fun q => by have := q.1; omega)).1]; exact h9
  have r2 : Fr SRm ARm w (sI w1 1210 0 (nI (n + 1))) := (r1.mono (fun _ x q => Or.inr ⟨by have := q.1; omega, by have := q.2; omega⟩) (fun x q => ⟨by have := q.1; omega, by have := q.2; omega⟩)).trans (fr_sI (Or.inl ⟨rfl, rfl⟩))
  have so : Fr (fun f x => f = 1210 ∧ x = 0) (fun _ => False) w1 (sI w1 1210 0 (nI (n + 1))) := (fr_sI ⟨rfl, rfl⟩)
  have up : ∀ {a : Nat} {t' : Nat → Nat}, a ∈ SA → HX w1 a b s t' → HX (sI w1 1210 0 (nI (n + 1))) a b s t' := fun {a t'} ha q => q.fr so f1.sI (fun f x z => by
    have h3 : 73 ≤ a := (by decide : ∀ a, a ∈ SA → 73 ≤ a) a ha
    exact ⟨fun z2 => by have := z2.1; omega, fun z2 => by have := z2.1; omega⟩) (fun x z => z.elim)
  refine ⟨w1, sI w1 1210 0 (nI (n + 1)), by rw [i1205 h.1]; exact e1, by rw [g9, show nI n + 1 = nI (n + 1) from nI_add n 1], r2, up (by decide) (h.fr r1 f1 (fun f x q => ⟨fun z => by have := q.1; have := z.2; omega, nb x q⟩) (fun x q => ⟨fun z => by have := q.1; have := z.2; omega, nb x q⟩)), by rw [wI_sI, if_pos ⟨rfl, rfl⟩], by omega, pa, ⟨fun i hi => ⟨?_, (hp.1 i hi).2⟩, hp.2⟩, fun i hi => ?_⟩
  · rw [show aR (sI w1 1210 0 (nI (n + 1))) = aR w1 from rfl, (r1.2 163 (fun q => by have := q.1; omega)).2.2]
    exact (hp.1 i hi).1
  · have ri := hp.1 i (by omega)
    refine up (SP_SA ri.2) ?_
    dsimp only
    by_cases e : i = n
    · subst e
      rw [if_pos rfl]
      exact h1
    · rw [if_neg e]
      have far := SA_far (SP_SA ra.2) (SP_SA ri.2) (fun q => e (hp.2 n i hn (by omega) q).symm)
      refine (hh i (by omega)).fr r1 f1 (fun f x q => ⟨fun z => ?_, nb x q⟩) (fun x q => ⟨fun z => ?_, nb x q⟩)
      · have q1 := q.1
        have q2 := q.2
        have z1 := z.1
        have z2 := z.2
        omega
      · have q1 := q.1
        have q2 := q.2
        have z1 := z.1
        have z2 := z.2
        omega
theorem x_remember {w : Wd} {b m : Nat} {s t : Nat → Nat} {hs : Nat → Nat → Nat} (h : HX w 73 b s t) (hh : HSx w b s m hs) : ∃ w', f_X12_remember (Kx X) 0 w = some w' ∧ Fr SRm ARm w w' ∧ HX w' 73 b s t ∧ HSx w' b s (rmM m) (rmH m hs t) := by
  obtain ⟨h1, h2, pa, hp, h3⟩ := hh
  have ub := SU_rg h.2.1.2.1
  unfold f_X12_remember
  by_cases e : m < 8
  · obtain ⟨w1, w2, e1, e2, r2, k2, hs2⟩ := x_rem1 (X := X) h hp e h1 h3
    rw [h1, show (8 : Int32) = nI 8 from rfl, if_lt_t (by omega) (by omega) e, x1209 h.1, Option.bind_some]
    try dsimp only
    rw [ixa_n (by omega) (by omega), Option.bind_some, ck (hp.1 m e).1 (kSA (SP_SA (hp.1 m e).2)), Option.bind_some, e1, Option.bind_some, Option.bind_some, ← e2]
    refine ⟨w2, rfl, r2, k2, ?_⟩
    have em : rmM m = m + 1 := if_pos e
    have eh : rmH m hs t = fun i => if i = m then t else hs i := funext fun i => if_pos e
    rw [em, eh]
    exact hs2
  · have e8 : m = 8 := by omega
    subst e8
    obtain ⟨w1, e1, r1, f1, q1⟩ := x_remL (X := X) h.1 hp (k := fun v1_18 v2_18 w9 => (cha (Kx X) 28 (wR w9 1209 0)).bind fun a16 => (ixa ((nI a16.2) - 1) a16.2).bind fun j17 => (chk (Kx X) 9 v1_18).bind fun a18 => (some (tR w9 a16.1 j17 (some a18))).bind fun w19 => (some (sI w19 1210 0 7)).bind fun w20 => (cha (Kx X) 28 (wR w20 1209 0)).bind fun a21 => (ixa (wI w20 1210 0) a21.2).bind fun j22 => (chk (Kx X) 9 (aR w20 a21.1 j22)).bind fun a23 => (f_X10_copyFrom (Kx X) a23 (wR w20 1205 0) w20).bind fun q24 => (some (sI q24 1210 0 ((wI q24 1210 0) + 1))).bind fun w25 => some w25) (v := aR w 163 0)
    rw [h1, show (8 : Int32) = nI 8 from rfl, if_lt_f (by omega) (by omega) (by omega), x1209 h.1, Option.bind_some]
    try dsimp only
    rw [show ixa 0 8 = some 0 from rfl, Option.bind_some]
    try dsimp only
    rw [show (1 : Int32) = nI 1 from rfl, show (7 : Int32) = nI 7 from rfl] at *
    have f2 : FX (sI (tR w1 163 7 (some (pa 0))) 1210 0 (nI 7)) := f1.tR163.sI
    have r2 : Fr SRm (fun x => x = 163) w (sI (tR w1 163 7 (some (pa 0))) 1210 0 (nI 7)) := ((r1.mono (fun _ _ q => q.elim) (fun _ q => q)).trans (fr_tR rfl)).trans (fr_sI (Or.inl ⟨rfl, rfl⟩))
    have hp2 : PA8 (sI (tR w1 163 7 (some (pa 0))) 1210 0 (nI 7)) (fun i => if i < 7 then pa (i + 1) else pa 0) := by
      refine ⟨fun i hi => ⟨?_, ?_⟩, fun i j hi hj q => ?_⟩
      · rw [show aR (sI (tR w1 163 7 (some (pa 0))) 1210 0 (nI 7)) = aR (tR w1 163 7 (some (pa 0))) from rfl, aR_tR]
        try dsimp only
        by_cases e7 : i = 7
        · rw [if_pos ⟨rfl, e7⟩, if_neg (by omega)]
        · rw [if_neg (fun z => e7 z.2), q1 i hi, if_pos (by omega), if_pos (by omega)]
      · try dsimp only
        by_cases e7 : i < 7
        · rw [if_pos e7]; exact (hp.1 _ (by omega)).2
        · rw [if_neg e7]; exact (hp.1 _ (by omega)).2
      · dsimp only at q
        by_cases i7 : i < 7
        · by_cases j7 : j < 7
          · rw [if_pos i7, if_pos j7] at q
            have := hp.2 _ _ (by omega) (by omega) q
            omega
          · rw [if_pos i7, if_neg j7] at q
            have := hp.2 _ _ (by omega) (by omega) q
            omega
        · by_cases j7 : j < 7
          · rw [if_neg i7, if_pos j7] at q
            have := hp.2 _ _ (by omega) (by omega) q
            omega
          · omega
    have up : ∀ {a : Nat} {t' : Nat → Nat}, a ∈ SA → HX w a b s t' → HX (sI (tR w1 163 7 (some (pa 0))) 1210 0 (nI 7)) a b s t' := fun {a t'} ha q => q.fr (S := fun f x => x = 0) (A := fun x => x = 163) (((r1.mono (fun _ _ q => q.elim) (fun _ q => q)).trans (fr_tR rfl)).trans (fr_sI rfl)) f2 (fun f x z => by
      have h3 : 73 ≤ a := (by decide : ∀ a, a ∈ SA → 73 ≤ a) a ha
      exact ⟨fun z2 => by have := z2.1; omega, fun z2 => by have := z2.1; omega⟩) (fun x z => by
      have h3 : a + 30 ≤ 163 ∨ 163 < a := (by decide : ∀ a, a ∈ SA → a + 30 ≤ 163 ∨ 163 < a) a ha
      exact ⟨fun z2 => by have := z2.1; have := z2.2; omega, fun z2 => by have := z2.1; have := z2.2; omega⟩)
    have h9 : wI (sI (tR w1 163 7 (some (pa 0))) 1210 0 (nI 7)) 1210 0 = nI 7 := by rw [wI_sI, if_pos ⟨rfl, rfl⟩]
    obtain ⟨w3, w4, e3, e4, r4, k4, hs4⟩ := x_rem1 (X := X) (hs := fun i => hs (i + 1)) (up (by decide) h) hp2 (n := 7) (by omega) h9 (fun i hi => by
      try dsimp only
      rw [if_pos hi]
      exact up (SP_SA (hp.1 _ (by omega)).2) (h3 (i + 1) (by omega)))
    rw [e1, x1209 f1, Option.bind_some]
    try dsimp only
    rw [show (1 : Int32) = nI 1 from rfl] at e4
    rw [show nI 8 - nI 1 = nI 7 from sub_nI (a := 8) (b := 1) (by omega), ixa_n (by omega) (by omega), Option.bind_some, ck (hp.1 0 (by omega)).1 (kSA (SP_SA (hp.1 0 (by omega)).2)), Option.bind_some, Option.bind_some, Option.bind_some, x1209 f2, Option.bind_some]
    try dsimp only
    rw [h9, ixa_n (by omega) (by omega), Option.bind_some, ck (hp2.1 7 (by omega)).1 (kSA (SP_SA (hp2.1 7 (by omega)).2)), Option.bind_some, e3, Option.bind_some, Option.bind_some, ← e4]
    refine ⟨w4, rfl, (r2.mono (fun _ _ q => q) (fun x q => ⟨by omega, by omega⟩)).trans r4, k4, ?_⟩
    have em : rmM 8 = 7 + 1 := rfl
    have eh : rmH 8 hs t = fun i => if i = 7 then t else hs (i + 1) := funext fun i => if_neg (by omega)
    rw [em, eh]
    exact hs4

