/-! What each change keeps, further. -/
theorem GI.mono {P Q : Nat → Bool} {s t : Nat → Nat} (h : GI P s t) (hQ : ∀ c, c < s 3 → Q c = false → P c = false) : GI Q s t := ⟨fun c hc e => ⟨fun q => (h.1 c hc e).1 (hQ c hc q), (h.1 c hc e).2⟩, h.2⟩
theorem GItwT {P : Nat → Bool} {s t : Nat → Nat} (hS : GoodS s) (hT : GoodT s t) (hP : ∀ c, c < s 3 → P c = true → cs t c 0 = 1) (h : GI P s t) {p : Nat} (hp : p < 4) : ∀ c, c ≤ s 3 → GI (fun x => P x && decide (c ≤ x)) s (twT s t P p c)
  | 0, _ => h.mono (fun c _ q => by simpa using q)
  | c + 1, hc => by
    have ih := GItwT hS hT hP h hp c (by omega)
    have s12 := hS.1.2.2.2
    have tg := twT_ge hS hT (P := P) hp c (by omega)
    rw [twT_succ]
    by_cases e : P c = true
    · rw [if_pos e]
      refine GItkT hS tg.1 ih (by omega) hp (by rw [tg.2.1 c 0 (Nat.le_refl _) (by omega)]; exact hP c (by omega) e) (fun x hx q => ?_)
      simp only [Bool.and_eq_false_iff, decide_eq_false_iff_not] at q ⊢
      rcases q with q | q
      · exact Or.inl q
      · exact Or.inr (by omega)
    · rw [if_neg e]
      refine ih.mono (fun x hx q => ?_)
      simp only [Bool.and_eq_false_iff, decide_eq_false_iff_not] at q ⊢
      rcases q with q | q
      · exact Or.inl q
      · by_cases ex : x = c
        · rw [ex]; exact Or.inl (Bool.eq_false_iff.mpr e)
        · exact Or.inr (by omega)
theorem GItwT_end {P : Nat → Bool} {s t : Nat → Nat} (hS : GoodS s) (hT : GoodT s t) (hP : ∀ c, c < s 3 → P c = true → cs t c 0 = 1) (h : GI P s t) {p : Nat} (hp : p < 4) : GI (fun _ => false) s (twT s t P p (s 3)) := (GItwT hS hT hP h hp (s 3) (Nat.le_refl _)).mono (fun c hc _ => by
  try dsimp only
  rw [decide_eq_false (by omega), Bool.and_false])
theorem wkg_ho {t : Nat → Nat} {d e : Nat} : wkg (hoT t d) e = (wkg t e && !(d == e)) := by
  unfold wkg
  rw [hoT_hol, Bool.not_or, Bool.and_assoc]
theorem GIhoT {s t : Nat → Nat} (hS : GoodS s) (hT : GoodT s t) (h : GI (fun _ => false) s t) {d : Nat} (h1 : t 1 < 20) : GI (fun c => cs (hoT t d) c 0 == 1 && cs (hoT t d) c 3 == d) s (hoT t d) := by
  obtain ⟨g1, g2, g3, g4, g5⟩ := h
  have hc : ∀ c k, cs (hoT t d) c k = cs t c k := fun c k => hoT_cs hT.2.1
  have lo : ∀ x, (x = 0 ∨ 22 ≤ x) → hoT t d x = t x := fun x hx => hoT_ne (by omega) (by omega)
  have el : ∀ c, limD s t c ≤ limD s (hoT t d) c := fun c => limD_mono (fun e q => by
    rw [wkg_ho] at q
    simp only [Bool.and_eq_true] at q
    exact q.1) (by rw [hc]; exact Nat.le_refl _)
  have eo : ∀ c d2 q2, ouT s (hoT t d) c d2 q2 = ouT s t c d2 q2 := fun c d2 q2 => ouT_eq (s := s) (fun v hv => lo (22 + v) (by omega))
  refine ⟨fun c hs e => ?_, g2.of (fun j hj hr => ⟨by unfold hrg at hr ⊢; rw [hc] at hr; exact hr, fun k _ _ => hc j k⟩), fun c hs e => ?_, fun c hs e => by rw [hc]; exact g4 c hs e, fun c hs => ?_⟩
  · rw [hc] at e
    obtain ⟨h1, h2⟩ := g1 c hs e
    have u := h1 rfl
    refine ⟨fun hP => ?_, by rw [lo 0 (by omega)]; exact Nat.le_trans h2 (el c)⟩
    refine u.of (fun k _ _ => hc c k) (by rw [lo 0 (by omega)]; exact u.1.1) ?_ (el c) (by rw [lo (34 + c) (by omega)]; exact u.2.2.2.2.1) (by rw [eo]; exact u.2.2.2.2.2)
    try dsimp only at hP
    rw [hc, hc, e] at hP
    have e3 : (cs t c 3 == d) = false := by simpa using hP
    rw [wkg_ho, u.1.2.2, beq_false_of_ne (fun q => (beq_eq_false_iff_ne.mp e3) q.symm)]
    rfl
  · rw [hc] at e
    rw [lo 0 (by omega)]
    exact Nat.le_trans (g3 c hs e) (el c)
  · rw [hc, hc, ← g5 c hs]
    exact grI_eq _ (hT.c3 (by have := hS.1.2.2.2; omega)).2.2 (fun k _ _ => hc c k)
theorem GIwdT {s t : Nat → Nat} (hS : GoodS s) (hT : GoodT s t) (h : GI (fun _ => false) s t) {v d : Nat} (hv : v < s 2) : GI (fun c => cs (wdT t v d) c 0 == 1 && (!decide (cs (wdT t v d) c 3 < d) && (s (136 + c)).testBit v)) s (wdT t v d) := by
  obtain ⟨g1, g2, g3, g4, g5⟩ := h
  have v12 : v < 12 := by have := hS.1.2.2.1; omega
  have hc : ∀ c k, cs (wdT t v d) c k = cs t c k := fun c k => wdT_cs v12
  have lo : ∀ x, x ≠ 22 + v → wdT t v d x = t x := fun x hx => wdT_ne hx
  have ew : ∀ e, wkg (wdT t v d) e = wkg t e := fun e => wkg_lo hT.2.1 (fun x _ hx => lo x (by omega)) e
  have el : ∀ c, limD s (wdT t v d) c = limD s t c := fun c => by
    unfold limD
    rw [hc, lim_c2 ew]
  refine ⟨fun c hs e => ?_, g2.of (fun j hj hr => ⟨by unfold hrg at hr ⊢; rw [hc] at hr; exact hr, fun k _ _ => hc j k⟩), fun c hs e => ?_, fun c hs e => by rw [hc]; exact g4 c hs e, fun c hs => ?_⟩
  · rw [hc] at e
    obtain ⟨h1, h2⟩ := g1 c hs e
    have u := h1 rfl
    refine ⟨fun hP => ?_, by rw [lo 0 (by omega), el]; exact h2⟩
    refine u.of (fun k _ _ => hc c k) (by rw [lo 0 (by omega)]; exact u.1.1) (by rw [ew]; exact u.1.2.2) (by rw [el]; exact Nat.le_refl _) (by rw [lo (34 + c) (by omega)]; exact u.2.2.2.2.1) ?_
    try dsimp only at hP
    rw [hc, hc, e] at hP
    unfold ouT
    refine any_f (fun x hx => ?_)
    try dsimp only
    have ux := any_no u.2.2.2.2.2 hx
    try dsimp only at ux
    by_cases ev : x = v
    · cases eb : (s (136 + c)).testBit x with
      | false => rfl
      | true =>
        rw [eb] at ux
        have ux2 : inW s t c (cs t c 3) (cs t c 4) x = true := by simpa using ux
        rw [ev] at eb
        rw [eb] at hP
        have e3 : cs t c 3 < d := by simpa using hP
        unfold inW at ux2 ⊢
        simp only [Bool.and_eq_true, decide_eq_true_eq] at ux2
        rw [ev] at ux2 ⊢
        rw [wdT_v, decide_eq_true ux2.2, decide_eq_true (show s (52 + v) ≤ cs t c 3 ∧ cs t c 3 < if d < t (22 + v) then d else t (22 + v) from ⟨ux2.1.1, by split <;> omega⟩)]
        rfl
    · unfold inW at ux ⊢
      rw [lo (22 + x) (by omega)]
      exact ux
  · rw [hc] at e
    rw [lo 0 (by omega), el]
    exact g3 c hs e
  · rw [hc, hc, ← g5 c hs]
    exact grI_eq _ (hT.c3 (by have := hS.1.2.2.2; omega)).2.2 (fun k _ _ => hc c k)
theorem GIbrT {s t : Nat → Nat} (hS : GoodS s) (hT : GoodT s t) (h : GI (fun _ => false) s t) {j o : Nat} (hj : j < s 3) {P : Nat → Bool} (hP : P j = false → cs t j 0 = 1 → cs t j 6 ≠ o) : GI P s (brT t j o) := by
  obtain ⟨g1, g2, g3, g4, g5⟩ := h
  have j12 : j < 12 := by have := hS.1.2.2.2; omega
  have hc : ∀ c k, cs (brT t j o) c k = cs t c k := fun c k => brT_cs j12
  have lo : ∀ x, x ≠ 34 + j → brT t j o x = t x := fun x hx => brT_ne hx
  have ew : ∀ e, wkg (brT t j o) e = wkg t e := fun e => wkg_lo hT.2.1 (fun x _ hx => lo x (by omega)) e
  have el : ∀ c, limD s (brT t j o) c = limD s t c := fun c => by
    unfold limD
    rw [hc, lim_c2 ew]
  have eo : ∀ c d2 q2, ouT s (brT t j o) c d2 q2 = ouT s t c d2 q2 := fun c d2 q2 => ouT_eq (s := s) (fun v hv => lo (22 + v) (by have := hS.1.2.2.1; omega))
  refine ⟨fun c hs e => ?_, g2.of (fun j hj hr => ⟨by unfold hrg at hr ⊢; rw [hc] at hr; exact hr, fun k _ _ => hc j k⟩), fun c hs e => ?_, fun c hs e => by rw [hc]; exact g4 c hs e, fun c hs => ?_⟩
  · rw [hc] at e
    obtain ⟨h1, h2⟩ := g1 c hs e
    have u := h1 rfl
    refine ⟨fun hQ => ?_, by rw [lo 0 (by omega), el]; exact h2⟩
    refine u.of (fun k _ _ => hc c k) (by rw [lo 0 (by omega)]; exact u.1.1) (by rw [ew]; exact u.1.2.2) (by rw [el]; exact Nat.le_refl _) ?_ (by rw [eo]; exact u.2.2.2.2.2)
    by_cases ec : c = j
    · rw [ec] at hQ e u ⊢
      rw [brT_j, Nat.testBit_or, u.2.2.2.2.1, Nat.testBit_two_pow, decide_eq_false (fun q => hP hQ e q.symm)]
      rfl
    · rw [lo (34 + c) (by omega)]
      exact u.2.2.2.2.1
  · rw [hc] at e
    rw [lo 0 (by omega), el]
    exact g3 c hs e
  · rw [hc, hc, ← g5 c hs]
    exact grI_eq _ (hT.c3 (by have := hS.1.2.2.2; omega)).2.2 (fun k _ _ => hc c k)
theorem GIfin {s t : Nat → Nat} (hS : GoodS s) (hT : GoodT s t) (h : GI (fun _ => false) s t) {n : Nat} (hn : 0 < n) : GI (fun _ => false) s (phT t (t 0 + n) (fin s t n)) := by
  obtain ⟨g1, g2, g3, g4, g5⟩ := h
  have hc : ∀ c k, k < 27 → 0 < k → cs (phT t (t 0 + n) (fin s t n)) c k = cs t c k := fun c k hk h0 => by rw [phT_cs hk, if_neg (by omega)]
  have h0 : ∀ c, cs (phT t (t 0 + n) (fin s t n)) c 0 = fin s t n c := fun c => by rw [phT_cs (by omega), if_pos rfl]
  have lo : ∀ x, 0 < x → x < 46 → phT t (t 0 + n) (fin s t n) x = t x := fun x h1 hx => phT_lo h1 hx
  have ew : ∀ e, wkg (phT t (t 0 + n) (fin s t n)) e = wkg t e := fun e => wkg_lo hT.2.1 (fun x h1 hx => lo x h1 (by omega)) e
  have el : ∀ c, limD s (phT t (t 0 + n) (fin s t n)) c = limD s t c := fun c => limD_phT hT.2.1
  have eo : ∀ c d2 q2, ouT s (phT t (t 0 + n) (fin s t n)) c d2 q2 = ouT s t c d2 q2 := fun c d2 q2 => ouT_eq (s := s) (fun v hv => lo (22 + v) (by omega) (by have := hS.1.2.2.1; omega))
  have fp : ∀ c, c < s 3 → (fin s t n c = 1 → cs t c 0 = 1 ∧ t 0 + n ≤ cs t c 3) ∧ (fin s t n c = 0 → cs t c 0 = 0 ∧ t 0 + n ≤ limD s t c) := fun c hs => by
    unfold fin
    by_cases e1 : c < s 3 ∧ cs t c 0 = 1 ∧ cs t c 3 < t 0 + n
    · rw [if_pos e1]; exact ⟨fun q => by omega, fun q => by omega⟩
    · rw [if_neg e1]
      by_cases e2 : c < s 3 ∧ cs t c 0 = 0 ∧ limD s t c < t 0 + n ∧ 0 < n
      · rw [if_pos e2]; exact ⟨fun q => by omega, fun q => by omega⟩
      · rw [if_neg e2]
        exact ⟨fun q => ⟨q, by omega⟩, fun q => ⟨q, by omega⟩⟩
  refine ⟨fun c hs e => ?_, g2.of (fun j hj hr => ⟨?_, fun k k1 k2 => hc j k (by omega) (by omega)⟩), fun c hs e => ?_, fun c hs e => by rw [hc c 1 (by omega) (by omega)]; exact g4 c hs e, fun c hs => ?_⟩
  · rw [h0] at e
    obtain ⟨f1, f2⟩ := (fp c hs).1 e
    obtain ⟨h1, h2⟩ := g1 c hs f1
    have u := h1 rfl
    refine ⟨fun hQ => ?_, by rw [phT_0, el]; exact Nat.le_trans f2 u.2.1⟩
    exact u.of (fun k k1 k2 => hc c k (by omega) (by omega)) (by rw [phT_0]; exact f2) (by rw [ew]; exact u.1.2.2) (by rw [el]; exact Nat.le_refl _) (by rw [lo (34 + c) (by omega) (by have := hS.1.2.2.2; omega)]; exact u.2.2.2.2.1) (by rw [eo]; exact u.2.2.2.2.2)
  · refine ((fin_PH hT n) j (by have := hS.1.2.2.2; omega)).2.mp ?_
    unfold hrg at hr
    rw [h0] at hr
    simpa using hr
  · rw [h0] at e
    rw [phT_0, el]
    exact ((fp c hs).2 e).2
  · rw [hc c 1 (by omega) (by omega), hc c 2 (by omega) (by omega), ← g5 c hs]
    have := (hT.c3 (i := c) (by have := hS.1.2.2.2; omega)).2.2
    exact grI_eq _ this (fun k k1 k2 => hc c k (by omega) (by omega))
theorem GI0 {s t : Nat → Nat} (hS : GoodS s) (h0 : t 0 = 0) (hz : ∀ k, 46 ≤ k → k < 370 → t k = 0) : GI (fun _ => false) s t := by
  have s12 := hS.1.2.2.2
  have z : ∀ c k, c < s 3 → k < 27 → cs t c k = 0 := fun c k hc hk => hz _ (by omega) (by omega)
  refine ⟨fun c hc e => ?_, fun i j hi hj _ hr _ => ?_, fun c hc e => by rw [h0]; exact Nat.zero_le _, fun c hc e => by rw [z c 1 hc (by omega)]; exact Nat.zero_le _, fun c hc => by rw [z c 1 hc (by omega), z c 2 hc (by omega)]; rfl⟩
  · rw [z c 0 hc (by omega)] at e
    cases e
  · unfold hrg at hr
    rw [z i 0 hi (by omega)] at hr
    cases hr
/-! What a forecast finds. -/
theorem lst_is {ok : Nat → Bool} {ld : Nat → Nat} {o : Nat} (h : ok o = true) : ∀ n, o < n → (lst ok ld n).isSome = true
  | 0, hn => absurd hn (Nat.not_lt_zero _)
  | n + 1, hn => by
    rw [lst]
    by_cases e : o < n
    · have ih := lst_is (ld := ld) h n e
      cases e2 : lst ok ld n with
      | none => rw [e2] at ih; cases ih
      | some b =>
        try dsimp only
        split
        · first | rfl | (split <;> rfl)
        · rfl
    · have : o = n := by omega
      subst this
      cases e2 : lst ok ld o with
      | none => simp [h]
      | some b =>
        try dsimp only
        split
        · first | rfl | (split <;> rfl)
        · rfl
theorem fstF_is {p : Nat → Bool} {k : Nat} (h : p k = true) : ∀ d c, c ≤ k → k < c + d → (fstF p c d).isSome = true
  | 0, c, h1, h2 => absurd h2 (by omega)
  | d + 1, c, h1, h2 => by
    rw [fstF]
    by_cases e : p c = true
    · rw [if_pos e]; rfl
    · rw [if_neg e]
      have : c ≠ k := fun q => e (by rw [q]; exact h)
      exact fstF_is h d (c + 1) (by omega) (by omega)
theorem fstF_fst {p : Nat → Bool} {k : Nat} : ∀ d c, fstF p c d = some k → ∀ j, c ≤ j → j < k → p j = false
  | 0, c, h, _, _, _ => by cases h
  | d + 1, c, h, j, h1, h2 => by
    rw [fstF] at h
    by_cases e : p c = true
    · rw [if_pos e] at h
      have := Option.some.inj h
      omega
    · rw [if_neg e] at h
      by_cases e2 : j = c
      · rw [e2]; exact Bool.eq_false_iff.mpr e
      · exact fstF_fst d (c + 1) h j (by omega) h2
theorem fo_is {s t : Nat → Nat} {G : Int32} {i d q r o : Nat} (hq : q + s (100 + i) < 9) (hr : r < s 0) (ho : o < s 1) (h : pbN s t G i d q r o = 0) : (fo s t G i d).isSome = true := by
  have h1 : (bst s t G i d q r (s 1)).isSome = true := lst_is (by rw [h]; rfl) _ ho
  have h2 : (rmF s t G i d q).isSome = true := fstF_is h1 _ _ (Nat.zero_le _) (by omega)
  have h3 : (qF s t G i d).isSome = true := fstF_is h2 _ _ (Nat.zero_le _) (by omega)
  unfold fo
  cases e : qF s t G i d with
  | none => rw [e] at h3; cases h3
  | some q1 =>
    have h4 := (fstF_p _ _ _ e).2.2
    try dsimp only
    cases e2 : rmF s t G i d q1 with
    | none =>
      try dsimp only at h4
      rw [e2] at h4
      cases h4
    | some r1 => rfl
theorem cnD_0 {s t : Nat → Nat} {G : Int32} {i : Nat} (h : fa s t G i = none) : cnD s t G i (limD s t i) = 0 := by
  unfold fa faL at h
  cases e : fstF (opn s t G i) (t 0) (limD s t i + 1 - t 0) with
  | none =>
    unfold cnD cn
    refine cnt_z _ (fun j hj => ?_)
    try dsimp only
    cases e2 : opn s t G i (t 0 + j) with
    | false => rfl
    | true =>
      have := fstF_is e2 (limD s t i + 1 - t 0) (t 0) (by omega) (by omega)
      rw [e] at this
      cases this
  | some d =>
    rw [e] at h
    have h1 := (fstF_p _ _ _ e).2.2
    unfold opn at h1
    rw [Bool.and_eq_true] at h1
    try dsimp only at h
    cases e2 : fo s t G i d with
    | none => rw [e2] at h1; cases h1.2
    | some z =>
      obtain ⟨q, r, o⟩ := z
      rw [e2] at h
      cases h
theorem cnt_pos {p : Nat → Bool} {k : Nat} (h : p k = true) : ∀ n, k < n → 1 ≤ cnt p n
  | 0, hn => absurd hn (Nat.not_lt_zero _)
  | n + 1, hn => by
    rw [cnt_succ]
    by_cases e : k < n
    · have := cnt_pos h n e
      omega
    · have : k = n := by omega
      rw [← this, h]
      show 1 ≤ _ + 1
      omega
theorem cnD_1 {s t : Nat → Nat} {G : Int32} {i d q r o : Nat} (h : fa s t G i = some (d, q, r, o)) : 1 ≤ cnD s t G i (limD s t i) ∧ ∀ d2 q2 r2 o2, t 0 ≤ d2 → d2 < d → q2 + s (100 + i) < 9 → r2 < s 0 → o2 < s 1 → flN s t G i d2 q2 r2 o2 ≠ 0 := by
  unfold fa faL at h
  cases e : fstF (opn s t G i) (t 0) (limD s t i + 1 - t 0) with
  | none => rw [e] at h; cases h
  | some d1 =>
    rw [e] at h
    have h1 := fstF_p _ _ _ e
    have hd : d1 = d := by
      try dsimp only at h
      cases e2 : fo s t G i d1 with
      | none => rw [e2] at h; cases h
      | some z =>
        obtain ⟨a, b, c⟩ := z
        rw [e2] at h
        cases h
        rfl
    subst hd
    refine ⟨?_, fun d2 q2 r2 o2 k1 k2 k3 k4 k5 k6 => ?_⟩
    · unfold cnD cn
      have h2 : (fun k => opn s t G i (t 0 + k)) (d1 - t 0) = true := by
        try dsimp only
        rw [show t 0 + (d1 - t 0) = d1 by omega]
        exact h1.2.2
      have b1 := h1.1
      have b2 := h1.2.1
      exact cnt_pos (p := fun k => opn s t G i (t 0 + k)) (k := d1 - t 0) h2 (limD s t i + 1 - t 0) (by omega)
    · obtain ⟨a1, a2, a3⟩ := fl_dec.mp k6
      have pb : pbN s t G i d2 q2 r2 o2 = 0 := by
        unfold flN at k6
        rw [if_neg (by rw [a1]; simp), if_neg (show ¬ limD s t i < d2 by omega)] at k6
        exact k6
      have := fstF_fst _ _ e d2 k1 k2
      unfold opn at this
      rw [a1, fo_is k3 k4 k5 pb] at this
      cases this
