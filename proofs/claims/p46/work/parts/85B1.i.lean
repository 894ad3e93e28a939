/-! What each change keeps. -/
theorem PWplT {s t : Nat → Nat} (hS : GoodS s) (hp : PW s t) {G : Int32} {i d q r o : Nat} (hi : i < s 3) (hz : flN s t G i d q r o = 0) : PW s (plT t i d q r o) := by
  have hr : ∀ j, j ≠ i → hrg (plT t i d q r o) j = hrg t j := fun j hj => by unfold hrg; rw [plT_ne hj (by omega)]
  have k3 : cs (plT t i d q r o) i 3 = d := by rw [plT_cs (by omega), if_neg (by omega), if_neg (by omega), if_neg (by omega), if_pos ⟨rfl, rfl⟩]
  have k4 : cs (plT t i d q r o) i 4 = q := by rw [plT_cs (by omega), if_neg (by omega), if_neg (by omega), if_pos ⟨rfl, rfl⟩]
  have k5 : cs (plT t i d q r o) i 5 = r := by rw [plT_cs (by omega), if_neg (by omega), if_pos ⟨rfl, rfl⟩]
  have k6 : cs (plT t i d q r o) i 6 = o := by rw [plT_cs (by omega), if_pos ⟨rfl, rfl⟩]
  have one : ∀ j, j < s 3 → j ≠ i → hrg t j = true → PR s (plT t i d q r o) i j := fun j hj ji h => by
    unfold PR
    rw [k3, k4, k5, k6, plT_ne ji (by omega), plT_ne ji (by omega), plT_ne ji (by omega), plT_ne ji (by omega)]
    exact fl_PR hz hj ji h
  intro a b ha hb ab h1 h2
  by_cases ea : a = i
  · have eb : b ≠ i := fun q => ab (ea.trans q.symm)
    rw [hr b eb] at h2
    rw [ea]
    exact one b hb eb h2
  · rw [hr a ea] at h1
    by_cases eb : b = i
    · rw [eb]
      exact (one a ha ea h1).symm hS hi ha
    · rw [hr b eb] at h2
      exact (hp a b ha hb ab h1 h2).of (fun k k1 k2 => plT_ne ea (by omega)) (fun k k1 k2 => plT_ne eb (by omega))
theorem GIplT {s t : Nat → Nat} (hS : GoodS s) (hT : GoodT s t) (h : GI (fun _ => false) s t) {i d q r o : Nat} (hi : i < s 3) (hz : flN s t (-nI 1) i d q r o = 0) : GI (fun _ => false) s (plT t i d q r o) := by
  obtain ⟨g1, g2, g3, g4, g5⟩ := h
  have ht1 := hT.2.1
  have lo : ∀ x, x < 46 → plT t i d q r o x = t x := fun x hx => plT_lo hx
  have ew : ∀ e, wkg (plT t i d q r o) e = wkg t e := fun e => wkg_lo ht1 (fun x _ hx => lo x (by omega)) e
  have c1 : ∀ c, cs (plT t i d q r o) c 1 = cs t c 1 := fun c => by
    by_cases e : c = i
    · rw [e]; exact plT_k (by omega) (by omega)
    · exact plT_ne e (by omega)
  have el : ∀ c, limD s (plT t i d q r o) c = limD s t c := fun c => by
    unfold limD
    rw [c1, lim_c2 ew]
  have eo : ∀ c d2 q2, ouT s (plT t i d q r o) c d2 q2 = ouT s t c d2 q2 := fun c d2 q2 => ouT_eq (s := s) (fun v hv => lo (22 + v) (by have := hS.1.2.2.1; omega))
  refine ⟨fun c hc e => ?_, PWplT hS g2 hi hz, fun c hc e => ?_, fun c hc e => by rw [c1]; exact g4 c hc e, fun c hc => ?_⟩
  · rw [lo 0 (by omega), el]
    by_cases ec : c = i
    · obtain ⟨a1, a2, a3, a4, a5, a6, a7, a8, a9⟩ := fl_dec.mp hz
      unfold dyO at a1
      simp only [Bool.or_eq_false_iff, decide_eq_false_iff_not, Bool.not_eq_false'] at a1
      unfold brd at a7
      rw [Bool.or_eq_false_iff] at a7
      rw [ec]
      refine ⟨fun _ => ?_, by omega⟩
      unfold UN
      rw [show cs (plT t i d q r o) i 3 = d by rw [plT_cs (by omega), if_neg (by omega), if_neg (by omega), if_neg (by omega), if_pos ⟨rfl, rfl⟩], show cs (plT t i d q r o) i 4 = q by rw [plT_cs (by omega), if_neg (by omega), if_neg (by omega), if_pos ⟨rfl, rfl⟩], show cs (plT t i d q r o) i 5 = r by rw [plT_cs (by omega), if_neg (by omega), if_pos ⟨rfl, rfl⟩], show cs (plT t i d q r o) i 6 = o by rw [plT_cs (by omega), if_pos ⟨rfl, rfl⟩], lo 0 (by omega), ew, el, lo (34 + i) (by have := hS.1.2.2.2; omega), eo]
      exact ⟨⟨by omega, by omega, a1.2.2⟩, a2, a3, a5, a7.1, a8⟩
    · rw [plT_ne ec (by omega)] at e
      obtain ⟨h1, h2⟩ := g1 c hc e
      refine ⟨fun hP => (h1 hP).of (fun k k1 k2 => plT_ne ec (by omega)) (by rw [lo 0 (by omega)]; exact (h1 hP).1.1) (by rw [ew]; exact (h1 hP).1.2.2) (by rw [el]; exact Nat.le_refl _) (by rw [lo _ (by have := hS.1.2.2.2; omega)]; exact (h1 hP).2.2.2.2.1) (by rw [eo]; exact (h1 hP).2.2.2.2.2), h2⟩
  · rw [lo 0 (by omega), el]
    by_cases ec : c = i
    · rw [ec, plT_cs (by omega), if_neg (by omega), if_neg (by omega), if_neg (by omega), if_neg (by omega), if_pos ⟨rfl, rfl⟩] at e
      cases e
    · rw [plT_ne ec (by omega)] at e
      exact g3 c hc e
  · have c5 := (hT.c3 (i := c) (by have := hS.1.2.2.2; omega)).2.2
    rw [c1, ← g5 c hc]
    by_cases ec : c = i
    · rw [ec, plT_k (by omega) (by omega)]
      exact grI_eq _ (by rw [← ec]; exact c5) (fun k k1 k2 => plT_k (by rw [← ec] at k2; omega) (by omega))
    · rw [plT_ne ec (by omega)]
      exact grI_eq _ c5 (fun k k1 k2 => plT_ne ec (by omega))
theorem GI_pSt {s t : Nat → Nat} (hS : GoodS s) (hT : GoodT s t) (hp : POK s t) (h : GI (fun _ => false) s t) : ∀ k, k ≤ cnt (wt t) (s 3) → GI (fun _ => false) s (pSt s t (-nI 1) k).1
  | 0, _ => h
  | k + 1, hk => by
    have ih := GI_pSt hS hT hp h k (by omega)
    have ig := pok_pSt hS hT hp (G := -nI 1) k (by omega)
    cases e : urg s t k with
    | none =>
      have e2 : pSt s t (-nI 1) (k + 1) = pSt s t (-nI 1) k := by rw [pSt, e]
      rw [e2]
      exact ih
    | some v =>
      have hv : v < s 3 := by
        have := (fstF_p _ _ _ e).2.1
        omega
      rw [pSt_s e]
      dsimp only
      unfold plX
      cases e3 : fa s (pSt s t (-nI 1) k).1 (-nI 1) v with
      | none => exact ih
      | some z =>
        obtain ⟨d, q, r, o⟩ := z
        have fl := faL_some e3
        exact GIplT hS ig.2 ih hv (by
          unfold flN
          rw [if_neg (by rw [fl.1.2.2]; simp), if_neg (by omega)]
          exact fl.2.2.2.2)
theorem fa_fl {s t : Nat → Nat} {G : Int32} {i d q r o : Nat} (h : fa s t G i = some (d, q, r, o)) : flN s t G i d q r o = 0 := by
  have fl := faL_some h
  unfold flN
  rw [if_neg (by rw [fl.1.2.2]; simp), if_neg (by omega)]
  exact fl.2.2.2.2
theorem tkL_ge {s t : Nat → Nat} {i p : Nat} (h : s (124 + i) = 1 → cs t i 1 ≤ s 164) : cs t i 1 ≤ tkL s t i p := by
  unfold tkL
  by_cases e : s (124 + i) = 1 ∧ s 164 < cs t i 1 + s (160 + p)
  · rw [if_pos e]; exact h e.1
  · rw [if_neg e]; omega
theorem nI_big {n : Nat} : nI (n + 4294967296) = nI n := by
  unfold nI
  refine Int32.toBitVec_inj.mp ?_
  show BitVec.ofNat 32 (n + 4294967296) = BitVec.ofNat 32 n
  apply BitVec.eq_of_toNat_eq
  simp
/-- a hearing that is taken away -/
theorem GItkT {P : Nat → Bool} {s t : Nat → Nat} (hS : GoodS s) (hT : GoodT s t) (h : GI P s t) {i p : Nat} (hi : i < s 3) (hp : p < 4) (h1 : cs t i 0 = 1) {Q : Nat → Bool} (hQ : ∀ c, c ≠ i → Q c = false → P c = false) : GI Q s (tkT s t i p) := by
  obtain ⟨g1, g2, g3, g4, g5⟩ := h
  have i12 : i < 12 := by have := hS.1.2.2.2; omega
  have ht1 := hT.2.1
  have lo : ∀ x, x < 46 → tkT s t i p x = t x := fun x hx => tkT_lo hx
  have ew : ∀ e, wkg (tkT s t i p) e = wkg t e := fun e => wkg_lo ht1 (fun x _ hx => lo x (by omega)) e
  have ne : ∀ c k, c ≠ i → k < 27 → cs (tkT s t i p) c k = cs t c k := fun c k hc hk => tkT_ne hT i12 hc hk
  have c3 := hT.c3 i12
  have tg := tkL_ge (p := p) (g4 i hi)
  have c1 : cs (tkT s t i p) i 1 = if cs t i 2 = 5 then cs t i 1 else tkL s t i p := by
    by_cases e : cs t i 2 = 5
    · rw [tkT_c5 e (by omega), if_neg (by omega), if_pos e]
    · rw [tkT_cs (by omega) (by omega), if_neg e]
      simp (disch := omega) only [if_neg, if_pos, true_and]
      have x3 : ¬ (1 = 7 + 4 * cs t i 2 + 3) := by omega
      have x2 : ¬ (1 = 7 + 4 * cs t i 2 + 2) := by omega
      have x1 : ¬ (1 = 7 + 4 * cs t i 2 + 1) := by omega
      have x0 : ¬ (1 = 7 + 4 * cs t i 2) := by omega
      simp [x3, x2, x1, x0]
  have el : ∀ c, limD s t c ≤ limD s (tkT s t i p) c := fun c => limD_mono (fun e => by rw [ew]; exact id) (by
    by_cases e : c = i
    · rw [e, c1]; split <;> omega
    · rw [ne c 1 e (by omega)]; exact Nat.le_refl _)
  have eo : ∀ c d q, ouT s (tkT s t i p) c d q = ouT s t c d q := fun c d q => ouT_eq (s := s) (fun v hv => lo (22 + v) (by have := hS.1.2.2.1; omega))
  refine ⟨fun c hc e => ?_, g2.of (fun j hj hr => ?_), fun c hc e => ?_, fun c hc e => ?_, fun c hc => ?_⟩
  · have ec : c ≠ i := fun q => by
      rw [q, tkT_0 hT i12] at e
      cases e
    rw [ne c 0 ec (by omega)] at e
    obtain ⟨h1, h2⟩ := g1 c hc e
    have hc12 : c < 12 := by have := hS.1.2.2.2; omega
    refine ⟨fun hP => ?_, Nat.le_trans (by rw [lo 0 (by omega)]; exact h2) (el c)⟩
    have u := h1 (hQ c ec hP)
    exact u.of (fun k k1 k2 => ne c k ec (by omega)) (by rw [lo 0 (by omega)]; exact u.1.1) (by rw [ew]; exact u.1.2.2) (el c) (by rw [lo _ (by omega)]; exact u.2.2.2.2.1) (by rw [eo]; exact u.2.2.2.2.2)
  · obtain ⟨e, hr2⟩ := tkT_hr hT i12 hr
    exact ⟨hr2, fun k k1 k2 => ne j k e (by omega)⟩
  · refine Nat.le_trans ?_ (el c)
    rw [lo 0 (by omega)]
    by_cases ec : c = i
    · rw [ec]; exact (g1 i hi h1).2
    · rw [ne c 0 ec (by omega)] at e
      exact g3 c hc e
  · by_cases ec : c = i
    · rw [ec] at e ⊢
      rw [c1]
      by_cases e2 : cs t i 2 = 5
      · rw [if_pos e2]; exact g4 i hi e
      · rw [if_neg e2]
        unfold tkL
        by_cases e3 : s (124 + i) = 1 ∧ s 164 < cs t i 1 + s (160 + p)
        · rw [if_pos e3]; exact Nat.le_refl _
        · rw [if_neg e3]
          have := fun q => e3 ⟨e, q⟩
          omega
    · rw [ne c 1 ec (by omega)]
      exact g4 c hc e
  · have hc12 : c < 12 := by have := hS.1.2.2.2; omega
    by_cases ec : c = i
    · rw [ec]
      by_cases e2 : cs t i 2 = 5
      · rw [c1, if_pos e2, tkT_c5 e2 (by omega), if_neg (by omega), ← g5 i hi]
        exact grI_eq _ c3.2.2 (fun k k1 k2 => by rw [tkT_c5 e2 (by omega), if_neg (by omega)])
      · have x : ∀ k, k < 27 → cs (tkT s t i p) i k = if k = 7 + 4 * cs t i 2 + 3 then tkL s t i p + 4294967296 - cs t i 1 else if k = 7 + 4 * cs t i 2 + 2 then cs t i 3 else if k = 7 + 4 * cs t i 2 + 1 then p else if k = 7 + 4 * cs t i 2 then t 0 else if k = 2 then cs t i 2 + 1 else if k = 1 then tkL s t i p else if k = 0 then 0 else cs t i k := fun k hk => by
          rw [tkT_cs (by omega) hk]
          simp only [true_and]
        rw [c1, if_neg e2, x 2 (by omega), if_neg (by omega), if_neg (by omega), if_neg (by omega), if_neg (by omega), if_pos rfl, grI, grI_eq (t := t) (t' := tkT s t i p) _ c3.2.2 (fun k k1 k2 => by rw [x k (by omega), if_neg (by omega), if_neg (by omega), if_neg (by omega), if_neg (by omega), if_neg (by omega), if_neg (by omega), if_neg (by omega)]), g5 i hi, x _ (by omega), if_pos rfl, nI_add, show cs t i 1 + (tkL s t i p + 4294967296 - cs t i 1) = tkL s t i p + 4294967296 by omega, nI_big]
    · rw [ne c 1 ec (by omega), ne c 2 ec (by omega), ← g5 c hc]
      exact grI_eq _ (hT.c3 hc12).2.2 (fun k k1 k2 => ne c k ec (by have := (hT.c3 hc12).2.2; omega))
