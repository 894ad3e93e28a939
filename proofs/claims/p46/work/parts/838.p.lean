variable {X : Kd}
def ups (t : Nat → Nat) (p v : Nat) : Nat → Nat := fun x => if x = p then v else t x
theorem ups_ne {t : Nat → Nat} {p v x : Nat} (h : x ≠ p) : ups t p v x = t x := if_neg h
theorem ups_eq {t : Nat → Nat} {p v : Nat} : ups t p v p = v := if_pos rfl
theorem cs_ups {t : Nat → Nat} {i k v j l : Nat} (hk : k < 27) (hl : l < 27) : cs (ups t (46 + 27 * i + k) v) j l = if j = i ∧ l = k then v else cs t j l := by
  unfold cs ups
  by_cases e : j = i ∧ l = k
  · rw [if_pos e, if_pos (by rw [e.1, e.2])]
  · rw [if_neg e, if_neg (fun q => e (by omega))]
theorem ofi_sIx {A : Nat → Prop} {w : Wd} {f x : Nat} {v : Int32} : Ofi (fun _ y => y = x) A w (sI w f x v) := ofi_sI rfl
theorem Ofi.sIx {A : Nat → Prop} {w0 w : Wd} {f x : Nat} {v : Int32} (h : Ofi (fun _ y => y = x) A w0 w) : Ofi (fun _ y => y = x) A w0 (sI w f x v) := h.trans ofi_sIx
theorem ofi_tIx {S : Nat → Nat → Prop} {w : Wd} {x i : Nat} {v : Int32} : Ofi S (fun y => y = x) w (tI w x i v) := ofi_tI rfl
theorem Ofi.tIx {S : Nat → Nat → Prop} {w0 w : Wd} {x i : Nat} {v : Int32} (h : Ofi S (fun y => y = x) w0 w) : Ofi S (fun y => y = x) w0 (tI w x i v) := h.trans ofi_tIx
def plT (t : Nat → Nat) (i d q r o : Nat) : Nat → Nat := ups (ups (ups (ups (ups t (46 + 27 * i + 0) 1) (46 + 27 * i + 3) d) (46 + 27 * i + 4) q) (46 + 27 * i + 5) r) (46 + 27 * i + 6) o
theorem plT_lo {t : Nat → Nat} {i d q r o x : Nat} (hx : x < 46) : plT t i d q r o x = t x := by
  unfold plT
  rw [ups_ne (by omega), ups_ne (by omega), ups_ne (by omega), ups_ne (by omega), ups_ne (by omega)]
theorem plT_cs {t : Nat → Nat} {i d q r o j k : Nat} (hk : k < 27) : cs (plT t i d q r o) j k = if j = i ∧ k = 6 then o else if j = i ∧ k = 5 then r else if j = i ∧ k = 4 then q else if j = i ∧ k = 3 then d else if j = i ∧ k = 0 then 1 else cs t j k := by
  unfold plT
  rw [cs_ups (by omega) hk, cs_ups (by omega) hk, cs_ups (by omega) hk, cs_ups (by omega) hk, cs_ups (by omega) hk]
theorem plT_ne {t : Nat → Nat} {i d q r o j k : Nat} (hj : j ≠ i) (hk : k < 27) : cs (plT t i d q r o) j k = cs t j k := by
  rw [plT_cs hk, if_neg (fun z => hj z.1), if_neg (fun z => hj z.1), if_neg (fun z => hj z.1), if_neg (fun z => hj z.1), if_neg (fun z => hj z.1)]
theorem plT_k {t : Nat → Nat} {i d q r o k : Nat} (hk : k < 27) (h : k ≠ 0 ∧ k ≠ 3 ∧ k ≠ 4 ∧ k ≠ 5 ∧ k ≠ 6) : cs (plT t i d q r o) i k = cs t i k := by
  rw [plT_cs hk, if_neg (by omega), if_neg (by omega), if_neg (by omega), if_neg (by omega), if_neg (by omega)]
theorem hrg_congr {t t' : Nat → Nat} {j : Nat} (h : cs t' j 0 = cs t j 0) : hrg t' j = hrg t j := by unfold hrg; rw [h]
theorem GoodT.cse {s t t' : Nat → Nat} (h : GoodT s t) {i : Nat} (ht : ∀ x, x < 46 → t' x = t x) (hj : ∀ j k, j < 12 → j ≠ i → k < 27 → cs t' j k = cs t j k) (hi : cs t' i 0 ≤ 3 ∧ cs t' i 1 ≤ 30 * cs t' i 2 ∧ cs t' i 2 ≤ 5 ∧ (hrg t' i = true → i < s 3 ∧ cs t' i 3 < 600 ∧ cs t' i 4 + s (100 + i) ≤ 8 ∧ cs t' i 5 < s 0 ∧ cs t' i 6 < s 1)) : GoodT s t' := by
  obtain ⟨g1, g2, g3, g4, g5, g6, g7⟩ := h
  refine ⟨by rw [ht 0 (by omega)]; exact g1, by rw [ht 1 (by omega)]; exact g2, fun k hk => ?_, fun j k hj hk => ?_, fun k hk => by rw [ht _ (by omega)]; exact g5 k hk, fun k hk => by rw [ht _ (by omega)]; exact g6 k hk, fun j hjj => ?_⟩
  · rw [ht 1 (by omega)] at hk
    rw [ht _ (by omega)]; exact g3 k hk
  · rw [ht 1 (by omega)] at hj hk
    rw [ht _ (by omega), ht _ (by omega)]; exact g4 j k hj hk
  · by_cases e : j = i
    · subst e; exact hi
    · rw [hrg_congr (hj j 0 hjj e (by omega)), hj j 0 hjj e (by omega), hj j 1 hjj e (by omega), hj j 2 hjj e (by omega), hj j 3 hjj e (by omega), hj j 4 hjj e (by omega), hj j 5 hjj e (by omega), hj j 6 hjj e (by omega)]
      exact g7 j hjj
theorem isHol_congr {t t' : Nat → Nat} (h1 : t 1 ≤ 20) (ht : ∀ x, x < 46 → t' x = t x) {d : Nat} : isHol t' d = isHol t d := by
  unfold isHol
  rw [ht 1 (by omega)]
  have : ∀ n c, c + n ≤ 20 → anyF (fun k => t' (2 + k) == d) c n = anyF (fun k => t (2 + k) == d) c n := by
    intro n
    induction n with
    | zero => intro c _; rfl
    | succ n ih =>
      intro c hc
      rw [anyF, anyF, ih (c + 1) (by omega), ht (2 + c) (by omega)]
  exact this _ 0 (by omega)
theorem HX.cse {w w' : Wd} {a b : Nat} {s t t' : Nat → Nat} (h : HX w a b s t) {i : Nat} (hi : i < 12) (o : Ofi (fun _ x => x = a + 6 + 2 * i) (fun x => x = a + 7 + 2 * i) w w') (ht : ∀ x, x < 46 → t' x = t x) (hj : ∀ j k, j < 12 → j ≠ i → k < 27 → cs t' j k = cs t j k) (hT : GoodT s t')
    (h5 : wI w' 700 (a + 6 + 2 * i) = nI (cs t' i 0) ∧ wI w' 701 (a + 6 + 2 * i) = nI (cs t' i 1) ∧ wI w' 706 (a + 6 + 2 * i) = nI (cs t' i 2) ∧
    (hrg t' i = true → wI w' 702 (a + 6 + 2 * i) = nI (cs t' i 3) ∧ wI w' 703 (a + 6 + 2 * i) = nI (cs t' i 4) ∧ wI w' 704 (a + 6 + 2 * i) = nI (cs t' i 5) ∧ wI w' 705 (a + 6 + 2 * i) = nI (cs t' i 6)) ∧
    (hrg t' i = false → wI w' 702 (a + 6 + 2 * i) = -nI 1 ∧ wI w' 703 (a + 6 + 2 * i) = -nI 1 ∧ wI w' 704 (a + 6 + 2 * i) = -nI 1 ∧ wI w' 705 (a + 6 + 2 * i) = -nI 1) ∧
    (∀ k, k < 4 * cs t' i 2 → aI w' (a + 7 + 2 * i) k = nI (cs t' i (7 + k)))) : HX w' a b s t' := by
  have hab : a + 6 + 2 * i < b ∨ b + 34 ≤ a := (by decide : ∀ a, a ∈ SA → ∀ b, b ∈ SU → a + 6 + 2 * 12 < b ∨ b + 34 ≤ a) a h.2.1.1 b h.2.1.2.1 |>.imp (fun q => by omega) (fun q => q)
  have hs := h.gs.1
  have g2 := h.gt.2.1
  refine ⟨o.FX h.1, ⟨h.2.1.1, h.2.1.2.1, by rw [o.1.1]; exact h.2.1.2.2⟩, ?_, ?_, h.gs, hT⟩
  · obtain ⟨u1, u2, u3, u4, u5, u6, u7, u8⟩ := h.2.2.1
    refine ⟨fun k hk => ?_, fun r hr => ?_, fun p hp => ?_, fun p hp k hk => ?_, fun p hp => ?_, fun p hp => ?_, fun k hk => ?_, ?_⟩
    · rw [o.2.1 _ _ (by omega)]; exact u1 k hk
    · rw [o.2.2 _ (by omega)]; exact u2 r hr
    · rw [o.2.2 _ (by omega)]; exact u3 p hp
    · rw [o.2.2 (b + 4) (by omega), o.2.2 (b + 5) (by omega)]; exact u4 p hp k hk
    · rw [o.2.2 (b + 6) (by omega), o.2.2 (b + 8) (by omega), o.2.2 (b + 9) (by omega)]; exact u5 p hp
    · rw [o.2.1 300 (b + 22 + p) (by omega), o.2.1 301 (b + 22 + p) (by omega), o.2.1 302 (b + 22 + p) (by omega), o.1.2.2.1, o.2.1 304 (b + 22 + p) (by omega), o.2.1 305 (b + 22 + p) (by omega)]; exact u6 p hp
    · rw [o.2.2 _ (by omega)]; exact u7 k hk
    · rw [o.2.1 _ _ (by omega)]; exact u8
  · obtain ⟨v1, v2, v3, v4, v5⟩ := h.2.2.2.1
    refine ⟨⟨?_, ?_⟩, fun d hd => ?_, fun p hp => ?_, fun p hp => ?_, fun p hp => ?_⟩
    · rw [o.2.1 _ _ (by omega), ht 0 (by omega)]; exact v1.1
    · rw [o.2.1 _ _ (by omega), ht 1 (by omega)]; exact v1.2
    · rw [o.2.2 _ (by omega), isHol_congr g2 ht]; exact v2 d hd
    · rw [o.2.2 _ (by omega), ht _ (by omega)]; exact v3 p hp
    · rw [o.2.2 _ (by omega), ht _ (by omega)]; exact v4 p hp
    · by_cases e : p = i
      · subst e; exact h5
      · have q := v5 p hp
        rw [hrg_congr (hj p 0 hp e (by omega)), hj p 0 hp e (by omega), hj p 1 hp e (by omega), hj p 2 hp e (by omega), hj p 3 hp e (by omega), hj p 4 hp e (by omega), hj p 5 hp e (by omega), hj p 6 hp e (by omega), o.2.1 700 _ (by omega), o.2.1 701 _ (by omega), o.2.1 702 _ (by omega), o.2.1 703 _ (by omega), o.2.1 704 _ (by omega), o.2.1 705 _ (by omega), o.2.1 706 _ (by omega), o.2.2 (a + 7 + 2 * p) (by omega)]
        refine ⟨q.1, q.2.1, q.2.2.1, q.2.2.2.1, q.2.2.2.2.1, fun k hk => ?_⟩
        have c3 := (h.gt.c3 hp).2.2
        rw [hj p (7 + k) hp e (by omega)]
        exact q.2.2.2.2.2 k hk
theorem plT_good {s t : Nat → Nat} (hT : GoodT s t) {i d q r o : Nat} (hi : i < s 3) (hs : s 3 ≤ 12) (hd : t 0 ≤ d ∧ d < 600) (hq : q + s (100 + i) < 9) (hr : r < s 0) (ho : o < s 1) : GoodT s (plT t i d q r o) := by
  refine hT.cse (i := i) (fun x hx => plT_lo hx) (fun j k hj hne hk => plT_ne hne hk) ?_
  have c3 := hT.c3 (i := i) (by omega)
  rw [plT_cs (by omega), plT_k (k := 1) (by omega) (by omega), plT_k (k := 2) (by omega) (by omega)]
  refine ⟨by simp, c3.2.1, c3.2.2, fun _ => ⟨hi, ?_⟩⟩
  rw [plT_cs (by omega), plT_cs (by omega), plT_cs (by omega), plT_cs (by omega)]
  simp
  omega
theorem x_setHearing {w : Wd} {a b : Nat} {s t : Nat → Nat} (h : HX w a b s t) {i d q r o : Nat} (hi : i < s 3) (hd : t 0 ≤ d ∧ d < 600) (hq : q + s (100 + i) < 9) (hr : r < s 0) (ho : o < s 1) : ∃ w', f_X7_setHearing (Kx X) (a + 6 + 2 * i) (nI d) (nI q) (nI r) (nI o) w = some w' ∧ HX w' a b s (plT t i d q r o) ∧ Ofi (fun _ x => x = a + 6 + 2 * i) NA w w' := by
  have h12 := h.gs.1.2.2.2
  refine ⟨_, rfl, ?_, ?_⟩
  · refine h.cse (i := i) (by omega) ofi_sIx.sIx.sIx.sIx.sIx (fun x hx => plT_lo hx) (fun j k hj hne hk => plT_ne hne hk) (plT_good h.gt hi h12 hd hq hr ho) ?_
    have eh : hrg (plT t i d q r o) i = true := by unfold hrg; rw [plT_cs (by omega)]; simp
    refine ⟨?_, ?_, ?_, fun _ => ⟨?_, ?_, ?_, ?_⟩, fun q => (by rw [eh] at q; cases q), fun k hk => ?_⟩
    · rw [plT_cs (by omega)]; simp [wI_sI]; rfl
    · rw [plT_k (by omega) (by omega)]; simp [wI_sI]; exact h.p1 (by omega)
    · rw [plT_k (by omega) (by omega)]; simp [wI_sI]; exact h.p6 (by omega)
    · rw [plT_cs (by omega)]; simp [wI_sI]
    · rw [plT_cs (by omega)]; simp [wI_sI]
    · rw [plT_cs (by omega)]; simp [wI_sI]
    · rw [plT_cs (by omega)]; simp [wI_sI]
    · have c3 := (h.gt.c3 (i := i) (by omega)).2.2
      rw [plT_k (k := 2) (by omega) (by omega)] at hk
      rw [plT_k (by omega) (by omega)]
      simp only [aI_sI]
      exact (h.2.2.2.1.2.2.2.2 i (by omega)).2.2.2.2.2 k hk
  · exact ofi_sIx.sIx.sIx.sIx.sIx
def plX (s t : Nat → Nat) (G : Int32) (v : Nat) : Nat → Nat := match fa s t G v with
  | some (d, q, r, o) => plT t v d q r o
  | none => t
theorem fa_good {s t : Nat → Nat} {G : Int32} {i d q r o : Nat} (hS : GoodS s) (hT : GoodT s t) (hi : i < s 3) (h : fa s t G i = some (d, q, r, o)) : (t 0 ≤ d ∧ d < 600) ∧ q + s (100 + i) < 9 ∧ r < s 0 ∧ o < s 1 := by
  have l3 := limD_le hS hT hi
  have := faL_some h
  generalize limD s t i = L at *
  omega
/-- the states while all waiting cases are planned -/
def pSt (s t0 : Nat → Nat) (G : Int32) : Nat → (Nat → Nat) × Nat
  | 0 => (t0, 0)
  | k + 1 => match urg s t0 k with
    | some v => (plX s (pSt s t0 G k).1 G v, (pSt s t0 G k).2 + bn (fa s (pSt s t0 G k).1 G v).isSome)
    | none => pSt s t0 G k
theorem pSt_le {s t0 : Nat → Nat} {G : Int32} : ∀ k, (pSt s t0 G k).2 ≤ k
  | 0 => Nat.le_refl _
  | k + 1 => by
    have := pSt_le (s := s) (t0 := t0) (G := G) k
    rw [pSt]
    cases urg s t0 k with
    | none => simp only; omega
    | some v =>
      have := bn_le (fa s (pSt s t0 G k).1 G v).isSome
      simp only; omega

