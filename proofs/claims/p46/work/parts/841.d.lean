variable {X : Kd}
def phT (t : Nat → Nat) (v : Nat) (f : Nat → Nat) : Nat → Nat := fun x => if x = 0 then v else if 46 ≤ x ∧ (x - 46) % 27 = 0 then f ((x - 46) / 27) else t x
theorem phT_0 {t f : Nat → Nat} {v : Nat} : phT t v f 0 = v := if_pos rfl
theorem phT_lo {t f : Nat → Nat} {v x : Nat} (h0 : 0 < x) (hx : x < 46) : phT t v f x = t x := by
  unfold phT
  rw [if_neg (by omega), if_neg (by omega)]
theorem phT_cs {t f : Nat → Nat} {v j k : Nat} (hk : k < 27) : cs (phT t v f) j k = if k = 0 then f j else cs t j k := by
  unfold cs phT
  rw [if_neg (by omega)]
  by_cases e : k = 0
  · rw [if_pos (by omega), if_pos e]
    congr 1
    omega
  · rw [if_neg (by omega), if_neg e]
def PH (t f : Nat → Nat) : Prop := ∀ i, i < 12 → f i ≤ 3 ∧ ((f i = 1 ∨ f i = 2) ↔ hrg t i = true)
theorem hrg_phT {t f : Nat → Nat} {v i : Nat} (h : PH t f) (hi : i < 12) : hrg (phT t v f) i = hrg t i := by
  have h1 := (h i hi).2
  have e : hrg (phT t v f) i = true ↔ hrg t i = true := by
    rw [← h1]
    unfold hrg
    rw [phT_cs (by omega), if_pos rfl]
    simp
  cases e1 : hrg t i
  · cases e2 : hrg (phT t v f) i
    · rfl
    · rw [e1] at e
      exact (e.mp e2).symm
  · exact e.mpr e1
theorem phT_good {s t f : Nat → Nat} {v : Nat} (hT : GoodT s t) (hv : v < 600) (hf : PH t f) : GoodT s (phT t v f) := by
  obtain ⟨g1, g2, g3, g4, g5, g6, g7⟩ := hT
  refine ⟨by rw [phT_0]; exact hv, by rw [phT_lo (by omega) (by omega)]; exact g2, fun k hk => ?_, fun j k hj hk => ?_, fun k hk => by rw [phT_lo (by omega) (by omega)]; exact g5 k hk, fun k hk => by rw [phT_lo (by omega) (by omega)]; exact g6 k hk, fun j hj => ?_⟩
  · rw [phT_lo (by omega) (by omega)] at hk
    rw [phT_lo (by omega) (by omega)]; exact g3 k hk
  · rw [phT_lo (by omega) (by omega)] at hj hk
    rw [phT_lo (by omega) (by omega), phT_lo (by omega) (by omega)]; exact g4 j k hj hk
  · have q := g7 j hj
    rw [hrg_phT hf hj, phT_cs (by omega), phT_cs (by omega), phT_cs (by omega), phT_cs (by omega), phT_cs (by omega), phT_cs (by omega), phT_cs (by omega), if_pos rfl, if_neg (by omega), if_neg (by omega), if_neg (by omega), if_neg (by omega), if_neg (by omega), if_neg (by omega)]
    exact ⟨(hf j hj).1, q.2⟩
theorem isHol_c2 {t t' : Nat → Nat} (h1 : t 1 ≤ 20) (ht : ∀ x, 0 < x → x < 46 → t' x = t x) {d : Nat} : isHol t' d = isHol t d := by
  unfold isHol
  rw [ht 1 (by omega) (by omega)]
  have : ∀ n c, c + n ≤ 20 → anyF (fun k => t' (2 + k) == d) c n = anyF (fun k => t (2 + k) == d) c n := by
    intro n
    induction n with
    | zero => intro c _; rfl
    | succ n ih =>
      intro c hc
      rw [anyF, anyF, ih (c + 1) (by omega), ht (2 + c) (by omega) (by omega)]
  exact this _ 0 (by omega)
theorem lim_c2 {t t' : Nat → Nat} (h : ∀ d, wkg t' d = wkg t d) : ∀ f l d, lim t' f l d = lim t f l d
  | 0, _, _ => rfl
  | f + 1, l, d => by rw [lim, lim, h, lim_c2 h f]
theorem limD_phT {s t f : Nat → Nat} {v i : Nat} (h1 : t 1 ≤ 20) : limD s (phT t v f) i = limD s t i := by
  unfold limD
  rw [phT_cs (by omega), if_neg (by omega)]
  exact lim_c2 (fun d => by unfold wkg; rw [isHol_c2 h1 (fun x h0 hx => phT_lo h0 hx)]) _ _ _
def pz (f : Nat → Nat) (i e : Nat) : Nat → Nat := fun j => if j = i then e else f j
theorem phT_ups {t f : Nat → Nat} {v i e x : Nat} : phT t v (pz f i e) x = ups (phT t v f) (46 + 27 * i + 0) e x := by
  unfold phT ups pz
  try dsimp only
  by_cases h0 : x = 46 + 27 * i + 0
  · rw [if_pos h0, if_neg (by omega), if_pos (by omega), if_pos (by omega)]
  · rw [if_neg h0]
    by_cases h1 : x = 0
    · rw [if_pos h1, if_pos h1]
    · rw [if_neg h1, if_neg h1]
      by_cases h2 : 46 ≤ x ∧ (x - 46) % 27 = 0
      · rw [if_pos h2, if_pos h2, if_neg (by omega)]
      · rw [if_neg h2, if_neg h2]
theorem PH_pz {t f : Nat → Nat} (h : PH t f) {i e : Nat} (he : e ≤ 3) (h2 : i < 12 → ((e = 1 ∨ e = 2) ↔ (f i = 1 ∨ f i = 2))) : PH t (pz f i e) := fun j hj => by
  unfold pz
  by_cases q : j = i
  · subst q
    rw [if_pos rfl]
    exact ⟨he, (h2 hj).trans (h j hj).2⟩
  · rw [if_neg q]; exact h j hj
theorem HX.ph {w : Wd} {a b : Nat} {s t f : Nat → Nat} {v i e : Nat} (h : HX w a b s (phT t v f)) (hi : i < 12) (hT : GoodT s t) (hf0 : PH t f) (hf : PH t (pz f i e)) : HX (sI w 700 (a + 6 + 2 * i) (nI e)) a b s (phT t v (pz f i e)) := by
  have hv : v < 600 := by have := h.gt.1; rw [phT_0] at this; exact this
  refine h.cse (i := i) hi ofi_sIx (fun x hx => ?_) (fun j k _ hj hk => ?_) (phT_good hT hv hf) ?_
  · by_cases h0 : x = 0
    · rw [h0, phT_0, phT_0]
    · rw [phT_lo (by omega) hx, phT_lo (by omega) hx]
  · rw [phT_cs hk, phT_cs hk]
    by_cases k0 : k = 0
    · rw [if_pos k0, if_pos k0]; exact if_neg hj
    · rw [if_neg k0, if_neg k0]
  · have q := h.2.2.2.1.2.2.2.2 i hi
    have e1 : hrg (phT t v (pz f i e)) i = hrg (phT t v f) i := by rw [hrg_phT hf hi, hrg_phT hf0 hi]
    have ek : ∀ k, 0 < k → k < 27 → cs (phT t v (pz f i e)) i k = cs (phT t v f) i k := fun k h0 hk => by rw [phT_cs hk, phT_cs hk, if_neg (by omega), if_neg (by omega)]
    rw [e1, ek 1 (by omega) (by omega), ek 2 (by omega) (by omega), ek 3 (by omega) (by omega), ek 4 (by omega) (by omega), ek 5 (by omega) (by omega), ek 6 (by omega) (by omega)]
    have c3 := (h.gt.c3 hi).2.2
    refine ⟨?_, ?_, ?_, fun z => ?_, fun z => ?_, fun k hk => ?_⟩
    · rw [wI_sI, if_pos ⟨rfl, rfl⟩, phT_cs (by omega), if_pos rfl]; simp [pz]
    · rw [wI_sI, if_neg (by omega)]; exact q.2.1
    · rw [wI_sI, if_neg (by omega)]; exact q.2.2.1
    · rw [wI_sI, wI_sI, wI_sI, wI_sI, if_neg (by omega), if_neg (by omega), if_neg (by omega), if_neg (by omega)]; exact q.2.2.2.1 z
    · rw [wI_sI, wI_sI, wI_sI, wI_sI, if_neg (by omega), if_neg (by omega), if_neg (by omega), if_neg (by omega)]; exact q.2.2.2.2.1 z
    · rw [aI_sI, ek (7 + k) (by omega) (by omega)]; exact q.2.2.2.2.2 k hk
theorem HX.day {w : Wd} {a b : Nat} {s t t' : Nat → Nat} (h : HX w a b s t) (ht : ∀ x, 0 < x → x < 46 → t' x = t x) (hc : ∀ j k, j < 12 → k < 27 → cs t' j k = cs t j k) (hT : GoodT s t') : HX (sI w 1001 a (nI (t' 0))) a b s t' := by
  have hab : a + 30 ≤ b ∨ b + 34 ≤ a := (by decide : ∀ a, a ∈ SA → ∀ b, b ∈ SU → a + 30 ≤ b ∨ b + 34 ≤ a) a h.2.1.1 b h.2.1.2.1
  have g2 := h.gt.2.1
  refine ⟨h.1.sI, h.2.1, ?_, ?_, h.gs, hT⟩
  · obtain ⟨u1, u2, u3, u4, u5, u6, u7, u8⟩ := h.2.2.1
    refine ⟨fun k hk => ?_, u2, u3, u4, u5, fun p hp => ?_, u7, ?_⟩
    · rw [wI_sI, if_neg (by omega)]; exact u1 k hk
    · rw [wI_sI, wI_sI, wI_sI, wI_sI, wI_sI, if_neg (by omega), if_neg (by omega), if_neg (by omega), if_neg (by omega), if_neg (by omega)]; exact u6 p hp
    · rw [wI_sI, if_neg (by omega)]; exact u8
  · obtain ⟨v1, v2, v3, v4, v5⟩ := h.2.2.2.1
    have hs := h.gs.1
    refine ⟨⟨?_, ?_⟩, fun d hd => ?_, fun p hp => ?_, fun p hp => ?_, fun p hp => ?_⟩
    · rw [wI_sI, if_pos ⟨rfl, rfl⟩]
    · rw [wI_sI, if_neg (by omega), ht 1 (by omega) (by omega)]; exact v1.2
    · rw [isHol_c2 g2 ht]; exact v2 d hd
    · rw [ht (22 + p) (by omega) (by omega)]; exact v3 p hp
    · rw [ht (34 + p) (by omega) (by omega)]; exact v4 p hp
    · have q := v5 p hp
      have c3 := (h.gt.c3 hp).2.2
      rw [hrg_congr (hc p 0 hp (by omega)), hc p 0 hp (by omega), hc p 1 hp (by omega), hc p 2 hp (by omega), hc p 3 hp (by omega), hc p 4 hp (by omega), hc p 5 hp (by omega), hc p 6 hp (by omega)]
      simp only [wI_sI]
      rw [if_neg (by omega), if_neg (by omega), if_neg (by omega), if_neg (by omega), if_neg (by omega), if_neg (by omega), if_neg (by omega)]
      exact ⟨q.1, q.2.1, q.2.2.1, q.2.2.2.1, q.2.2.2.2.1, fun k hk => by rw [aI_sI, hc p (7 + k) hp (by omega)]; exact q.2.2.2.2.2 k hk⟩
/-- the phases when so many days have passed -/
def fin (s t : Nat → Nat) (n i : Nat) : Nat := if i < s 3 ∧ cs t i 0 = 1 ∧ cs t i 3 < t 0 + n then 2 else if i < s 3 ∧ cs t i 0 = 0 ∧ limD s t i < t 0 + n ∧ 0 < n then 3 else cs t i 0
theorem fin_PH {s t : Nat → Nat} (hT : GoodT s t) (n : Nat) : PH t (fin s t n) := fun i hi => by
  have c3 := (hT.c3 hi).1
  unfold fin hrg
  by_cases e1 : i < s 3 ∧ cs t i 0 = 1 ∧ cs t i 3 < t 0 + n
  · rw [if_pos e1]; simp [e1.2.1]
  · rw [if_neg e1]
    by_cases e2 : i < s 3 ∧ cs t i 0 = 0 ∧ limD s t i < t 0 + n ∧ 0 < n
    · rw [if_pos e2]; simp [e2.2.1]
    · rw [if_neg e2]; simp [c3]
def hdN (s t : Nat → Nat) (n : Nat) : Nat := cnt (fun i => cs t i 0 == 1 && decide (cs t i 3 < t 0 + n)) (s 3)
def PlanOK (t : Nat → Nat) : Prop := ∀ i, i < 12 → cs t i 0 = 1 → t 0 ≤ cs t i 3

