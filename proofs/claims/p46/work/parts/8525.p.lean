variable {X : Kd}
theorem PlanOK.plT {t : Nat → Nat} (h : PlanOK t) {i d q r o : Nat} (hd : t 0 ≤ d) : PlanOK (plT t i d q r o) := fun j hj e => by
  rw [plT_lo (by omega)]
  by_cases ei : j = i
  · subst ei
    rw [plT_cs (by omega), if_neg (by omega), if_neg (by omega), if_neg (by omega), if_pos ⟨rfl, rfl⟩]
    exact hd
  · rw [plT_ne ei (by omega)] at e ⊢
    exact h j hj e
theorem plX_0 {s t : Nat → Nat} {G : Int32} {v : Nat} : plX s t G v 0 = t 0 := by
  unfold plX
  cases fa s t G v with
  | none => rfl
  | some z =>
    obtain ⟨d, q, r, o⟩ := z
    exact plT_lo (by omega)
theorem plX_eq {s t : Nat → Nat} {G : Int32} {v : Nat} : plX s t G v = match fa s t G v with
  | some (d, q, r, o) => plT t v d q r o
  | none => t := rfl
theorem PlanOK.plX {s t : Nat → Nat} (h : PlanOK t) {G : Int32} {v : Nat} : PlanOK (plX s t G v) := by
  rw [plX_eq]
  cases e : fa s t G v with
  | none => exact h
  | some z =>
    obtain ⟨d, q, r, o⟩ := z
    exact h.plT (faL_some e).1.1
theorem pSt_ok {s t : Nat → Nat} (h : PlanOK t) {G : Int32} : ∀ k, PlanOK (pSt s t G k).1 ∧ (pSt s t G k).1 0 = t 0
  | 0 => ⟨h, rfl⟩
  | k + 1 => by
    have ih := pSt_ok h (s := s) (G := G) k
    cases e : urg s t k with
    | none =>
      have e2 : pSt s t G (k + 1) = pSt s t G k := by rw [pSt, e]
      rw [e2]
      exact ih
    | some v =>
      rw [pSt_s e]
      exact ⟨ih.1.plX, by
        dsimp only
        rw [plX_0]
        exact ih.2⟩
theorem tkT_ok {s t : Nat → Nat} (hT : GoodT s t) (h : PlanOK t) {i p : Nat} (hi : i < 12) : PlanOK (tkT s t i p) := fun j hj e => by
  rw [tkT_lo (by omega)]
  by_cases ei : j = i
  · subst ei
    rw [tkT_0 hT hi] at e
    omega
  · rw [tkT_ne hT hi ei (by omega)] at e ⊢
    exact h j hj e
theorem twT_ok {s t : Nat → Nat} (hS : GoodS s) (hT : GoodT s t) (h : PlanOK t) {P : Nat → Bool} {p : Nat} (hp : p < 4) : ∀ c, c ≤ 12 → PlanOK (twT s t P p c)
  | 0, _ => h
  | c + 1, hc => by
    rw [twT_succ]
    by_cases e : P c = true
    · rw [if_pos e]
      exact tkT_ok (twT_ge hS hT hp c (by omega)).1 (twT_ok hS hT h hp c (by omega)) (by omega)
    · rw [if_neg e]
      exact twT_ok hS hT h hp c (by omega)
theorem fin_ok {s t : Nat → Nat} (hT : GoodT s t) (h : PlanOK t) (n : Nat) : PlanOK (phT t (t 0 + n) (fin s t n)) := fun j hj e => by
  rw [phT_0]
  rw [phT_cs (by omega), if_pos rfl] at e
  rw [phT_cs (by omega), if_neg (by omega)]
  unfold fin at e
  by_cases e1 : j < s 3 ∧ cs t j 0 = 1 ∧ cs t j 3 < t 0 + n
  · rw [if_pos e1] at e; omega
  · rw [if_neg e1] at e
    by_cases e2 : j < s 3 ∧ cs t j 0 = 0 ∧ limD s t j < t 0 + n ∧ 0 < n
    · rw [if_pos e2] at e; omega
    · rw [if_neg e2] at e
      have hr := (hT.hr (i := j) hj (by unfold hrg; rw [e]; rfl)).1
      by_cases e3 : cs t j 3 < t 0 + n
      · exact absurd ⟨hr, e, e3⟩ e1
      · omega
def RmOK (s t : Nat → Nat) : Prop := ∀ i j, i < 12 → j < 12 → i ≠ j → hrg t i = true → hrg t j = true → cs t i 3 = cs t j 3 → cs t i 5 = cs t j 5 → cs t i 4 + s (100 + i) ≤ cs t j 4 ∨ cs t j 4 + s (100 + j) ≤ cs t i 4
theorem RmOK.of {s t t' : Nat → Nat} (h : RmOK s t) (e : ∀ i, i < 12 → hrg t' i = true → hrg t i = true ∧ cs t' i 3 = cs t i 3 ∧ cs t' i 4 = cs t i 4 ∧ cs t' i 5 = cs t i 5) : RmOK s t' := fun i j hi hj ij h1 h2 h3 h5 => by
  obtain ⟨a1, a2, a3, a4⟩ := e i hi h1
  obtain ⟨b1, b2, b3, b4⟩ := e j hj h2
  rw [a2, b2] at h3
  rw [a4, b4] at h5
  rw [a3, b3]
  exact h i j hi hj ij a1 b1 h3 h5
def POK (s t : Nat → Nat) : Prop := PlanOK t ∧ RmOK s t
theorem pbN_rm {s t : Nat → Nat} {G : Int32} {i d q r o : Nat} (h : pbN s t G i d q r o = 0) {j : Nat} (hj : j < s 3) (ij : j ≠ i) (hr : hrg t j = true) (e3 : cs t j 3 = d) (e5 : cs t j 5 = r) : cs t j 4 + s (100 + j) ≤ q ∨ q + s (100 + i) ≤ cs t j 4 := by
  have h1 : rmT s t i d q r = false := by
    unfold pbN at h
    cases e : rmT s t i d q r with
    | false => rfl
    | true =>
      rw [e] at h
      split at h
      · omega
      · rw [if_pos rfl] at h; omega
  by_cases e : cs t j 4 < q + s (100 + i) ∧ q < cs t j 4 + s (100 + j)
  · have h2 : rmT s t i d q r = true := (anyF_iff _ _).mpr ⟨j, by omega, by omega, by
      unfold mts
      rw [hr, e3, e5, beq_self_eq_true, beq_self_eq_true, decide_eq_true e, beq_false_of_ne ij]
      rfl⟩
    rw [h1] at h2
    cases h2
  · omega
theorem rm_plT {s t : Nat → Nat} (hT : GoodT s t) (h : RmOK s t) {G : Int32} {i d q r o : Nat} (hz : pbN s t G i d q r o = 0) : RmOK s (plT t i d q r o) := fun a b ha hb ab h1 h2 h3 h5 => by
  have hr : ∀ j, j ≠ i → hrg (plT t i d q r o) j = hrg t j := fun j hj => by unfold hrg; rw [plT_ne hj (by omega)]
  have k3 : cs (plT t i d q r o) i 3 = d := by rw [plT_cs (by omega), if_neg (by omega), if_neg (by omega), if_neg (by omega), if_pos ⟨rfl, rfl⟩]
  have k4 : cs (plT t i d q r o) i 4 = q := by rw [plT_cs (by omega), if_neg (by omega), if_neg (by omega), if_pos ⟨rfl, rfl⟩]
  have k5 : cs (plT t i d q r o) i 5 = r := by rw [plT_cs (by omega), if_neg (by omega), if_pos ⟨rfl, rfl⟩]
  by_cases ea : a = i
  · have eb : b ≠ i := fun q => ab (ea.trans q.symm)
    rw [ea, k3, plT_ne eb (by omega)] at h3
    rw [ea, k5, plT_ne eb (by omega)] at h5
    rw [hr b eb] at h2
    rw [ea, k4, plT_ne eb (by omega)]
    have := pbN_rm hz (hT.hr hb h2).1 eb h2 h3.symm h5.symm
    omega
  · by_cases eb : b = i
    · rw [eb, k3, plT_ne ea (by omega)] at h3
      rw [eb, k5, plT_ne ea (by omega)] at h5
      rw [hr a ea] at h1
      rw [eb, k4, plT_ne ea (by omega)]
      have := pbN_rm hz (hT.hr ha h1).1 ea h1 h3 h5
      omega
    · rw [hr a ea] at h1
      rw [hr b eb] at h2
      rw [plT_ne ea (by omega), plT_ne eb (by omega)] at h3 h5
      rw [plT_ne ea (by omega), plT_ne eb (by omega)]
      exact h a b ha hb ab h1 h2 h3 h5
theorem pok_plT {s t : Nat → Nat} (hT : GoodT s t) (h : POK s t) {G : Int32} {i d q r o : Nat} (hd : t 0 ≤ d) (hz : pbN s t G i d q r o = 0) : POK s (plT t i d q r o) := ⟨h.1.plT hd, rm_plT hT h.2 hz⟩
theorem pok_pSt {s t : Nat → Nat} (hS : GoodS s) (hT : GoodT s t) (h : POK s t) {G : Int32} : ∀ k, k ≤ cnt (wt t) (s 3) → POK s (pSt s t G k).1 ∧ GoodT s (pSt s t G k).1
  | 0, _ => ⟨h, hT⟩
  | k + 1, hk => by
    have ih := pok_pSt hS hT h (G := G) k (by omega)
    cases e : urg s t k with
    | none =>
      have e2 : pSt s t G (k + 1) = pSt s t G k := by rw [pSt, e]
      rw [e2]
      exact ih
    | some v =>
      have hv : v < s 3 := by
        have := (fstF_p _ _ _ e).2.1
        omega
      rw [pSt_s e]
      dsimp only
      unfold plX
      cases e3 : fa s (pSt s t G k).1 G v with
      | none => exact ih
      | some z =>
        obtain ⟨d, q, r, o⟩ := z
        have fl := faL_some e3
        have fg := fa_good hS ih.2 hv e3
        exact ⟨pok_plT ih.2 ih.1 fl.1.1 fl.2.2.2.2, plT_good ih.2 hv hS.1.2.2.2 fg.1 fg.2.1 fg.2.2.1 fg.2.2.2⟩
theorem tkT_hr {s t : Nat → Nat} (hT : GoodT s t) {i p : Nat} (hi : i < 12) {j : Nat} (h : hrg (tkT s t i p) j = true) : j ≠ i ∧ hrg t j = true := by
  have e : j ≠ i := fun q => by
    rw [q] at h
    unfold hrg at h
    rw [tkT_0 hT hi] at h
    cases h
  refine ⟨e, ?_⟩
  unfold hrg at h ⊢
  rw [tkT_ne hT hi e (by omega)] at h
  exact h
theorem pok_tkT {s t : Nat → Nat} (hT : GoodT s t) (h : POK s t) {i p : Nat} (hi : i < 12) : POK s (tkT s t i p) := ⟨tkT_ok hT h.1 hi, h.2.of (fun j hj hr => by
  obtain ⟨e, hr2⟩ := tkT_hr hT hi hr
  exact ⟨hr2, tkT_ne hT hi e (by omega), tkT_ne hT hi e (by omega), tkT_ne hT hi e (by omega)⟩)⟩
theorem pok_twT {s t : Nat → Nat} (hS : GoodS s) (hT : GoodT s t) (h : POK s t) {P : Nat → Bool} {p : Nat} (hp : p < 4) : ∀ c, c ≤ 12 → POK s (twT s t P p c)
  | 0, _ => h
  | c + 1, hc => by
    rw [twT_succ]
    by_cases e : P c = true
    · rw [if_pos e]
      exact pok_tkT (twT_ge hS hT hp c (by omega)).1 (pok_twT hS hT h hp c (by omega)) (by omega)
    · rw [if_neg e]
      exact pok_twT hS hT h hp c (by omega)
theorem pok_fin {s t : Nat → Nat} (hT : GoodT s t) (h : POK s t) (n : Nat) : POK s (phT t (t 0 + n) (fin s t n)) := ⟨fin_ok hT h.1 n, h.2.of (fun j hj hr => by
  rw [hrg_phT (fin_PH hT n) hj] at hr
  exact ⟨hr, by rw [phT_cs (by omega), if_neg (by omega)], by rw [phT_cs (by omega), if_neg (by omega)], by rw [phT_cs (by omega), if_neg (by omega)]⟩)⟩
theorem POK.csq {s t t' : Nat → Nat} (h : POK s t) (h0 : t' 0 = t 0) (e : ∀ i k, i < 12 → k < 27 → cs t' i k = cs t i k) : POK s t' := ⟨fun j hj q => by
  rw [e j 0 hj (by omega)] at q
  rw [e j 3 hj (by omega), h0]
  exact h.1 j hj q, h.2.of (fun j hj hr => by
  unfold hrg at hr ⊢
  rw [e j 0 hj (by omega)] at hr
  exact ⟨hr, e j 3 hj (by omega), e j 4 hj (by omega), e j 5 hj (by omega)⟩)⟩

