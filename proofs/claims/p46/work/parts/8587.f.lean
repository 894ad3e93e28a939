variable {X : Kd}
theorem TSx_rg {f x : Nat} (h : TSx f x) : 133 ≤ x := by unfold TSx at h; omega
theorem cp133 {w : Wd} {b : Nat} {s t : Nat → Nat} (h : HX w 73 b s t) : ∃ w', f_X10_copyFrom (Kx X) 133 (wR w 1205 0) w = some w' ∧ Fr TSx TAx w w' ∧ HX w' 133 b s t ∧ HX w' 73 b s t := by
  obtain ⟨w1, e1, o1, h1⟩ := x_copyFrom (X := X) h (a := 133) (by decide) (by omega)
  have ub := SU_rg h.2.1.2.1
  have r1 := cpF o1
  refine ⟨w1, by rw [i1205 h.1]; exact e1, r1.mono (fun _ x q => Or.inl ⟨q.1, by have := q.2; omega⟩) (fun x q => Or.inl ⟨q.1, by have := q.2; omega⟩), h1, h.fr r1 h1.1 (fun f x q => ⟨fun z => by have := q.1; have := z.2; omega, fun z => by have := q.1; have := z.2; omega⟩) (fun x q => ⟨fun z => by have := q.1; have := z.2; omega, fun z => by have := q.1; have := z.2; omega⟩)⟩
theorem tx73 {w w' : Wd} {b : Nat} {s t : Nat → Nat} (h : HX w 73 b s t) (r : Fr TSx TAx w w') (f : FX w') : HX w' 73 b s t := by
  have ub := SU_rg h.2.1.2.1
  refine h.fr r f (fun f x q => ?_) (fun x q => ?_)
  · unfold TSx at q
    unfold RG RB
    omega
  · unfold TAx at q
    unfold RG RB
    omega
def plN (s t : Nat → Nat) (G : Int32) : Nat := (pSt s t G (cnt (wt t) (s 3))).2
theorem plN_le {s t : Nat → Nat} {G : Int32} (hS : GoodS s) : plN s t G ≤ 12 := by
  have h1 := hS.1.2.2.2
  have h2 := cnt_le (p := wt t) (s 3)
  have h3 := pSt_le (s := s) (t0 := t) (G := G) (cnt (wt t) (s 3))
  unfold plN
  omega
theorem x_forecast {w : Wd} {b : Nat} {s t : Nat → Nat} (h : HX w 73 b s t) {G : Int32} {ab : Nat} (hab : AB s G ab) : ∃ w', f_X12_forecastPlanned (Kx X) 0 (nI ab) w = some (nI (plN s t G), w') ∧ Fr TSx TAx w w' ∧ HX w' 73 b s t := by
  obtain ⟨w1, e1, r1, k1, h1⟩ := cp133 (X := X) h
  obtain ⟨w2, e2, k2, o2⟩ := x_planWaiting (X := X) k1 hab
  have r2 : Fr TSx TAx w1 w2 := o2.fr.mono (fun _ x q => by unfold PA at q; unfold TSx; omega) (fun x q => by unfold PA at q; unfold TAx; omega)
  refine ⟨w2, ?_, r1.trans r2, tx73 h1 r2 k2.1⟩
  unfold f_X12_forecastPlanned
  rw [x1208 h.1, Option.bind_some, e1, Option.bind_some, x1211 k1.1, Option.bind_some, i1208 k1.1, e2, Option.bind_some]
  rfl
/-- the officer on whom most depends, and what is left without one -/
def kyO (P : Nat → Nat) (z : Nat) : Nat → Nat × Option Nat
  | 0 => (z, none)
  | c + 1 => if P c < (kyO P z c).1 then (P c, some c) else kyO P z c
theorem kyO_le {P : Nat → Nat} {z M : Nat} (hz : z ≤ M) (hP : ∀ c, P c ≤ M) : ∀ c, (kyO P z c).1 ≤ M
  | 0 => hz
  | c + 1 => by
    rw [kyO]
    split
    · exact hP c
    · exact kyO_le hz hP c
theorem AB1 {s : Nat → Nat} (h : s 1 ≤ 6) {c : Nat} (hc : c < s 1) : AB s (nI c) (2 ^ c) := ⟨Nat.pow_lt_pow_right (n := 6) (by omega) (by omega), fun o ho => by
  rw [Nat.testBit_two_pow]
  refine decide_eq_decide.mpr ⟨fun q => by rw [q], fun q => ?_⟩
  exact ((nI_eq (by omega) (by omega)).mp q).symm⟩
