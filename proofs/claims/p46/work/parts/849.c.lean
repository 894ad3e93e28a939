variable {X : Kd}
def RG (a x : Nat) : Prop := a ≤ x ∧ x < a + 30
theorem wR_sR {w : Wd} {f a g x : Nat} {v : Option Nat} : wR (sR w f a v) g x = if g = f ∧ x = a then v else wR w g x := rfl
theorem FX.r1000 {w : Wd} {a : Nat} {v : Option Nat} (h : FX w) : FX (sR w 1000 a v) := ⟨fun p hp => by
  have e : p.1 ≠ 1000 := (by decide +kernel : ∀ p, p ∈ frt → p.1 ≠ 1000) p hp
  rw [wR_sR, if_neg (fun q => e q.1)]
  exact h.1 p hp, fun p hp => h.2 p hp⟩
theorem tA_ofi {S : Nat → Nat → Prop} {A : Nat → Prop} {w : Wd} {a : Nat} {g : Nat → Int32} (h : A a) : Ofi S A w (tA w a g) := ⟨⟨rfl, rfl, rfl, rfl, rfl, rfl⟩, fun _ _ _ => rfl, fun x q => by
  rw [aI_tA', if_neg (fun (z : x = a) => q (by rw [z]; exact h))]⟩
theorem wR_tA {w : Wd} {a : Nat} {g : Nat → Int32} : wR (tA w a g) = wR w := rfl
/-- the same content -/
def EqS (w0 w : Wd) (a c : Nat) : Prop := wI w 1001 a = wI w0 1001 c ∧ wI w 201 (a + 1) = wI w0 201 (c + 1) ∧ (∀ k, k < 19 → aI w (a + 2) k = aI w0 (c + 2) k) ∧ (∀ k, k < 12 → aI w (a + 3) k = aI w0 (c + 3) k) ∧ ∀ k, k < 12 → aI w (a + 4) k = aI w0 (c + 4) k
def EqP (w0 w : Wd) (a c i : Nat) : Prop := (∀ f, 700 ≤ f → f ≤ 706 → wI w f (a + 6 + 2 * i) = wI w0 f (c + 6 + 2 * i)) ∧ ∀ k, k < 20 → aI w (a + 7 + 2 * i) k = aI w0 (c + 7 + 2 * i) k
theorem RepX.eqs {w0 w : Wd} {a c : Nat} {s t : Nat → Nat} (h : RepX w0 c s t) (hS : GoodS s) (hT : GoodT s t) (e : EqS w0 w a c) (p : ∀ i, i < 12 → EqP w0 w a c i) : RepX w a s t := by
  obtain ⟨v1, v2, v3, v4, v5⟩ := h
  have hs := hS.1
  refine ⟨⟨e.1.trans v1.1, e.2.1.trans v1.2⟩, fun d hd => ?_, fun i hi => ?_, fun i hi => ?_, fun i hi => ?_⟩
  · rw [e.2.2.1 (d / 32) (by omega)]; exact v2 d hd
  · rw [e.2.2.2.1 i (by omega)]; exact v3 i hi
  · rw [e.2.2.2.2 i hi]; exact v4 i hi
  · have q := v5 i hi
    have c3 := (hT.c3 hi).2.2
    have f := (p i hi).1
    rw [f 700 (by omega) (by omega), f 701 (by omega) (by omega), f 702 (by omega) (by omega), f 703 (by omega) (by omega), f 704 (by omega) (by omega), f 705 (by omega) (by omega), f 706 (by omega) (by omega)]
    exact ⟨q.1, q.2.1, q.2.2.1, q.2.2.2.1, q.2.2.2.2.1, fun k hk => by rw [(p i hi).2 k (by omega)]; exact q.2.2.2.2.2 k hk⟩
theorem SA_far {a c : Nat} (ha : a ∈ SA) (hc : c ∈ SA) (h : a ≠ c) : a + 30 ≤ c ∨ c + 30 ≤ a := (by decide : ∀ a, a ∈ SA → ∀ c, c ∈ SA → a ≠ c → a + 30 ≤ c ∨ c + 30 ≤ a) a ha c hc h
theorem x_copyL {w0 w : Wd} (h : FX w) {a c : Nat} (ha : a ∈ SA) (hc : c ∈ SA) (hac : a ≠ c) (hw : ∀ x, c ≤ x → x < c + 30 → (∀ f, wI w f x = wI w0 f x) ∧ aI w x = aI w0 x) (he : EqS w0 w a c) : ∃ w', f_X10_copyFrom_L65 (Kx X) a (fun v1_65 v2_65 w14 => some w14) fu (some c) (nI 0) w = some w' ∧ Ofi (fun _ x => RG a x) (RG a) w w' ∧ EqS w0 w' a c ∧ ∀ i, i < 12 → EqP w0 w' a c i := by
  have far := SA_far ha hc hac
  refine loop_q (fun n i w1 => f_X10_copyFrom_L65 (Kx X) a (fun v1_65 v2_65 w14 => some w14) n (some c) (nI i) w1) (fun i w1 => Ofi (fun _ x => RG a x) (RG a) w w1 ∧ EqS w0 w1 a c ∧ ∀ j, j < i → EqP w0 w1 a c j) (fun r => ∃ w', r = some w' ∧ Ofi (fun _ x => RG a x) (RG a) w w' ∧ EqS w0 w' a c ∧ ∀ i, i < 12 → EqP w0 w' a c i) 12 (fun n w1 hI => ?_) (fun n i w1 hi hI ih => ?_) fu 0 w ⟨Ofi.rf, he, fun j hj => by omega⟩ (by omega) (fu_lt (by omega))
  · try dsimp only
    rw [f_X10_copyFrom_L65, show (12 : Int32) = nI 12 from rfl, if_le_t (by omega) (by omega) (Nat.le_refl _)]
    exact ⟨w1, rfl, hI.1, hI.2.1, hI.2.2⟩
  · try dsimp only at ih ⊢
    have fx := hI.1.FX h
    obtain ⟨w2, e2, o2, f2, l2⟩ := x_copyP (X := X) fx ha hc hac hi
    rw [f_X10_copyFrom_L65, show (12 : Int32) = nI 12 from rfl, if_le_f (by omega) (by omega) hi, t1005 fx ha, Option.bind_some]
    try dsimp only
    rw [ixa_n (by omega) (by omega), Option.bind_some, ck rfl (kSA hc), Option.bind_some, t1005 fx hc, Option.bind_some]
    try dsimp only
    rw [ixa_n (by omega) (by omega), Option.bind_some, tpr fx ha hi, Option.bind_some, e2, Option.bind_some, show nI i + 1 = nI (i + 1) from nI_add i 1]
    have src : ∀ x, c ≤ x → x < c + 30 → (∀ f, wI w1 f x = wI w0 f x) ∧ aI w1 x = aI w0 x := fun x x1 x2 => by
      have nr : ¬ RG a x := fun q => by have q1 := q.1; have q2 := q.2; omega
      exact ⟨fun f => (hI.1.2.1 f x nr).trans ((hw x x1 x2).1 f), (hI.1.2.2 x nr).trans (hw x x1 x2).2⟩
    refine ih w2 ⟨hI.1.trans (o2.mono (fun _ x q => ⟨by omega, by omega⟩) (fun x q => ⟨by omega, by omega⟩)), ⟨?_, ?_, fun k hk => ?_, fun k hk => ?_, fun k hk => ?_⟩, fun j hj => ?_⟩
    · rw [o2.2.1 1001 a (by omega)]; exact hI.2.1.1
    · rw [o2.2.1 201 (a + 1) (by omega)]; exact hI.2.1.2.1
    · rw [o2.2.2 (a + 2) (by omega)]; exact hI.2.1.2.2.1 k hk
    · rw [o2.2.2 (a + 3) (by omega)]; exact hI.2.1.2.2.2.1 k hk
    · rw [o2.2.2 (a + 4) (by omega)]; exact hI.2.1.2.2.2.2 k hk
    · by_cases ej : j = i
      · subst ej
        exact ⟨fun f f0 f1 => by rw [f2 f f0 f1, (src (c + 6 + 2 * j) (by omega) (by omega)).1], fun k hk => by rw [l2 k hk, (src (c + 7 + 2 * j) (by omega) (by omega)).2]⟩
      · have q := hI.2.2 j (by omega)
        exact ⟨fun f f0 f1 => by rw [o2.2.1 f (a + 6 + 2 * j) (by omega)]; exact q.1 f f0 f1, fun k hk => by rw [o2.2.2 (a + 7 + 2 * j) (by omega)]; exact q.2 k hk⟩

