variable {X : Kd}
def SUn (f x : Nat) : Prop := (f = 1210 ∧ x = 0) ∨ RG 73 x
theorem cp73 {w : Wd} {a b : Nat} {s t t' : Nat → Nat} (h : HX w 73 b s t) (k : HX w a b s t') (ha : a ≠ 73) : ∃ w', f_X10_copyFrom (Kx X) 73 (some a) w = some w' ∧ Fr (fun _ x => RG 73 x) (RG 73) w w' ∧ HX w' 73 b s t' := by
  obtain ⟨w1, e1, o1, h1⟩ := x_copyFrom (X := X) k (a := 73) (by decide) (fun q => ha q.symm)
  exact ⟨w1, e1, cpF o1, h1⟩
theorem HSx.of73 {w w' : Wd} {b m n : Nat} {s : Nat → Nat} {hs : Nat → Nat → Nat} (h : HSx w b s m hs) (hb : b ∈ SU) (k : Fr SUn (RG 73) w w') (hf : FX w') (hn : n ≤ m) (h9 : wI w' 1210 0 = nI n) : HSx w' b s n hs := by
  obtain ⟨h1, h2, pa, hp, h3⟩ := h
  refine ⟨h9, by omega, pa, ⟨fun i hi => by rw [(k.2 163 (fun q => by have := q.1; have := q.2; omega)).2.2]; exact hp.1 i hi, hp.2⟩, fun i hi => (h3 i (by omega)).fr k hf (fun f x q => ?_) (fun x q => ?_)⟩
  · have r := SP_rg (hp.1 i (by omega)).2
    have u := SU_rg hb
    exact ⟨fun z => by
      have z1 := z.1
      have z2 := z.2
      rcases q with ⟨_, q⟩ | ⟨q1, q2⟩ <;> omega, fun z => by
      have z1 := z.1
      have z2 := z.2
      rcases q with ⟨_, q⟩ | ⟨q1, q2⟩ <;> omega⟩
  · have r := SP_rg (hp.1 i (by omega)).2
    have u := SU_rg hb
    have q1 := q.1
    have q2 := q.2
    exact ⟨fun z => by
      have z1 := z.1
      have z2 := z.2
      omega, fun z => by
      have z1 := z.1
      have z2 := z.2
      omega⟩
theorem ib_t {α : Sort _} {x y : α} : (if b2i true = 0 then x else y) = y := rfl
theorem ib_f {α : Sort _} {x y : α} : (if b2i false = 0 then x else y) = x := rfl
theorem ib_t' {α : Sort _} {x y : α} : (if b2i true = nI 0 then x else y) = y := rfl
theorem ib_f' {α : Sort _} {x y : α} : (if b2i false = nI 0 then x else y) = x := rfl
theorem x_saveState {w : Wd} {b : Nat} {s t : Nat → Nat} (h : HX w 73 b s t) : ∃ w', f_X12_saveState (Kx X) 0 w = some (nI (t 0), w') ∧ Fr (fun f x => (f = 1207 ∧ x = 0) ∨ RG 103 x) (RG 103) w w' ∧ HX w' 73 b s t ∧ SVx w' b s true t := by
  obtain ⟨w1, e1, o1, h1⟩ := x_copyFrom (X := X) h (a := 103) (by decide) (by omega)
  have ub := SU_rg h.2.1.2.1
  have r1 := cpF o1
  have k1 : HX w1 73 b s t := h.fr r1 h1.1 (fun f x q => ⟨fun z => by have := q.1; have := z.2; omega, fun z => by have := q.1; have := z.2; omega⟩) (fun x q => ⟨fun z => by have := q.1; have := z.2; omega, fun z => by have := q.1; have := z.2; omega⟩)
  have up : ∀ {a : Nat}, a ∈ SA → HX w1 a b s t → HX (sZ w1 1207 0 true) a b s t := fun {a} ha q => q.fr (S := fun f x => f = 1207 ∧ x = 0) (A := fun _ => False) (fr_sZ ⟨rfl, rfl⟩) h1.1.sZ (fun f x z => by
    have h3 : 73 ≤ a := (by decide : ∀ a, a ∈ SA → 73 ≤ a) a ha
    exact ⟨fun z2 => by have := z2.1; omega, fun z2 => by have := z2.1; omega⟩) (fun x z => z.elim)
  unfold f_X12_saveState
  rw [x1206 h.1, Option.bind_some, i1205 h.1, e1, Option.bind_some, Option.bind_some, x1205 h1.1.sZ, Option.bind_some, (up (by decide) k1).dy]
  exact ⟨_, rfl, (r1.mono (fun _ _ q => Or.inr q) (fun _ q => q)).trans (fr_sZ (Or.inl ⟨rfl, rfl⟩)), up (by decide) k1, by rw [wZ_sZ, if_pos ⟨rfl, rfl⟩], fun _ => up (by decide) h1⟩
