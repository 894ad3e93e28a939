variable {X : Kd}
theorem sI_sI {w : Wd} {f a : Nat} {u v : Int32} : sI (sI w f a u) f a v = sI w f a v := by
  unfold sI up2
  refine congrArg (fun q => (q, w.2)) (funext fun x => funext fun y => ?_)
  dsimp only
  by_cases e : x = f ∧ y = a
  · rw [if_pos e, if_pos e]
  · rw [if_neg e, if_neg e, if_neg e]
theorem xk_l {α β : Type} {a : α} {w : Wd} {k : α → Option ((β ⊕ Nat) × Wd)} : xk (.inl a, w) k = k a := rfl
theorem xk_r {α β : Type} {e : Nat} {w : Wd} {k : α → Option ((β ⊕ Nat) × Wd)} : xk (.inr e, w) k = some (.inr e, w) := rfl
theorem x_re0 {w : Wd} {b : Nat} {s t : Nat → Nat} (h : HX w 73 b s t) {x : Int32} : f_X12_requireExisting (Kx X) 0 0 x w = some (if inR x (s 0) then .inl () else .inr 1, w) := x_reqE h (k := 0) (by omega)
theorem x_re1 {w : Wd} {b : Nat} {s t : Nat → Nat} (h : HX w 73 b s t) {x : Int32} : f_X12_requireExisting (Kx X) 0 1 x w = some (if inR x (s 1) then .inl () else .inr 1, w) := x_reqE h (k := 1) (by omega)
theorem x_re2 {w : Wd} {b : Nat} {s t : Nat → Nat} (h : HX w 73 b s t) {x : Int32} : f_X12_requireExisting (Kx X) 0 2 x w = some (if inR x (s 2) then .inl () else .inr 1, w) := x_reqE h (k := 2) (by omega)
theorem x_re3 {w : Wd} {b : Nat} {s t : Nat → Nat} (h : HX w 73 b s t) {x : Int32} : f_X12_requireExisting (Kx X) 0 3 x w = some (if inR x (s 3) then .inl () else .inr 1, w) := x_reqE h (k := 3) (by omega)
def E11 (e : Nat) (c : Int32) : Prop := e = 1 ∧ c = 1
def E21 (e : Nat) (c : Int32) : Prop := e = 2 ∧ c = 1
def E1122 (e : Nat) (c : Int32) : Prop := (e = 1 ∧ c = 1) ∨ (e = 2 ∧ c = 2)
