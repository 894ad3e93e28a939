variable {X : Kd}
theorem OF_MX {w w1 : Wd} {P : Nat → Prop} (h : Off P w w1) (hP : ∀ x, P x → (73 ≤ x ∧ x < 103) ∨ (404 ≤ x ∧ x < 414)) : Fr MX MA w w1 := h.fr.mono (fun f x q => by have := hP x q; unfold MX RG; omega) (fun x q => by have := hP x q; unfold MA RG; omega)
def E113233 (e : Nat) (c : Int32) : Prop := (e = 1 ∧ c = 1) ∨ (e = 2 ∧ c = 2) ∨ (e = 3 ∧ c = 3)
theorem lim73 {w : Wd} {b : Nat} {s t : Nat → Nat} (h : HX w 73 b s t) {i : Nat} (hi : i < s 3) : f_X10_limitDay (Kx X) 73 (nI i) w = some (nI (limD s t i), w) := x_limitDay h hi
