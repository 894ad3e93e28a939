variable {X : Kd}
theorem PL_fr {w w1 : Wd} (h : Off PL w w1) : Fr TSx TAx w w1 := h.fr.mono (fun _ x q => Or.inr ⟨q.1, by have := q.2; omega⟩) (fun x q => Or.inr ⟨q.1, by have := q.2; omega⟩)
def E112233 (e : Nat) (c : Int32) : Prop := (e = 1 ∧ c = 1) ∨ (e = 2 ∧ c = 2) ∨ (e = 3 ∧ c = 3)
def E1132 (e : Nat) (c : Int32) : Prop := (e = 1 ∧ c = 1) ∨ (e = 3 ∧ c = 2)
def E41 (e : Nat) (c : Int32) : Prop := e = 4 ∧ c = 1
