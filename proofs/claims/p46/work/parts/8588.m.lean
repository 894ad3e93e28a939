variable {X : Kd}
def MX (f x : Nat) : Prop := RG 73 x ∨ (404 ≤ x ∧ x < 414)
def MA (x : Nat) : Prop := RG 73 x ∨ (404 ≤ x ∧ x < 414)
