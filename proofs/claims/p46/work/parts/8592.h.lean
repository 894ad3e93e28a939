variable {X : Kd}
def E31 (e : Nat) (c : Int32) : Prop := e = 3 ∧ c = 1
