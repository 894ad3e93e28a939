variable {X : Kd}
def cS (s : Nat → Nat) (k : Nat) : Nat := if k < 4 then s k else if k = 4 then s 2 else s 3
def GD (s t : Nat → Nat) (nm : Nat → Nat → List Nat) : Prop := GoodS s ∧ GoodT s t ∧ (t 0 = 0 ∧ ∀ k, 46 ≤ k → k < 370 → t k = 0) ∧ (∀ k i, k < 4 → i < s k → NmOK (nm k i)) ∧ (∀ o, s 1 ≤ o → o < 6 → s (10 + o) = 0) ∧ (∀ i, s 3 ≤ i → i < 12 → s (124 + i) = 0 ∧ s (136 + i) = 0 ∧ s (148 + i) = 0) ∧ (∀ k, k < 4 → s (166 + k) ≤ 1) ∧ s 165 ≤ 1
theorem tk_B {n p : Nat} {bf : Nat → Int32} : grd (tkB (some (ktT n bf p)) = true) = some () := by
  have := (tk_o (n := n) (bf := bf) (p := p)).2.2.2.1
  unfold grd
  rw [if_pos]
  exact decide_eq_true (by omega)
theorem tk_B2 {i : Nat} (hi : i < 21) : grd (tkB (some i) = true) = some () := by
  unfold grd
  rw [if_pos]
  exact decide_eq_true hi
theorem oI_is {x : Option Nat} {i : Nat} (hi : i < 2 ^ 31) (hx : ∀ j, x = some j → j < 2 ^ 31) : oI x = nI i ↔ x = some i := by
  cases x with
  | none =>
    rw [oI_none]
    refine ⟨fun q => ?_, fun q => (by cases q)⟩
    have h1 : (nI i).toInt = (i : Int) := nI_toInt hi
    rw [← q, show (-nI 1 : Int32).toInt = -1 by decide] at h1
    omega
  | some j =>
    rw [oI_some, nI_eq (by have := hx j rfl; omega) (by omega)]
    exact ⟨fun q => by rw [q], fun q => by injection q⟩
theorem oI_no {x : Option Nat} (hx : ∀ j, x = some j → j < 2 ^ 31) : oI x = -1 ↔ x = none := by
  cases x with
  | none => exact ⟨fun _ => rfl, fun _ => rfl⟩
  | some j =>
    refine ⟨fun q => ?_, fun q => (by cases q)⟩
    have h1 : (nI j).toInt = (j : Int) := nI_toInt (hx j rfl)
    rw [oI_some] at q
    rw [q, show (-1 : Int32).toInt = -1 by decide] at h1
    omega
