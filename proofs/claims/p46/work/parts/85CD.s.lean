/-! The start, by evaluation. -/
variable {X : Kd}
def st0 : Option (Kd × Nat × Wd) := f_X12_init (kup kn0 0 (10, 0)) 1 0 (clr w00 0)
def aln : Nat → (Nat → Bool) → Bool
  | 0, _ => true
  | n + 1, P => P n && aln n P
theorem aln_i {P : Nat → Bool} : ∀ n, aln n P = true → ∀ k, k < n → P k = true
  | 0, _, k, hk => by omega
  | n + 1, h, k, hk => by
    rw [aln, Bool.and_eq_true] at h
    by_cases e : k = n
    · rw [e]; exact h.1
    · exact aln_i n h.2 k (by omega)
def ckK (K : Kd) : Bool := aln 415 (fun a => decide (K a = ktab[a]?))
def ckF (w : Wd) : Bool := frt.all (fun p => decide (wR w p.1 p.2.1 = some p.2.2)) && fet.all (fun p => decide (aR w p.1 p.2.1 = some p.2.2))
def paN (i : Nat) : Nat := ([164, 194, 224, 254, 284, 314, 344, 374] : List Nat).getD i 0
def ckO (w : Wd) : Bool := aln 8 (fun i => decide (aR w 163 i = some (paN i))) && (decide (wR w 501 36 = some 39) && (decide (wR w 1000 73 = some 1) && decide (wI w 1201 0 = 0)))
theorem st0_n : st0.map (fun q => q.2.1) = some 415 := by decide +kernel
theorem st0_K : st0.map (fun q => ckK q.1) = some true := by decide +kernel
theorem st0_F : st0.map (fun q => ckF q.2.2) = some true := by decide +kernel
theorem st0_O : st0.map (fun q => ckO q.2.2) = some true := by decide +kernel
theorem stq {P : Kd × Nat × Wd → Bool} {q : Kd × Nat × Wd} (h : st0.map P = some true) (e : st0 = some q) : P q = true := by
  rw [e] at h
  exact Option.some.inj h
theorem an1 {a b : Bool} (h : (a && b) = true) : a = true ∧ b = true := by
  cases a with
  | true => exact ⟨rfl, h⟩
  | false => cases h
theorem dt {p : Prop} {d : Decidable p} (h : @decide p d = true) : p := of_decide_eq_true h
theorem start : ∃ (X : Kd) (w : Wd), f_X12_init (kup kn0 0 (10, 0)) 1 0 (clr w00 0) = some (Kx X, 415, w) ∧ FX w ∧ wR w 501 36 = some 39 ∧ wR w 1000 73 = some 1 ∧ wI w 1201 0 = 0 ∧ PA8 w paN := by
  have hn := st0_n
  cases e : st0 with
  | none => rw [e] at hn; cases hn
  | some q =>
    rw [e] at hn
    have hn2 : q.2.1 = 415 := Option.some.inj hn
    obtain ⟨h1, h2⟩ := an1 (stq st0_F e)
    obtain ⟨o1, o⟩ := an1 (stq st0_O e)
    obtain ⟨o2, o⟩ := an1 o
    obtain ⟨o3, o4⟩ := an1 o
    have hK : q.1 = Kx q.1 := funext fun a => by
      unfold Kx
      by_cases h : a < 415
      · rw [if_pos h]
        exact dt (aln_i 415 (stq st0_K e) a h)
      · rw [if_neg h]
    refine ⟨q.1, q.2.2, ?_, ⟨fun p hp => dt (List.all_eq_true.mp h1 p hp), fun p hp => dt (List.all_eq_true.mp h2 p hp)⟩, dt o2, dt o3, dt o4, fun i hi => ⟨dt (aln_i 8 o1 i hi), (by decide : ∀ i, i < 8 → paN i ∈ SP) i hi⟩, fun i j hi hj => (by decide : ∀ i, i < 8 → ∀ j, j < 8 → paN i = paN j → i = j) i hi j hj⟩
    show st0 = _
    rw [e, ← hK, ← hn2]
