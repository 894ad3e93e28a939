variable {X : Kd}
def nuA (n : Nat) (bf : Nat → Int32) (p : Nat) : Nat := dgN bf (skT n bf p) (enT n bf p - skT n bf p)
def nmA (n : Nat) (bf : Nat → Int32) (p : Nat) : List Nat := lts bf (skT n bf p) (enT n bf p - skT n bf p)
theorem kwN_lt {l : List Nat} {i : Nat} (h : kwN l = some i) : i < 16 ∧ kwL i = l := by
  obtain ⟨h1, h2, h3⟩ := fstF_p _ _ _ h
  exact ⟨by omega, of_decide_eq_true h3⟩
theorem kwI_s {l : List Nat} {i : Nat} (hi : i < 16) : kwI l = i ↔ kwN l = some i := by
  unfold kwI
  cases e : kwN l with
  | none => exact ⟨fun q => by try dsimp only at q; omega, fun q => (by cases q)⟩
  | some j => exact ⟨fun q => by try dsimp only at q; rw [q], fun q => by injection q⟩
theorem kwI_n {l : List Nat} : kwI l = 16 ↔ kwN l = none := by
  unfold kwI
  cases e : kwN l with
  | none => exact ⟨fun _ => rfl, fun _ => rfl⟩
  | some j => exact ⟨fun q => by have := kwN_lt e; try dsimp only at q; omega, fun q => (by cases q)⟩
def kd (n : Nat) (bf : Nat → Int32) (p : Nat) : Nat := if n ≤ skT n bf p then 0 else if ltr (cdF (bf (skT n bf p))) = true then 1 else if dgt (cdF (bf (skT n bf p))) = true then 2 else if cdF (bf (skT n bf p)) = 59 then 3 else 4
theorem kd_k (n : Nat) (bf : Nat → Int32) (p : Nat) : (kd n bf p = 0 ∧ ktT n bf p = 19 ∧ tyT n bf p = 0) ∨ (kd n bf p = 1 ∧ ktT n bf p = (if enT n bf p - skT n bf p ≤ 8 then kwI (nmA n bf p) else 20) ∧ tyT n bf p = 1) ∨ (kd n bf p = 2 ∧ ktT n bf p = (if enT n bf p - skT n bf p ≤ 3 then 17 else 20) ∧ tyT n bf p = (if enT n bf p - skT n bf p ≤ 3 then 2 else 4)) ∨ (kd n bf p = 3 ∧ ktT n bf p = 18 ∧ tyT n bf p = 3) ∨ (kd n bf p = 4 ∧ ktT n bf p = 20 ∧ tyT n bf p = 4) := by
  unfold kd ktT tyT nmA
  by_cases c0 : n ≤ skT n bf p
  · simp only [if_pos c0]; simp
  · by_cases c1 : ltr (cdF (bf (skT n bf p))) = true
    · simp only [if_neg c0, if_pos c1]; simp
    · by_cases c2 : dgt (cdF (bf (skT n bf p))) = true
      · simp only [if_neg c0, if_neg c1, if_pos c2]; simp
      · by_cases c3 : cdF (bf (skT n bf p)) = 59
        · simp only [if_neg c0, if_neg c1, if_neg c2, if_pos c3]; simp
        · simp only [if_neg c0, if_neg c1, if_neg c2, if_neg c3]; simp
theorem nm_len {n p : Nat} {bf : Nat → Int32} : (nmA n bf p).length = enT n bf p - skT n bf p := lts_len
theorem tk_w {n p i : Nat} {bf : Nat → Int32} (hi : i < 16) : ktT n bf p = i ↔ tyT n bf p = 1 ∧ kwN (nmA n bf p) = some i := by
  rcases kd_k n bf p with ⟨_, a, b⟩ | ⟨_, a, b⟩ | ⟨_, a, b⟩ | ⟨_, a, b⟩ | ⟨_, a, b⟩
  · rw [a, b]; omega
  · rw [a, b]
    by_cases c : enT n bf p - skT n bf p ≤ 8
    · rw [if_pos c, kwI_s hi]; simp
    · rw [if_neg c]
      refine ⟨fun q => by omega, fun q => ?_⟩
      obtain ⟨k1, k2⟩ := kwN_lt q.2
      have := (kwOK_d i k1).2.1
      rw [k2, nm_len] at this
      omega
  · rw [a, b]
    split <;> omega
  · rw [a, b]; omega
  · rw [a, b]; omega
theorem tk_nm {n p : Nat} {bf : Nat → Int32} : ktT n bf p = 16 ↔ tyT n bf p = 1 ∧ kwN (nmA n bf p) = none ∧ enT n bf p - skT n bf p ≤ 8 := by
  rcases kd_k n bf p with ⟨_, a, b⟩ | ⟨_, a, b⟩ | ⟨_, a, b⟩ | ⟨_, a, b⟩ | ⟨_, a, b⟩
  · rw [a, b]; omega
  · rw [a, b]
    by_cases c : enT n bf p - skT n bf p ≤ 8
    · rw [if_pos c, kwI_n]; simp [c]
    · rw [if_neg c]
      refine ⟨fun q => by omega, fun q => by omega⟩
  · rw [a, b]
    split <;> omega
  · rw [a, b]; omega
  · rw [a, b]; omega
theorem tk_o {n p : Nat} {bf : Nat → Int32} : (ktT n bf p = 17 ↔ tyT n bf p = 2) ∧ (ktT n bf p = 18 ↔ tyT n bf p = 3) ∧ (ktT n bf p = 19 ↔ tyT n bf p = 0) ∧ ktT n bf p ≤ 20 ∧ tyT n bf p ≤ 4 := by
  have k1 := kwI_le (nmA n bf p)
  rcases kd_k n bf p with ⟨_, a, b⟩ | ⟨_, a, b⟩ | ⟨_, a, b⟩ | ⟨_, a, b⟩ | ⟨_, a, b⟩
  · rw [a, b]; omega
  · rw [a, b]
    split <;> omega
  · rw [a, b]
    split <;> omega
  · rw [a, b]; omega
  · rw [a, b]; omega
theorem run_gt {P : Nat → Bool} {d p : Nat} (h : P p = true) (hd : 1 ≤ d) : p + 1 ≤ run P d p := by
  obtain ⟨m, rfl⟩ : ∃ m, d = m + 1 := ⟨d - 1, by omega⟩
  rw [run, if_pos h]
  exact (run_ge (P := P) m (p + 1)).1
theorem nx_lt {n p : Nat} {bf : Nat → Int32} (hp : p ≤ n) (h : ktT n bf p ≠ 19) : skT n bf p < enT n bf p ∧ p < enT n bf p := by
  have h1 := skT_rg (bf := bf) hp
  have h2 : ¬ n ≤ skT n bf p := fun q => h (by unfold ktT; rw [if_pos q])
  have h3 : skT n bf p < enT n bf p := by
    unfold enT
    rw [if_neg h2]
    split
    · rename_i c
      exact run_gt (P := fun k => ltr (cdF (bf k))) c (by omega)
    · split
      · rename_i c
        exact run_gt (P := fun k => dgt (cdF (bf k))) c (by omega)
      · omega
  omega
theorem ty_ltr {n p : Nat} {bf : Nat → Int32} (hp : p ≤ n) (h : tyT n bf p = 1) : ∀ k, k < enT n bf p - skT n bf p → ltr (cdF (bf (skT n bf p + k))) = true := fun k hk => by
  have h1 := skT_rg (bf := bf) hp
  have h2 : ¬ n ≤ skT n bf p := fun q => by
    unfold tyT at h
    rw [if_pos q] at h
    omega
  have h3 : ltr (cdF (bf (skT n bf p))) = true := by
    cases e : ltr (cdF (bf (skT n bf p))) with
    | true => rfl
    | false =>
      exfalso
      unfold tyT at h
      rw [if_neg h2, e, if_neg (by decide)] at h
      split at h
      · split at h <;> omega
      · split at h <;> omega
  have h4 : enT n bf p = run (fun k => ltr (cdF (bf k))) (n - skT n bf p) (skT n bf p) := by unfold enT; rw [if_neg h2, if_pos h3]
  exact run_in (P := fun k => ltr (cdF (bf k))) (n - skT n bf p) (skT n bf p) (skT n bf p + k) (by omega) (by rw [← h4]; omega)
theorem nm_ok {n p : Nat} {bf : Nat → Int32} (hp : p ≤ n) (h : ktT n bf p = 16) : NmOK (nmA n bf p) := by
  obtain ⟨h1, h2, h3⟩ := tk_nm.mp h
  have := (nx_lt (bf := bf) hp (by omega)).1
  exact lts_ok (by omega) h3 (ty_ltr hp h1)
theorem dgN_lt {bf : Nat → Int32} {q : Nat} : ∀ d, (∀ k, k < d → dgt (cdF (bf (q + k))) = true) → dgN bf q d < 10 ^ d
  | 0, _ => by rw [dgN]; omega
  | d + 1, h => by
    have h1 := dgN_lt d (fun k hk => h k (by omega))
    have h2 := h d (by omega)
    unfold dgt at h2
    have := of_decide_eq_true h2
    rw [dgN, Nat.pow_succ]
    omega
theorem nu_lt {n p : Nat} {bf : Nat → Int32} (hp : p ≤ n) (h : ktT n bf p = 17) : nuA n bf p < 1000 := by
  have h1 := skT_rg (bf := bf) hp
  have hy := tk_o.1.mp h
  have h2 : ¬ n ≤ skT n bf p := fun q => by
    unfold tyT at hy
    rw [if_pos q] at hy
    omega
  have h0 : ltr (cdF (bf (skT n bf p))) = false := by
    cases e : ltr (cdF (bf (skT n bf p))) with
    | false => rfl
    | true =>
      unfold tyT at hy
      rw [if_neg h2, if_pos e] at hy
      omega
  have h3 : dgt (cdF (bf (skT n bf p))) = true := by
    cases e : dgt (cdF (bf (skT n bf p))) with
    | true => rfl
    | false =>
      exfalso
      unfold tyT at hy
      rw [if_neg h2, h0, if_neg (by decide), e, if_neg (by decide)] at hy
      split at hy <;> omega
  have h5 : enT n bf p - skT n bf p ≤ 3 := by
    unfold tyT at hy
    rw [if_neg h2, h0, if_neg (by decide), if_pos h3] at hy
    split at hy
    · assumption
    · omega
  have h4 : enT n bf p = run (fun k => dgt (cdF (bf k))) (n - skT n bf p) (skT n bf p) := by unfold enT; rw [if_neg h2, h0, if_neg (by decide), if_pos h3]
  have h6 := dgN_lt (bf := bf) (q := skT n bf p) (enT n bf p - skT n bf p) (fun k hk => run_in (P := fun k => dgt (cdF (bf k))) (n - skT n bf p) (skT n bf p) (skT n bf p + k) (by omega) (by rw [← h4]; omega))
  have h7 : 10 ^ (enT n bf p - skT n bf p) ≤ 10 ^ 3 := Nat.pow_le_pow_right (by omega) h5
  unfold nuA
  omega

