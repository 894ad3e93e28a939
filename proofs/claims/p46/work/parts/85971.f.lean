variable {X : Kd}
theorem NMx.g {w : Wd} {b : Nat} {s : Nat → Nat} {nm : Nat → Nat → List Nat} (h : NMx w b s nm) (hn : ∀ k i, k < 4 → i < s k → NmOK (nm k i)) {k : Nat} (hk : k < 4) : ∀ i, i < s k → aJ w (b + 15 + 2 * k) i = nJ (pkX (nm k i)) ∧ NmOK (nm k i) := fun i hi => ⟨h k i hk hi, hn k i hk hi⟩
theorem nmL_le {s : Nat → Nat} (hS : GoodS s) {k : Nat} (hk : k < 4) : s k ≤ nmL k ∧ nmL k ≤ 12 := by
  have hs := hS.1
  rcases (by omega : k = 0 ∨ k = 1 ∨ k = 2 ∨ k = 3) with rfl | rfl | rfl | rfl
  · exact ⟨hs.1, by decide⟩
  · exact ⟨hs.2.1, by decide⟩
  · exact ⟨hs.2.2.1, by decide⟩
  · exact ⟨hs.2.2.2, by decide⟩
/-- what is found -/
def fdV (n : Nat) (bf : Nat → Int32) (nm : Nat → List Nat) (m : Nat) : Int32 := if 1 ≤ n ∧ n ≤ 8 ∧ anyF (fun k => !ltr (cdF (bf k))) 0 n = false then oI (whN nm (lts bf 0 n) m) else -1
theorem all_ltr {n : Nat} {bf : Nat → Int32} (h : anyF (fun k => !ltr (cdF (bf k))) 0 n = false) : ∀ k, k < n → ltr (cdF (bf k)) = true := fun k hk => by
  cases e : ltr (cdF (bf k)) with
  | true => rfl
  | false =>
    have : anyF (fun k => !ltr (cdF (bf k))) 0 n = true := (anyF_iff _ _).mpr ⟨k, by omega, by omega, by rw [e]; rfl⟩
    rw [h] at this
    cases this
theorem run_all {P : Nat → Bool} : ∀ d p, (∀ k, p ≤ k → k < p + d → P k = true) → run P d p = p + d
  | 0, p, _ => rfl
  | d + 1, p, h => by
    rw [run, if_pos (h p (Nat.le_refl _) (by omega)), run_all d (p + 1) (fun k k1 k2 => h k (by omega) (by omega))]
    omega
theorem tok_one {n : Nat} {bf : Nat → Int32} : (tyT n bf 0 = 1 ∧ skT n bf 0 = 0 ∧ enT n bf 0 = n) ↔ (1 ≤ n ∧ anyF (fun k => !ltr (cdF (bf k))) 0 n = false) := by
  constructor
  · rintro ⟨h1, h2, h3⟩
    have n1 : ¬ n ≤ 0 := fun q => by
      unfold tyT at h1
      rw [h2, if_pos q] at h1
      omega
    have h4 : ltr (cdF (bf 0)) = true := by
      unfold tyT at h1
      rw [h2, if_neg n1] at h1
      cases e : ltr (cdF (bf 0)) with
      | true => rfl
      | false =>
        rw [e, if_neg (by decide)] at h1
        split at h1
        · split at h1 <;> omega
        · split at h1 <;> omega
    have h5 : run (fun k => ltr (cdF (bf k))) n 0 = n := by
      unfold enT at h3
      rw [h2, if_neg n1, if_pos h4, Nat.sub_zero] at h3
      exact h3
    refine ⟨by omega, ?_⟩
    cases e : anyF (fun k => !ltr (cdF (bf k))) 0 n with
    | false => rfl
    | true =>
      obtain ⟨k, k1, k2, k3⟩ := (anyF_iff _ _).mp e
      have := run_in (P := fun k => ltr (cdF (bf k))) n 0 k k1 (by rw [h5]; omega)
      rw [this] at k3
      cases k3
  · rintro ⟨n1, h⟩
    have hl := all_ltr h
    have h0 := hl 0 (by omega)
    have h9 : 97 ≤ cdF (bf 0) ∧ cdF (bf 0) ≤ 122 := of_decide_eq_true h0
    have sk : skT n bf 0 = 0 := by
      unfold skT
      obtain ⟨m, hm⟩ : ∃ m, n - 0 = m + 1 := ⟨n - 1, by omega⟩
      rw [hm, run, if_neg (by
        unfold spc
        intro q
        rw [Bool.or_eq_true, beq_iff_eq, beq_iff_eq] at q
        omega)]
    refine ⟨?_, sk, ?_⟩
    · unfold tyT
      rw [sk, if_neg (by omega), if_pos h0]
    · unfold enT
      rw [sk, if_neg (by omega), if_pos h0, Nat.sub_zero, run_all n 0 (fun k _ k2 => hl k (by omega)), Nat.zero_add]
