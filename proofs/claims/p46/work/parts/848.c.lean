variable {X : Kd}
theorem cpy_all {f g : Nat → Int32} {n k : Nat} (hk : k < n) (hn : n < 2 ^ 31) : va_cpy f g (0 : Int32).toNatClampNeg (0 : Int32).toNatClampNeg (nI n).toNatClampNeg k = f k := by
  have h0 : (0 : Int32).toNatClampNeg = 0 := by decide
  have h1 : (nI n).toNatClampNeg = n := nI_clamp hn
  rw [h0, h1]
  unfold va_cpy
  simp [hk]
theorem grd_ok {n : Nat} (hn : n < 2 ^ 31) : grd (¬ (0 : Int32) < 0 ∧ ¬ (0 : Int32) < 0 ∧ ¬ (nI n) < 0 ∧ (0 : Int32).toNatClampNeg + (nI n).toNatClampNeg ≤ n ∧ (0 : Int32).toNatClampNeg + (nI n).toNatClampNeg ≤ n) = some () := by
  have h0 : (0 : Int32).toNatClampNeg = 0 := by decide
  have h1 : (nI n).toNatClampNeg = n := nI_clamp hn
  rw [h0, h1]
  unfold grd
  rw [if_pos]
  refine ⟨by decide, by decide, ?_, by omega, by omega⟩
  intro q
  have := Int32.lt_iff_toInt_lt.mp q
  rw [nI_toInt hn] at this
  have h2 : (0 : Int32).toInt = 0 := by decide
  omega
theorem wR_sI {w : Wd} {f a : Nat} {v : Int32} : wR (sI w f a v) = wR w := rfl
theorem x_copyP {w : Wd} (h : FX w) {a c i : Nat} (ha : a ∈ SA) (hc : c ∈ SA) (hac : a ≠ c) (hi : i < 12) : ∃ w', f_X7_copyFrom (Kx X) (a + 6 + 2 * i) (aR w (c + 5) i) w = some w' ∧ Ofi (fun _ x => x = a + 6 + 2 * i) (fun x => x = a + 7 + 2 * i) w w' ∧ (∀ f, 700 ≤ f → f ≤ 706 → wI w' f (a + 6 + 2 * i) = wI w f (c + 6 + 2 * i)) ∧ ∀ k, k < 20 → aI w' (a + 7 + 2 * i) k = aI w (c + 7 + 2 * i) k := by
  have hne : c + 6 + 2 * i ≠ a + 6 + 2 * i := by omega
  have r : ∀ w1 : Wd, wR w1 = wR w → cha (Kx X) 20 (wR w1 707 (a + 6 + 2 * i)) = some (a + 7 + 2 * i, 20) := fun w1 e => by rw [e]; exact tlg h ha hi
  have r2 : ∀ w1 : Wd, wR w1 = wR w → cha (Kx X) 20 (wR w1 707 (c + 6 + 2 * i)) = some (c + 7 + 2 * i, 20) := fun w1 e => by rw [e]; exact tlg h hc hi
  unfold f_X7_copyFrom
  rw [tpr h hc hi]
  simp only [Option.bind_some, wI_sI, hne, and_false, if_false, wR_sI]
  rw [r w rfl, Option.bind_some, r2 w rfl, Option.bind_some]
  try dsimp only
  rw [grd_ok (by omega), Option.bind_some]
  refine ⟨_, rfl, ?_, fun f f0 f1 => ?_, fun k hk => ?_⟩
  · refine (ofi_sIx.sIx.sIx.sIx.sIx.sIx.sIx).trans ⟨⟨rfl, rfl, rfl, rfl, rfl, rfl⟩, fun _ _ _ => rfl, fun x q => ?_⟩
    rw [aI_tA', if_neg q]
  · rw [wI_tA]
    simp only [wI_sI, hne, and_false, if_false, and_true]
    by_cases g6 : f = 706
    · rw [if_pos g6, g6]
    · rw [if_neg g6]
      by_cases g5 : f = 705
      · rw [if_pos g5, g5]
      · rw [if_neg g5]
        by_cases g4 : f = 704
        · rw [if_pos g4, g4]
        · rw [if_neg g4]
          by_cases g3 : f = 703
          · rw [if_pos g3, g3]
          · rw [if_neg g3]
            by_cases g2 : f = 702
            · rw [if_pos g2, g2]
            · rw [if_neg g2]
              by_cases g1 : f = 701
              · rw [if_pos g1, g1]
              · rw [if_neg g1, if_pos (by omega), show f = 700 by omega]
  · rw [aI_tA', if_pos rfl, cpy_all hk (by omega)]
    simp only [aI_sI]

