/-! From the first step to the setup that was read; what pass() answers. -/
theorem cdF_c : ∀ c, c < 128 → cdF (nI c) = c ∧ -128 ≤ (nI c).toInt ∧ (nI c).toInt ≤ 127 := by decide +kernel
theorem x_started {L : Nat} {xs : Nat → Int32} (hL : L < 2 ^ 31) : ∃ (X X' : Kd) (n so : Nat) (w0 w1 w2 : Wd) (bb : Nat) (S T : Nat → Nat), f_X12_init (kup kn0 0 (10, 0)) 1 0 (clr w00 0) = some (Kx X, 415, w0) ∧ f_L_setup L xs (Kx X) 415 w0 = some (Kx X', n, some so, w1) ∧ f_L_parsed (Kx X') n (some 0) (some so) w1 = some (4, w2) ∧ Cst w2 bb S T 0 (fun _ _ => 0) ∧ GI (fun _ => false) S T ∧ (S 0 = 2 ∧ S 1 = 2 ∧ S 2 = 2 ∧ S 3 = 4) ∧ T 0 = 0 := by
  obtain ⟨X, w0, e0, f0, a1, a2, a3, a4⟩ := start
  obtain ⟨X', n, so, w1, e1, hs, f1, r1, hn⟩ := x_setup (X := X) (xs := xs) hL (Nat.le_refl 415) f0
  have b1 : wR w1 501 36 = some 39 := by rw [(r1.1 501 36 (by unfold TSy TSx; omega)).2.1]; exact a1
  have b2 : wR w1 1000 73 = some 1 := by rw [(r1.1 1000 73 (by unfold TSy TSx; omega)).2.1]; exact a2
  have b3 : wI w1 1201 0 = nI 0 := by rw [(r1.1 1201 0 (by unfold TSy TSx; omega)).1]; exact a3
  have b4 : ∀ i, aR w1 163 i = aR w0 163 i := fun i => by rw [(r1.2 163 (by unfold TAy TAx; omega)).2.2]
  have hC := txt_128 (L := L) (xs := xs)
  obtain ⟨w2, e2, f2, r2, g1, g2⟩ := x_fed (X := X') hn f1 hs hC txt_len b3
  have c1 : wR w2 501 36 = some 39 := by rw [(r2.1 501 36 (by unfold FDs; omega)).2.1]; exact b1
  have c2 : wR w2 1000 73 = some 1 := by rw [(r2.1 1000 73 (by unfold FDs; omega)).2.1]; exact b2
  have c4 : ∀ i, aR w2 163 i = aR w0 163 i := fun i => by rw [(r2.2 163 (by unfold FDa; omega)).2.2, b4 i]
  have hl := txt_len (L := L) (xs := xs)
  have hok := all_ok (D := drN L xs) (fun a lo hi h => drN_rg h)
  have T := lex (n := (tl_H10_0 L xs).length) (bf := fun k => nI ((tl_H10_0 L xs).getD k 0)) (C := tl_H10_0 L xs) rfl (fun k hk => (cdF_c _ (hC k hk)).1) (pAll (drN L xs)) [] hok.1 (by rw [txt_eq]; rfl)
  rw [hok.2] at T
  obtain ⟨w3, S, t, e3, k1, k2, k3, k4⟩ := x_parsed0 (X := X') (D := drN L xs) (n := (tl_H10_0 L xs).length) (bf := fun k => nI ((tl_H10_0 L xs).getD k 0)) (pa := paN) (fun a lo hi h => drN_rg h) f2 ⟨by omega, fun k hk => (cdF_c _ (hC k hk)).2⟩ (b := 39) (by decide) (b0 := 1) (by decide) c1 c2 ⟨g1, g2⟩ ⟨fun i hi => by rw [c4 i]; exact a4.1 i hi, a4.2⟩ T
  refine ⟨X, X', n, so, w0, w1, w3, 39, S, t, e0, e1, ?_, k1, k2, k3, k4⟩
  unfold f_L_parsed
  rw [e2, Option.bind_some, k10, Option.bind_some, e3, Option.bind_some]
/-- pass()'s answer is the growth of the cases heard -/
theorem fin_2 {s t : Nat → Nat} {n i : Nat} (hi : i < s 3) : bn (fin s t n i == 2) = bn (cs t i 0 == 2) + bn (cs t i 0 == 1 && decide (cs t i 3 < t 0 + n)) := by
  unfold fin
  by_cases e1 : cs t i 0 = 1
  · by_cases e2 : cs t i 3 < t 0 + n
    · rw [if_pos ⟨hi, e1, e2⟩, e1, decide_eq_true e2]; rfl
    · rw [if_neg (fun q => e2 q.2.2), if_neg (fun q => by omega), e1, decide_eq_false e2]; rfl
  · rw [if_neg (fun q => e1 q.2.1), show (cs t i 0 == 1) = false from beq_false_of_ne e1]
    by_cases e2 : i < s 3 ∧ cs t i 0 = 0 ∧ limD s t i < t 0 + n ∧ 0 < n
    · rw [if_pos e2, e2.2.1]; rfl
    · rw [if_neg e2]; rfl
theorem cnt_2 {s t : Nat → Nat} {n : Nat} : ∀ m, m ≤ s 3 → cnt (fun i => cs (phT t (t 0 + n) (fin s t n)) i 0 == 2) m = cnt (fun i => cs t i 0 == 2) m + cnt (fun i => cs t i 0 == 1 && decide (cs t i 3 < t 0 + n)) m
  | 0, _ => rfl
  | m + 1, h => by
    rw [cnt_succ, cnt_succ, cnt_succ, cnt_2 m (by omega)]
    have e : bn (cs (phT t (t 0 + n) (fin s t n)) m 0 == 2) = bn (cs t m 0 == 2) + bn (cs t m 0 == 1 && decide (cs t m 3 < t 0 + n)) := by
      rw [phT_cs (by omega), if_pos rfl]
      exact fin_2 (by omega)
    try dsimp only
    rw [e]
    omega
theorem hd_grow {s t : Nat → Nat} {n : Nat} : nI (cnt (fun i => cs (phT t (t 0 + n) (fin s t n)) i 0 == 2) (s 3)) - nI (cnt (fun i => cs t i 0 == 2) (s 3)) = nI (hdN s t n) := by
  rw [cnt_2 (s 3) (Nat.le_refl _), sub_nI (by omega)]
  unfold hdN
  congr 1
  omega
