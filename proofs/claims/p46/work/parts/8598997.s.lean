variable {X : Kd}
theorem x_begin73 {w : Wd} (hf : FX w) {b : Nat} (hb : b ∈ SU) : ∃ w', f_X10_begin (Kx X) 73 (some b) w = some w' ∧ FX w' ∧ Fr (fun _ x => RG 73 x) (RG 73) w w' ∧ wR w' 1000 73 = some b ∧ wI w' 1001 73 = nI 0 ∧ wI w' 201 74 = wI w 201 (b + 11) ∧ (∀ k, k < 19 → aI w' 75 k = aI w (b + 12) k) ∧ (∀ k, k < 12 → aI w' 76 k = aI w (b + 7) k) ∧ ∀ i, i < 12 → aI w' 77 i = wI w 306 (b + 22 + i) ∧ wI w' 700 (79 + 2 * i) = nI 0 ∧ wI w' 701 (79 + 2 * i) = nI 0 ∧ wI w' 706 (79 + 2 * i) = nI 0 ∧ wI w' 702 (79 + 2 * i) = -nI 1 ∧ wI w' 703 (79 + 2 * i) = -nI 1 ∧ wI w' 704 (79 + 2 * i) = -nI 1 ∧ wI w' 705 (79 + 2 * i) = -nI 1 := by
  have ub := SU_rg hb
  have hS : 73 ∈ SA := by decide
  have k8 : chk (Kx X) 8 (some b) = some b := ck rfl (kSU hb)
  have f2 : FX (sI (sR w 1000 73 (some b)) 1001 73 0) := hf.r1000.sI
  have r2 : Fr (fun _ x => RG 73 x) (RG 73) w (sI (sR w 1000 73 (some b)) 1001 73 0) := Fr.trans (fr_sR (by unfold RG; omega)) (fr_sI (by unfold RG; omega))
  have g1 : wR (sI (sR w 1000 73 (some b)) 1001 73 0) 1000 73 = some b := by
    show wR (sR w 1000 73 (some b)) 1000 73 = some b
    rw [wR_sR, if_pos ⟨rfl, rfl⟩]
  have g2 : wI (sI (sR w 1000 73 (some b)) 1001 73 0) 1001 73 = nI 0 := by rw [wI_sI, if_pos ⟨rfl, rfl⟩]; rfl
  unfold f_X10_begin f_X2_copyFrom
  rw [Option.bind_some, Option.bind_some, k8, Option.bind_some]
  generalize sI (sR w 1000 73 (some b)) 1001 73 0 = w2 at *
  rw [t1002 f2 hS, Option.bind_some, u910 f2 hb, Option.bind_some, t200 f2 hS, Option.bind_some, u200 f2 hb, Option.bind_some]
  try dsimp only
  rw [grd_ok (by omega), Option.bind_some, Option.bind_some, Option.bind_some]
  have o3 : Ofi (fun f x => f = 201 ∧ x = 74) (fun x => x = 75) w2 (sI (tA w2 75 (va_cpy (aI w2 (b + 12)) (aI w2 75) (0 : Int32).toNatClampNeg (0 : Int32).toNatClampNeg (nI 19).toNatClampNeg)) 201 74 (wI (tA w2 75 (va_cpy (aI w2 (b + 12)) (aI w2 75) (0 : Int32).toNatClampNeg (0 : Int32).toNatClampNeg (nI 19).toNatClampNeg)) 201 (b + 11))) := Ofi.trans (tA_ofi rfl) (ofi_sI ⟨rfl, rfl⟩)
  have g3 : wI (sI (tA w2 75 (va_cpy (aI w2 (b + 12)) (aI w2 75) (0 : Int32).toNatClampNeg (0 : Int32).toNatClampNeg (nI 19).toNatClampNeg)) 201 74 (wI (tA w2 75 (va_cpy (aI w2 (b + 12)) (aI w2 75) (0 : Int32).toNatClampNeg (0 : Int32).toNatClampNeg (nI 19).toNatClampNeg)) 201 (b + 11))) 201 74 = wI w2 201 (b + 11) := by rw [wI_sI, if_pos ⟨rfl, rfl⟩]; rfl
  have g4 : ∀ k, k < 19 → aI (sI (tA w2 75 (va_cpy (aI w2 (b + 12)) (aI w2 75) (0 : Int32).toNatClampNeg (0 : Int32).toNatClampNeg (nI 19).toNatClampNeg)) 201 74 (wI (tA w2 75 (va_cpy (aI w2 (b + 12)) (aI w2 75) (0 : Int32).toNatClampNeg (0 : Int32).toNatClampNeg (nI 19).toNatClampNeg)) 201 (b + 11))) 75 k = aI w2 (b + 12) k := fun k hk => by rw [aI_sI, aI_tA', if_pos rfl, cpy_all hk (by omega)]
  have f3 := o3.FX f2
  rw [Option.bind_some]
  generalize sI (tA w2 75 (va_cpy (aI w2 (b + 12)) (aI w2 75) (0 : Int32).toNatClampNeg (0 : Int32).toNatClampNeg (nI 19).toNatClampNeg)) 201 74 (wI (tA w2 75 (va_cpy (aI w2 (b + 12)) (aI w2 75) (0 : Int32).toNatClampNeg (0 : Int32).toNatClampNeg (nI 19).toNatClampNeg)) 201 (b + 11)) = w3 at *
  rw [t1003 f3 hS, Option.bind_some, u906 f3 hb, Option.bind_some]
  try dsimp only
  rw [grd_ok (by omega), Option.bind_some, Option.bind_some]
  have o4 : Ofi NS (fun x => x = 76) w3 (tA w3 76 (va_cpy (aI w3 (b + 7)) (aI w3 76) (0 : Int32).toNatClampNeg (0 : Int32).toNatClampNeg (nI 12).toNatClampNeg)) := tA_ofi rfl
  have g5 : ∀ k, k < 12 → aI (tA w3 76 (va_cpy (aI w3 (b + 7)) (aI w3 76) (0 : Int32).toNatClampNeg (0 : Int32).toNatClampNeg (nI 12).toNatClampNeg)) 76 k = aI w3 (b + 7) k := fun k hk => by rw [aI_tA', if_pos rfl, cpy_all hk (by omega)]
  have f4 := o4.FX f3
  show ∃ w', f_X10_begin_L41 (Kx X) 73 (fun v1_41 v2_41 w10 => some w10) fu (some b) 0 (tA w3 76 (va_cpy (aI w3 (b + 7)) (aI w3 76) (0 : Int32).toNatClampNeg (0 : Int32).toNatClampNeg (nI 12).toNatClampNeg)) = some w' ∧ _
  generalize tA w3 76 (va_cpy (aI w3 (b + 7)) (aI w3 76) (0 : Int32).toNatClampNeg (0 : Int32).toNatClampNeg (nI 12).toNatClampNeg) = w4 at *
  have r4 : Fr (fun _ x => RG 73 x) (RG 73) w w4 := Fr.trans r2 (Fr.trans (o3.fr.mono (fun f x q => by rw [q.2]; unfold RG; omega) (fun x q => by rw [q]; unfold RG; omega)) (o4.fr.mono (fun _ _ q => q.elim) (fun x q => by rw [q]; unfold RG; omega)))
  have nb : ∀ x, b ≤ x → x < b + 34 → ¬ RG 73 x := fun x h1 h2 q => by unfold RG at q; omega
  have src : ∀ x, b ≤ x → x < b + 34 → (∀ f, wI w4 f x = wI w f x) ∧ aI w4 x = aI w x := fun x h1 h2 => ⟨fun f => (r4.1 f x (nb x h1 h2)).1, (r4.2 x (nb x h1 h2)).1⟩
  have lp : ∃ w', f_X10_begin_L41 (Kx X) 73 (fun v1_41 v2_41 w10 => some w10) fu (some b) (nI 0) w4 = some w' ∧ FX w' ∧ Fr (fun f x => 79 ≤ x ∧ x < 103) (fun x => x = 77) w4 w' ∧ ∀ i, i < 12 → aI w' 77 i = wI w4 306 (b + 22 + i) ∧ wI w' 700 (79 + 2 * i) = nI 0 ∧ wI w' 701 (79 + 2 * i) = nI 0 ∧ wI w' 706 (79 + 2 * i) = nI 0 ∧ wI w' 702 (79 + 2 * i) = -nI 1 ∧ wI w' 703 (79 + 2 * i) = -nI 1 ∧ wI w' 704 (79 + 2 * i) = -nI 1 ∧ wI w' 705 (79 + 2 * i) = -nI 1 := by
    refine loop_q (fun f c w1 => f_X10_begin_L41 (Kx X) 73 (fun v1_41 v2_41 w10 => some w10) f (some b) (nI c) w1) (fun c w' => FX w' ∧ Fr (fun f x => 79 ≤ x ∧ x < 103) (fun x => x = 77) w4 w' ∧ ∀ i, i < c → aI w' 77 i = wI w4 306 (b + 22 + i) ∧ wI w' 700 (79 + 2 * i) = nI 0 ∧ wI w' 701 (79 + 2 * i) = nI 0 ∧ wI w' 706 (79 + 2 * i) = nI 0 ∧ wI w' 702 (79 + 2 * i) = -nI 1 ∧ wI w' 703 (79 + 2 * i) = -nI 1 ∧ wI w' 704 (79 + 2 * i) = -nI 1 ∧ wI w' 705 (79 + 2 * i) = -nI 1) (fun r => ∃ w', r = some w' ∧ FX w' ∧ Fr (fun f x => 79 ≤ x ∧ x < 103) (fun x => x = 77) w4 w' ∧ ∀ i, i < 12 → aI w' 77 i = wI w4 306 (b + 22 + i) ∧ wI w' 700 (79 + 2 * i) = nI 0 ∧ wI w' 701 (79 + 2 * i) = nI 0 ∧ wI w' 706 (79 + 2 * i) = nI 0 ∧ wI w' 702 (79 + 2 * i) = -nI 1 ∧ wI w' 703 (79 + 2 * i) = -nI 1 ∧ wI w' 704 (79 + 2 * i) = -nI 1 ∧ wI w' 705 (79 + 2 * i) = -nI 1) 12 (fun f w1 hI => ?_) (fun f c w1 hc hI ih => ?_) fu 0 w4 ⟨f4, Fr.rf, fun i hi => by omega⟩ (by omega) (fu_lt (by omega))
    · try dsimp only
      rw [f_X10_begin_L41, show (12 : Int32) = nI 12 from rfl, if_le_t (by omega) (by omega) (Nat.le_refl _)]
      exact ⟨w1, rfl, hI⟩
    · try dsimp only at ih ⊢
      obtain ⟨i1, i2, i3⟩ := hI
      have z1 : wI w1 306 (b + 22 + c) = wI w4 306 (b + 22 + c) := (i2.1 306 (b + 22 + c) (by omega)).1
      have r : Fr (fun f x => x = 79 + 2 * c) (fun x => x = 77) w1 (sI (sI (sI (sI (sI (sI (sI (tI w1 77 c (wI w1 306 (b + 22 + c))) 701 (79 + 2 * c) 0) 706 (79 + 2 * c) 0) 700 (79 + 2 * c) 0) 702 (79 + 2 * c) (-1)) 703 (79 + 2 * c) (-1)) 704 (79 + 2 * c) (-1)) 705 (79 + 2 * c) (-1)) := Fr.trans (Fr.trans (Fr.trans (Fr.trans (Fr.trans (Fr.trans (Fr.trans (ofi_tI (S := fun f x => x = 79 + 2 * c) (A := fun x => x = 77) rfl).fr (fr_sI rfl)) (fr_sI rfl)) (fr_sI rfl)) (fr_sI rfl)) (fr_sI rfl)) (fr_sI rfl)) (fr_sI rfl)
      rw [f_X10_begin_L41, show (12 : Int32) = nI 12 from rfl, if_le_f (by omega) (by omega) hc, k8, Option.bind_some, u909 i1 hb, Option.bind_some]
      try dsimp only
      rw [ixa_n (by omega) (by omega), Option.bind_some, umt i1 hb hc, Option.bind_some, t1004 i1 hS, Option.bind_some]
      try dsimp only
      rw [ixa_n (by omega) (by omega), Option.bind_some, Option.bind_some, t1005 i1.tI hS, Option.bind_some]
      try dsimp only
      rw [ixa_n (by omega) (by omega), Option.bind_some, tpr i1.tI hS hc, Option.bind_some]
      unfold f_X7_clear f_X7_dropHearing
      rw [Option.bind_some, Option.bind_some, Option.bind_some, Option.bind_some, Option.bind_some, Option.bind_some, Option.bind_some, Option.bind_some, Option.bind_some, show nI c + 1 = nI (c + 1) from nI_add c 1]
      show ∃ w', f_X10_begin_L41 (Kx X) 73 (fun v1_41 v2_41 w10 => some w10) f (some b) (nI (c + 1)) (sI (sI (sI (sI (sI (sI (sI (tI w1 77 c (wI w1 306 (b + 22 + c))) 701 (79 + 2 * c) 0) 706 (79 + 2 * c) 0) 700 (79 + 2 * c) 0) 702 (79 + 2 * c) (-1)) 703 (79 + 2 * c) (-1)) 704 (79 + 2 * c) (-1)) 705 (79 + 2 * c) (-1)) = some w' ∧ _
      refine ih _ ⟨i1.of rfl rfl, i2.trans (r.mono (fun f x q => by rw [q]; omega) (fun _ q => q)), fun i hi => ?_⟩
      by_cases e : i = c
      · subst e
        refine ⟨?_, ?_, ?_, ?_, ?_, ?_, ?_, ?_⟩
        · show aI (tI w1 77 i (wI w1 306 (b + 22 + i))) 77 i = _
          rw [aI_tI, if_pos ⟨rfl, rfl⟩, z1]
        · simp [wI_sI]; rfl
        · simp [wI_sI]; rfl
        · simp [wI_sI]; rfl
        · simp [wI_sI]; rfl
        · simp [wI_sI]; rfl
        · simp [wI_sI]; rfl
        · simp [wI_sI]; rfl
      · have y := i3 i (by omega)
        have wi : ∀ f, wI (sI (sI (sI (sI (sI (sI (sI (tI w1 77 c (wI w1 306 (b + 22 + c))) 701 (79 + 2 * c) 0) 706 (79 + 2 * c) 0) 700 (79 + 2 * c) 0) 702 (79 + 2 * c) (-1)) 703 (79 + 2 * c) (-1)) 704 (79 + 2 * c) (-1)) 705 (79 + 2 * c) (-1)) f (79 + 2 * i) = wI w1 f (79 + 2 * i) := fun f => (r.1 f _ (by omega)).1
        refine ⟨?_, ?_⟩
        · show aI (tI w1 77 c (wI w1 306 (b + 22 + c))) 77 i = _
          rw [aI_tI, if_neg (by omega)]; exact y.1
        · rw [wi, wi, wi, wi, wi, wi, wi]; exact y.2
  obtain ⟨w', e5, f5, r5, a5⟩ := lp
  refine ⟨w', e5, f5, r4.trans (r5.mono (fun f x q => by unfold RG; omega) (fun x q => by rw [q]; unfold RG; omega)), ?_, ?_, ?_, fun k hk => ?_, fun k hk => ?_, fun i hi => ?_⟩
  · rw [(r5.1 1000 73 (by omega)).2.1, o4.1.1, o3.1.1]; exact g1
  · rw [(r5.1 1001 73 (by omega)).1, o4.2.1 _ _ (fun q => q), o3.2.1 _ _ (by omega)]; exact g2
  · rw [(r5.1 201 74 (by omega)).1, o4.2.1 _ _ (fun q => q), g3, (r2.1 201 (b + 11) (nb _ (by omega) (by omega))).1]
  · rw [(r5.2 75 (by omega)).1, o4.2.2 75 (by omega), g4 k hk, (r2.2 (b + 12) (nb _ (by omega) (by omega))).1]
  · rw [(r5.2 76 (by omega)).1, g5 k hk, o3.2.2 (b + 7) (by omega), (r2.2 (b + 7) (nb _ (by omega) (by omega))).1]
  · have y := a5 i hi
    rw [(src (b + 22 + i) (by omega) (by omega)).1] at y
    exact y
