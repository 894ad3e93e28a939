variable {X : Kd}
def s00 (k : Nat) : Nat := if k = 160 then 10 else if k = 161 then 5 else if k = 164 then 15 else 0
def t00 (k : Nat) : Nat := if 22 ≤ k ∧ k < 34 then 1 else 0
theorem s00_0 {k : Nat} (h1 : k ≠ 160) (h2 : k ≠ 161) (h3 : k ≠ 164) : s00 k = 0 := by unfold s00; rw [if_neg h1, if_neg h2, if_neg h3]
theorem t00_0 {k : Nat} (h : k < 22 ∨ 34 ≤ k) : t00 k = 0 := by unfold t00; rw [if_neg (by omega)]
theorem GD_00 {nm : Nat → Nat → List Nat} : GD s00 t00 nm := by
  have z := fun k h1 h2 h3 => s00_0 (k := k) h1 h2 h3
  have z0 : s00 0 = 0 := rfl
  have z1 : s00 1 = 0 := rfl
  have z2 : s00 2 = 0 := rfl
  have z3 : s00 3 = 0 := rfl
  have t1 : t00 1 = 0 := rfl
  have hz : t00 0 = 0 ∧ ∀ k, 46 ≤ k → k < 370 → t00 k = 0 := ⟨rfl, fun k k1 k2 => t00_0 (by omega)⟩
  refine ⟨⟨⟨by omega, by omega, by omega, by omega⟩, fun r hr => by omega, fun o ho => by omega, fun i hi => by omega, fun i hi => by omega, fun i j hi hj => by omega, fun k hk => ?_, ?_⟩, ⟨by rw [hz.1]; omega, by omega, fun k hk => by omega, fun j k hj hk => by omega, fun i hi => ?_, fun i hi => ?_, fun i hi => ?_⟩, hz, fun k i hk hi => ?_, fun o h1 h2 => z _ (by omega) (by omega) (by omega), fun i h1 h2 => ⟨z _ (by omega) (by omega) (by omega), z _ (by omega) (by omega) (by omega), z _ (by omega) (by omega) (by omega)⟩, fun k hk => by rw [z _ (by omega) (by omega) (by omega)]; omega, by rw [z _ (by omega) (by omega) (by omega)]; omega⟩
  · unfold s00
    split
    · omega
    · split
      · omega
      · split <;> omega
  · show 15 ≤ 60
    omega
  · unfold t00
    split <;> omega
  · rw [t00_0 (by omega)]; exact Nat.two_pow_pos _
  · have zc : ∀ k, k < 27 → cs t00 i k = 0 := fun k hk => t00_0 (by omega)
    refine ⟨by rw [zc 0 (by omega)]; omega, by rw [zc 1 (by omega)]; omega, by rw [zc 2 (by omega)]; omega, fun q => ?_⟩
    unfold hrg at q
    rw [zc 0 (by omega)] at q
    cases q
  · rw [z k (by omega) (by omega) (by omega)] at hi
    omega
theorem clr_L2 {w : Wd} {b : Nat} (hf : FX w) (hb : b ∈ SU) {k : Int32 → Wd → Option Wd} : ∃ w', f_X9_clear_L2 (Kx X) b k fu 0 w = k (nI 4) w' ∧ Fr (fun f x => f = 401 ∧ PSA b x) NA w w' ∧ FX w' ∧ ∀ q, q < 4 → wI w' 401 (b + 14 + 2 * q) = nI 0 := by
  refine loop_q (fun f c w1 => f_X9_clear_L2 (Kx X) b k f (nI c) w1) (fun c w1 => Fr (fun f x => f = 401 ∧ PSA b x) NA w w1 ∧ FX w1 ∧ ∀ q, q < c → wI w1 401 (b + 14 + 2 * q) = nI 0) (fun r => ∃ w', r = k (nI 4) w' ∧ Fr (fun f x => f = 401 ∧ PSA b x) NA w w' ∧ FX w' ∧ ∀ q, q < 4 → wI w' 401 (b + 14 + 2 * q) = nI 0) 4 (fun f w1 hI => ?_) (fun f c w1 hc hI ih => ?_) fu 0 w ⟨Fr.rf, hf, fun q hq => by omega⟩ (by omega) (fu_lt (by omega))
  · try dsimp only
    rw [f_X9_clear_L2, show (4 : Int32) = nI 4 from rfl, if_le_t (by omega) (by omega) (Nat.le_refl _)]
    exact ⟨w1, rfl, hI⟩
  · try dsimp only at ih ⊢
    obtain ⟨i1, i2, i3⟩ := hI
    rw [f_X9_clear_L2, show (4 : Int32) = nI 4 from rfl, if_le_f (by omega) (by omega) hc, u900 i2 hb, Option.bind_some]
    try dsimp only
    rw [ixa_n (by omega) (by omega), Option.bind_some, unm i2 hb hc, Option.bind_some, Option.bind_some, show nI c + 1 = nI (c + 1) from nI_add c 1]
    refine ih _ ⟨i1.trans (fr_sI ⟨rfl, by unfold PSA; omega⟩), i2.sI, fun q hq => ?_⟩
    rw [wI_sI]
    by_cases e : q = c
    · rw [if_pos ⟨rfl, by rw [e]⟩]; rfl
    · rw [if_neg (by omega)]; exact i3 q (by omega)
theorem clr_L25 {w : Wd} {b : Nat} (hf : FX w) (hb : b ∈ SU) {k : Int32 → Wd → Option Wd} : ∃ w', f_X9_clear_L25 (Kx X) b k fu 0 w = k (nI 12) w' ∧ Fr (fun f x => 300 ≤ f ∧ f ≤ 306 ∧ PSA b x) NA w w' ∧ FX w' ∧ ∀ q, q < 12 → wZ w' 303 (b + 22 + q) = false ∧ wI w' 304 (b + 22 + q) = nI 0 ∧ wI w' 305 (b + 22 + q) = nI 0 ∧ wI w' 306 (b + 22 + q) = nI 0 := by
  refine loop_q (fun f c w1 => f_X9_clear_L25 (Kx X) b k f (nI c) w1) (fun c w1 => Fr (fun f x => 300 ≤ f ∧ f ≤ 306 ∧ PSA b x) NA w w1 ∧ FX w1 ∧ ∀ q, q < c → wZ w1 303 (b + 22 + q) = false ∧ wI w1 304 (b + 22 + q) = nI 0 ∧ wI w1 305 (b + 22 + q) = nI 0 ∧ wI w1 306 (b + 22 + q) = nI 0) (fun r => ∃ w', r = k (nI 12) w' ∧ Fr (fun f x => 300 ≤ f ∧ f ≤ 306 ∧ PSA b x) NA w w' ∧ FX w' ∧ ∀ q, q < 12 → wZ w' 303 (b + 22 + q) = false ∧ wI w' 304 (b + 22 + q) = nI 0 ∧ wI w' 305 (b + 22 + q) = nI 0 ∧ wI w' 306 (b + 22 + q) = nI 0) 12 (fun f w1 hI => ?_) (fun f c w1 hc hI ih => ?_) fu 0 w ⟨Fr.rf, hf, fun q hq => by omega⟩ (by omega) (fu_lt (by omega))
  · try dsimp only
    rw [f_X9_clear_L25, show (12 : Int32) = nI 12 from rfl, if_le_t (by omega) (by omega) (Nat.le_refl _)]
    exact ⟨w1, rfl, hI⟩
  · try dsimp only at ih ⊢
    obtain ⟨i1, i2, i3⟩ := hI
    have pc : PSA b (b + 22 + c) := by unfold PSA; omega
    have r : Fr (fun f x => 300 ≤ f ∧ f ≤ 306 ∧ PSA b x) NA w1 (sI (sI (sI (sZ (sI (sI (sI w1 300 (b + 22 + c) 0) 301 (b + 22 + c) 1) 302 (b + 22 + c) 1) 303 (b + 22 + c) false) 304 (b + 22 + c) 0) 305 (b + 22 + c) 0) 306 (b + 22 + c) 0) :=
      Fr.trans (Fr.trans (Fr.trans (Fr.trans (Fr.trans (Fr.trans (fr_sI ⟨by omega, by omega, pc⟩) (fr_sI ⟨by omega, by omega, pc⟩)) (fr_sI ⟨by omega, by omega, pc⟩)) (fr_sZ ⟨by omega, by omega, pc⟩)) (fr_sI ⟨by omega, by omega, pc⟩)) (fr_sI ⟨by omega, by omega, pc⟩)) (fr_sI ⟨by omega, by omega, pc⟩)
    rw [f_X9_clear_L25, show (12 : Int32) = nI 12 from rfl, if_le_f (by omega) (by omega) hc, u909 i2 hb, Option.bind_some]
    try dsimp only
    rw [ixa_n (by omega) (by omega), Option.bind_some, umt i2 hb hc, Option.bind_some]
    unfold f_X3_clear
    rw [Option.bind_some, Option.bind_some, Option.bind_some, Option.bind_some, Option.bind_some, Option.bind_some, Option.bind_some, Option.bind_some, show nI c + 1 = nI (c + 1) from nI_add c 1]
    refine ih _ ⟨i1.trans r, i2.of rfl rfl, fun q hq => ?_⟩
    by_cases e : q = c
    · subst e
      refine ⟨?_, ?_, ?_, ?_⟩
      · show wZ (sZ (sI (sI (sI w1 300 (b + 22 + q) 0) 301 (b + 22 + q) 1) 302 (b + 22 + q) 1) 303 (b + 22 + q) false) 303 (b + 22 + q) = false
        rw [wZ_sZ, if_pos ⟨rfl, rfl⟩]
      · rw [wI_sI, if_neg (by omega), wI_sI, if_neg (by omega), wI_sI, if_pos ⟨rfl, rfl⟩]; rfl
      · rw [wI_sI, if_neg (by omega), wI_sI, if_pos ⟨rfl, rfl⟩]; rfl
      · rw [wI_sI, if_pos ⟨rfl, rfl⟩]; rfl
    · obtain ⟨z1, z2, z3, z4⟩ := i3 q (by omega)
      refine ⟨?_, ?_, ?_, ?_⟩
      · show wZ (sZ (sI (sI (sI w1 300 (b + 22 + c) 0) 301 (b + 22 + c) 1) 302 (b + 22 + c) 1) 303 (b + 22 + c) false) 303 (b + 22 + q) = false
        rw [wZ_sZ, if_neg (by omega)]; exact z1
      · rw [wI_sI, if_neg (by omega), wI_sI, if_neg (by omega), wI_sI, if_neg (by omega)]
        show wI (sI (sI (sI w1 300 (b + 22 + c) 0) 301 (b + 22 + c) 1) 302 (b + 22 + c) 1) 304 (b + 22 + q) = nI 0
        rw [wI_sI, if_neg (by omega), wI_sI, if_neg (by omega), wI_sI, if_neg (by omega)]; exact z2
      · rw [wI_sI, if_neg (by omega), wI_sI, if_neg (by omega), wI_sI, if_neg (by omega)]
        show wI (sI (sI (sI w1 300 (b + 22 + c) 0) 301 (b + 22 + c) 1) 302 (b + 22 + c) 1) 305 (b + 22 + q) = nI 0
        rw [wI_sI, if_neg (by omega), wI_sI, if_neg (by omega), wI_sI, if_neg (by omega)]; exact z3
      · rw [wI_sI, if_neg (by omega), wI_sI, if_neg (by omega), wI_sI, if_neg (by omega)]
        show wI (sI (sI (sI w1 300 (b + 22 + c) 0) 301 (b + 22 + c) 1) 302 (b + 22 + c) 1) 306 (b + 22 + q) = nI 0
        rw [wI_sI, if_neg (by omega), wI_sI, if_neg (by omega), wI_sI, if_neg (by omega)]; exact z4
theorem ush_0 : ∀ k, k < 32 → ushr (nI 0) (nI k) &&& nI 1 = nI 0 := by decide +kernel
theorem x_clear {w : Wd} {b : Nat} (hf : FX w) (hb : b ∈ SU) (nm : Nat → Nat → List Nat) : ∃ w', f_X9_clear (Kx X) b w = some w' ∧ FX w' ∧ Fr (fun _ x => PSA b x) (PSA b) w w' ∧ XD w' b (cS s00) s00 t00 nm := by
  obtain ⟨w1, e1, r1, f1, a1⟩ := clr_L2 (X := X) hf hb (k := fun v1_2 w1 => f_X9_clear_L25 (Kx X) b (fun v1_25 w7 => (f_J7_fill_53178 (Kx X) (wR w7 902 b) 0 w7).bind fun q13 => (chk (Kx X) 1 (wR q13 910 b)).bind fun a14 => (f_X2_clear (Kx X) a14 q13).bind fun q15 => (cha (Kx X) 20 (wR q15 911 b)).bind fun a16 => (ixa 0 a16.2).bind fun j17 => (some (tI q15 a16.1 j17 10)).bind fun w18 => (cha (Kx X) 20 (wR w18 911 b)).bind fun a19 => (ixa 1 a19.2).bind fun j20 => (some (tI w18 a19.1 j20 5)).bind fun w21 => (cha (Kx X) 20 (wR w21 911 b)).bind fun a22 => (ixa 2 a22.2).bind fun j23 => (some (tI w21 a22.1 j23 0)).bind fun w24 => (cha (Kx X) 20 (wR w24 911 b)).bind fun a25 => (ixa 3 a25.2).bind fun j26 => (some (tI w24 a25.1 j26 0)).bind fun w27 => (some (sI w27 912 b 0)).bind fun w28 => (some (sI w28 913 b 15)).bind fun w29 => (some (sZ w29 914 b false)).bind fun w30 => some w30) fu 0 w1)
  obtain ⟨w2, e2, r2, f2, a2⟩ := clr_L25 (X := X) f1 hb (k := fun v1_25 w7 => (f_J7_fill_53178 (Kx X) (wR w7 902 b) 0 w7).bind fun q13 => (chk (Kx X) 1 (wR q13 910 b)).bind fun a14 => (f_X2_clear (Kx X) a14 q13).bind fun q15 => (cha (Kx X) 20 (wR q15 911 b)).bind fun a16 => (ixa 0 a16.2).bind fun j17 => (some (tI q15 a16.1 j17 10)).bind fun w18 => (cha (Kx X) 20 (wR w18 911 b)).bind fun a19 => (ixa 1 a19.2).bind fun j20 => (some (tI w18 a19.1 j20 5)).bind fun w21 => (cha (Kx X) 20 (wR w21 911 b)).bind fun a22 => (ixa 2 a22.2).bind fun j23 => (some (tI w21 a22.1 j23 0)).bind fun w24 => (cha (Kx X) 20 (wR w24 911 b)).bind fun a25 => (ixa 3 a25.2).bind fun j26 => (some (tI w24 a25.1 j26 0)).bind fun w27 => (some (sI w27 912 b 0)).bind fun w28 => (some (sI w28 913 b 15)).bind fun w29 => (some (sZ w29 914 b false)).bind fun w30 => some w30)
  obtain ⟨w3, e3, o3, a3⟩ := x_fill (X := X) (w := w2) (u902 f2 hb) (by omega)
  have f3 := o3.FX f2
  obtain ⟨w4, e4, o4, a4⟩ := x_fill (X := X) (w := w3) (u200 f3 hb) (by omega)
  have f4 := o4.FX f3
  have pb : ∀ x, x < 34 → PSA b (b + x) := fun x hx => by unfold PSA; omega
  have r3 : Fr (fun _ x => PSA b x) (PSA b) w2 w3 := o3.fr.mono (fun _ _ q => q.elim) (fun x q => by rw [q]; exact pb 3 (by omega))
  have r4 : Fr (fun _ x => PSA b x) (PSA b) w3 w4 := o4.fr.mono (fun _ _ q => q.elim) (fun x q => by rw [q]; exact pb 12 (by omega))
  have r5 : Fr (fun f x => (f = 201 ∧ x = b + 11) ∨ (x = b ∧ 912 ≤ f)) (fun x => x = b + 13) w4 (sZ (sI (sI (tI (tI (tI (tI (sI w4 201 (b + 11) 0) (b + 13) 0 10) (b + 13) 1 5) (b + 13) 2 0) (b + 13) 3 0) 912 b 0) 913 b 15) 914 b false) :=
    Fr.trans (Fr.trans (Fr.trans (Fr.trans (Fr.trans (Fr.trans (Fr.trans (fr_sI (Or.inl ⟨rfl, rfl⟩)) (ofi_tI (S := fun f x => (f = 201 ∧ x = b + 11) ∨ (x = b ∧ 912 ≤ f)) (A := fun x => x = b + 13) rfl).fr) (ofi_tI (S := fun f x => (f = 201 ∧ x = b + 11) ∨ (x = b ∧ 912 ≤ f)) (A := fun x => x = b + 13) rfl).fr) (ofi_tI (S := fun f x => (f = 201 ∧ x = b + 11) ∨ (x = b ∧ 912 ≤ f)) (A := fun x => x = b + 13) rfl).fr) (ofi_tI (S := fun f x => (f = 201 ∧ x = b + 11) ∨ (x = b ∧ 912 ≤ f)) (A := fun x => x = b + 13) rfl).fr) (fr_sI (Or.inr ⟨rfl, by omega⟩))) (fr_sI (Or.inr ⟨rfl, by omega⟩))) (fr_sZ (Or.inr ⟨rfl, by omega⟩))
  have d11 : ∀ f x, ¬ ((f = 201 ∧ x = b + 11) ∨ (x = b ∧ 912 ≤ f)) → wI (sZ (sI (sI (tI (tI (tI (tI (sI w4 201 (b + 11) 0) (b + 13) 0 10) (b + 13) 1 5) (b + 13) 2 0) (b + 13) 3 0) 912 b 0) 913 b 15) 914 b false) f x = wI w4 f x := fun f x q => (r5.1 f x q).1
  have t13 : ∀ k, k < 4 → aI (sZ (sI (sI (tI (tI (tI (tI (sI w4 201 (b + 11) 0) (b + 13) 0 10) (b + 13) 1 5) (b + 13) 2 0) (b + 13) 3 0) 912 b 0) 913 b 15) 914 b false) (b + 13) k = nI (s00 (160 + k)) := fun k hk => by
    show aI (tI (tI (tI (tI (sI w4 201 (b + 11) 0) (b + 13) 0 10) (b + 13) 1 5) (b + 13) 2 0) (b + 13) 3 0) (b + 13) k = _
    have hcase : k = 0 ∨ k = 1 ∨ k = 2 ∨ k = 3 := by omega
    rcases hcase with rfl | rfl | rfl | rfl
    · rw [aI_tI, if_neg (by omega), aI_tI, if_neg (by omega), aI_tI, if_neg (by omega), aI_tI, if_pos ⟨rfl, rfl⟩]; rfl
    · rw [aI_tI, if_neg (by omega), aI_tI, if_neg (by omega), aI_tI, if_pos ⟨rfl, rfl⟩]; rfl
    · rw [aI_tI, if_neg (by omega), aI_tI, if_pos ⟨rfl, rfl⟩]; rfl
    · rw [aI_tI, if_pos ⟨rfl, rfl⟩]; rfl
  have x12 : wI (sZ (sI (sI (tI (tI (tI (tI (sI w4 201 (b + 11) 0) (b + 13) 0 10) (b + 13) 1 5) (b + 13) 2 0) (b + 13) 3 0) 912 b 0) 913 b 15) 914 b false) 912 b = nI (tld s00) ∧ wI (sZ (sI (sI (tI (tI (tI (tI (sI w4 201 (b + 11) 0) (b + 13) 0 10) (b + 13) 1 5) (b + 13) 2 0) (b + 13) 3 0) 912 b 0) 913 b 15) 914 b false) 913 b = nI (s00 164) ∧ wZ (sZ (sI (sI (tI (tI (tI (tI (sI w4 201 (b + 11) 0) (b + 13) 0 10) (b + 13) 1 5) (b + 13) 2 0) (b + 13) 3 0) 912 b 0) 913 b 15) 914 b false) 914 b = (s00 165 == 1) := by
    refine ⟨?_, ?_, ?_⟩
    · show wI (sI (sI (tI (tI (tI (tI (sI w4 201 (b + 11) 0) (b + 13) 0 10) (b + 13) 1 5) (b + 13) 2 0) (b + 13) 3 0) 912 b 0) 913 b 15) 912 b = _
      rw [wI_sI, if_neg (by omega), wI_sI, if_pos ⟨rfl, rfl⟩]; rfl
    · show wI (sI (sI (tI (tI (tI (tI (sI w4 201 (b + 11) 0) (b + 13) 0 10) (b + 13) 1 5) (b + 13) 2 0) (b + 13) 3 0) 912 b 0) 913 b 15) 913 b = _
      rw [wI_sI, if_pos ⟨rfl, rfl⟩]; rfl
    · rw [wZ_sZ, if_pos ⟨rfl, rfl⟩]; rfl
  have x201 : wI (sZ (sI (sI (tI (tI (tI (tI (sI w4 201 (b + 11) 0) (b + 13) 0 10) (b + 13) 1 5) (b + 13) 2 0) (b + 13) 3 0) 912 b 0) 913 b 15) 914 b false) 201 (b + 11) = nI 0 := by
    show wI (sI (sI (tI (tI (tI (tI (sI w4 201 (b + 11) 0) (b + 13) 0 10) (b + 13) 1 5) (b + 13) 2 0) (b + 13) 3 0) 912 b 0) 913 b 15) 201 (b + 11) = _
    rw [wI_sI, if_neg (by omega), wI_sI, if_neg (by omega)]
    show wI (sI w4 201 (b + 11) 0) 201 (b + 11) = _
    rw [wI_sI, if_pos ⟨rfl, rfl⟩]; rfl
  have f5 : FX (sZ (sI (sI (tI (tI (tI (tI (sI w4 201 (b + 11) 0) (b + 13) 0 10) (b + 13) 1 5) (b + 13) 2 0) (b + 13) 3 0) 912 b 0) 913 b 15) 914 b false) := f4.of rfl rfl
  refine ⟨sZ (sI (sI (tI (tI (tI (tI (sI w4 201 (b + 11) 0) (b + 13) 0 10) (b + 13) 1 5) (b + 13) 2 0) (b + 13) 3 0) 912 b 0) 913 b 15) 914 b false, ?_, f5, ?_, ?_⟩
  · unfold f_X9_clear
    rw [e1, e2]
    try dsimp only
    rw [show f_J7_fill_53178 (Kx X) (wR w2 902 b) 0 w2 = _ from e3, Option.bind_some, u910 f3 hb, Option.bind_some]
    unfold f_X2_clear
    rw [show f_J7_fill_53178 (Kx X) (wR w3 200 (b + 11)) 0 w3 = _ from e4, Option.bind_some, Option.bind_some, Option.bind_some, u911 f4.sI hb, Option.bind_some]
    try dsimp only
    rw [show ixa 0 4 = some 0 from rfl, Option.bind_some, Option.bind_some, u911 f4.sI.tI hb, Option.bind_some]
    try dsimp only
    rw [show ixa 1 4 = some 1 from rfl, Option.bind_some, Option.bind_some, u911 f4.sI.tI.tI hb, Option.bind_some]
    try dsimp only
    rw [show ixa 2 4 = some 2 from rfl, Option.bind_some, Option.bind_some, u911 f4.sI.tI.tI.tI hb, Option.bind_some]
    try dsimp only
    rw [show ixa 3 4 = some 3 from rfl, Option.bind_some, Option.bind_some, Option.bind_some, Option.bind_some, Option.bind_some]
  · refine Fr.trans (r1.mono (fun f x q => q.2) (fun _ q => q.elim)) (Fr.trans (r2.mono (fun f x q => q.2.2) (fun _ q => q.elim)) (Fr.trans r3 (Fr.trans r4 (r5.mono (fun f x q => ?_) (fun x q => ?_)))))
    · rcases q with q | q
      · rw [q.2]; exact pb 11 (by omega)
      · rw [q.1]; exact pb 0 (by omega)
    · rw [q]; exact pb 13 (by omega)
  · generalize hw : sZ (sI (sI (tI (tI (tI (tI (sI w4 201 (b + 11) 0) (b + 13) 0 10) (b + 13) 1 5) (b + 13) 2 0) (b + 13) 3 0) 912 b 0) 913 b 15) 914 b false = w5 at *
    have z0 : ∀ k, k ≠ 160 → k ≠ 161 → k ≠ 164 → s00 k = 0 := fun k => s00_0
    have c0 : ∀ k, k < 8 → cS s00 k = 0 := by
      intro k hk
      unfold cS
      split
      · exact z0 _ (by omega) (by omega) (by omega)
      · split
        · exact z0 _ (by omega) (by omega) (by omega)
        · exact z0 _ (by omega) (by omega) (by omega)
    refine ⟨fun k hk => ?_, fun k i hk hi => ?_, fun r hr => ?_, fun o ho => ⟨?_, fun k hk => ?_⟩, fun i hi => ?_, fun i hi => ?_, fun i hi hi2 => ?_, fun i hi hi2 => ?_, fun i hi hi2 => ?_, fun i hi => ?_, t13, x12, ?_, fun d hd => ?_⟩
    · rw [d11 _ _ (by omega), o4.2.1 _ _ (fun q => q), o3.2.1 _ _ (fun q => q), (r2.1 401 _ (by omega)).1, a1 k hk, c0 k (by omega)]
    · rw [c0 k (by omega)] at hi; omega
    · rw [z0 0 (by omega) (by omega) (by omega)] at hr; omega
    · rw [(r5.2 (b + 3) (by omega)).1, o4.2.2 _ (by omega), a3 o (by omega), z0 _ (by omega) (by omega) (by omega)]
    · rw [z0 _ (by omega) (by omega) (by omega)] at hk; omega
    · rw [c0 4 (by omega)] at hi; omega
    · rw [z0 2 (by omega) (by omega) (by omega)] at hi; omega
    · rw [c0 5 (by omega)] at hi2; omega
    · rw [c0 6 (by omega)] at hi2; omega
    · rw [c0 7 (by omega)] at hi2; omega
    · obtain ⟨y1, y2, y3, y4⟩ := a2 i hi
      refine ⟨?_, ?_, ?_, ?_⟩
      · rw [(r5.1 303 (b + 22 + i) (by omega)).2.2, o4.1.2.2.1, o3.1.2.2.1, y1, z0 _ (by omega) (by omega) (by omega)]; rfl
      · rw [d11 _ _ (by omega), o4.2.1 _ _ (fun q => q), o3.2.1 _ _ (fun q => q), y2, z0 _ (by omega) (by omega) (by omega)]
      · rw [d11 _ _ (by omega), o4.2.1 _ _ (fun q => q), o3.2.1 _ _ (fun q => q), y3, z0 _ (by omega) (by omega) (by omega)]
      · rw [d11 _ _ (by omega), o4.2.1 _ _ (fun q => q), o3.2.1 _ _ (fun q => q), y4, t00_0 (by omega)]
    · rw [x201]; rfl
    · rw [(r5.2 (b + 12) (by omega)).1, a4 _ (by omega), ush_0 _ (by omega)]
      rfl
