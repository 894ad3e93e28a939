variable {X : Kd}
theorem kwI_le (l : List Nat) : kwI l ≤ 16 := by
  unfold kwI
  cases e : kwN l with
  | none => exact Nat.le_refl _
  | some i => exact Nat.le_of_lt (fstF_p _ _ _ e).2.1
theorem x_advance {w : Wd} {n p : Nat} {bf : Nat → Int32} (hf : FX w) (hT : TX n bf) (h : XT w n bf) (hp : p ≤ n) (h6 : wI w 803 37 = nI p) : ∃ w', f_X8_advance (Kx X) 37 w = some w' ∧ Fr SCx NA w w' ∧ FX w' ∧ TKx w' n bf p := by
  have n9 := hT.1
  have sr := skT_rg (bf := bf) hp
  have er := enT_rg (bf := bf) hp
  have main : ∀ w1, FX w1 → XT w1 n bf → wI w1 803 37 = nI (skT n bf p) → ∃ w', (fun w1 => (some (sI w1 802 37 (wI w1 803 37))).bind fun w10 => (some (sJ w10 805 37 0)).bind fun w11 => (some (sI w11 806 37 0)).bind fun w12 => if (wI w12 803 37) < (wI w12 801 37) then ((cha (Kx X) 21 (wR w12 800 37)).bind fun a14 => (ixa (wI w12 803 37) a14.2).bind fun j15 => (f_X12_isLetter (Kx X) (aI w12 a14.1 j15) w12).bind fun q16 => if (b2i q16.1) = 0 then ((cha (Kx X) 21 (wR q16.2 800 37)).bind fun a18 => (ixa (wI q16.2 803 37) a18.2).bind fun j19 => (f_X8_isDigit (Kx X) (aI q16.2 a18.1 j19) q16.2).bind fun q20 => if (b2i q20.1) = 0 then ((cha (Kx X) 21 (wR q20.2 800 37)).bind fun a22 => (ixa (wI q20.2 803 37) a22.2).bind fun j23 => if (aI q20.2 a22.1 j23) = 59 then ((some (sR q20.2 804 37 (some 18))).bind fun w27 => (some (sI w27 803 37 ((wI w27 803 37) + 1))).bind fun w28 => some w28) else ((some (sR q20.2 804 37 (some 20))).bind fun w25 => (some (sI w25 803 37 ((wI w25 803 37) + 1))).bind fun w26 => some w26)) else (f_X8_advance_L216 (Kx X) 37 (fun w29 => if ((wI w29 803 37) - (wI w29 802 37)) ≤ 3 then ((some (sR w29 804 37 (some 17))).bind fun w40 => some w40) else ((some (sR w29 804 37 (some 20))).bind fun w41 => some w41)) fu  q20.2)) else (f_X8_advance_L106 (Kx X) 37 (fun w42 => if ((wI w42 803 37) - (wI w42 802 37)) ≤ 8 then ((f_X11_ofWord (Kx X) (wJ w42 805 37) w42).bind fun q53 => (some (sR q53.2 804 37 q53.1)).bind fun w54 => some w54) else ((some (sR w42 804 37 (some 20))).bind fun w55 => some w55)) fu  q16.2)) else ((some (sR w12 804 37 (some 19))).bind fun w56 => some w56)) w1 = some w' ∧ Fr SCx NA w1 w' ∧ FX w' ∧ TKx w' n bf p := by
    intro w1 f1 M1 g6
    have o2 : Fr SCx NA w1 (sI (sJ (sI w1 802 37 (nI (skT n bf p))) 805 37 0) 806 37 0) := ((fr_sI ⟨rfl, by omega, by omega⟩).trans fr_sJ).trans (fr_sI ⟨rfl, by omega, by omega⟩)
    have M2 := M1.fr o2 (by unfold SCx; omega) (by unfold SCx; omega) (fun q => q)
    have p6 : wI (sI (sJ (sI w1 802 37 (nI (skT n bf p))) 805 37 0) 806 37 0) 803 37 = nI (skT n bf p) := by
      rw [wI_sI, if_neg (by omega)]
      show wI (sI w1 802 37 (nI (skT n bf p))) 803 37 = _
      rw [wI_sI, if_neg (by omega)]; exact g6
    have p7 : wI (sI (sJ (sI w1 802 37 (nI (skT n bf p))) 805 37 0) 806 37 0) 802 37 = nI (skT n bf p) := by
      rw [wI_sI, if_neg (by omega)]
      show wI (sI w1 802 37 (nI (skT n bf p))) 802 37 = _
      rw [wI_sI, if_pos ⟨rfl, rfl⟩]
    have p8 : wI (sI (sJ (sI w1 802 37 (nI (skT n bf p))) 805 37 0) 806 37 0) 806 37 = nI 0 := by rw [wI_sI, if_pos ⟨rfl, rfl⟩]; rfl
    have p5 : wJ (sI (sJ (sI w1 802 37 (nI (skT n bf p))) 805 37 0) 806 37 0) 805 37 = nJ 0 := by
      show wJ (sJ (sI w1 802 37 (nI (skT n bf p))) 805 37 0) 805 37 = _
      rw [wJ_sJ, if_pos ⟨rfl, rfl⟩]; rfl
    have f2 : FX (sI (sJ (sI w1 802 37 (nI (skT n bf p))) 805 37 0) 806 37 0) := f1.sI.sJ.sI
    try dsimp only
    rw [g6, Option.bind_some, Option.bind_some, Option.bind_some]
    generalize sI (sJ (sI w1 802 37 (nI (skT n bf p))) 805 37 0) 806 37 0 = w2 at *
    rw [p6, M2.1]
    by_cases c0 : n ≤ skT n bf p
    · have en : enT n bf p = skT n bf p := by unfold enT; rw [if_pos c0]
      have kt : ktT n bf p = 19 := by unfold ktT; rw [if_pos c0]
      have ty : tyT n bf p = 0 := by unfold tyT; rw [if_pos c0]
      rw [if_lt_f (by omega) (by omega) c0, Option.bind_some]
      refine ⟨_, rfl, o2.trans (fr_sR ⟨rfl, by omega, by omega⟩), f2.r804, p7, by rw [en]; exact p6, by rw [wR_sR, if_pos ⟨rfl, rfl⟩, kt], fun q => by omega, fun q => by omega⟩
    · have hb := hT.2 (skT n bf p) (by omega)
      rw [if_lt_t (by omega) (by omega) (by omega), M2.c, Option.bind_some]
      try dsimp only
      rw [ixa_n (by omega) (by omega), Option.bind_some, M2.2.2 _ (by omega), x_isLetter hb, Option.bind_some]
      try dsimp only
      cases c1 : ltr (cdF (bf (skT n bf p))) with
      | true =>
        have en : enT n bf p = run (fun k => ltr (cdF (bf k))) (n - skT n bf p) (skT n bf p) := by unfold enT; rw [if_neg c0, if_pos c1]
        have ty : tyT n bf p = 1 := by unfold tyT; rw [if_neg c0, if_pos c1]
        have kt : ktT n bf p = if enT n bf p - skT n bf p ≤ 8 then kwI (lts bf (skT n bf p) (enT n bf p - skT n bf p)) else 20 := by unfold ktT; rw [if_neg c0, if_pos c1]
        rw [ib_t]
        obtain ⟨w3, e3, o3, f3, q3, z3⟩ := adv_lt (X := X) hT (st := skT n bf p) (k := (fun w42 => if ((wI w42 803 37) - (wI w42 802 37)) ≤ 8 then ((f_X11_ofWord (Kx X) (wJ w42 805 37) w42).bind fun q53 => (some (sR q53.2 804 37 q53.1)).bind fun w54 => some w54) else ((some (sR w42 804 37 (some 20))).bind fun w55 => some w55))) (n - skT n bf p) (skT n bf p) w2 fu f2 M2 (by omega) (Nat.le_refl _) (fun u u1 u2 => by omega) p6 (fun _ => by rw [Nat.sub_self]; exact p5) (fu_lt (by omega))
        rw [← en] at q3 z3
        have g7 : wI w3 802 37 = nI (skT n bf p) := by rw [(o3.1 802 37 (by unfold SCl; omega)).1]; exact p7
        have o3' : Fr SCx NA w1 w3 := o2.trans (o3.mono (fun f x q => by unfold SCl at q; unfold SCx; omega) (fun _ q => q))
        rw [e3, q3, g7, sub_nI er.1, show (8 : Int32) = nI 8 from rfl]
        have e1 : 1 ≤ enT n bf p - skT n bf p := by
          obtain ⟨m, hm⟩ : ∃ m, n - skT n bf p = m + 1 := ⟨n - skT n bf p - 1, by omega⟩
          rw [en, hm, run, if_pos c1]
          have := (run_ge (P := fun k => ltr (cdF (bf k))) m (skT n bf p + 1)).1
          omega
        by_cases c3 : enT n bf p - skT n bf p ≤ 8
        · have ok : NmOK (lts bf (skT n bf p) (enT n bf p - skT n bf p)) := lts_ok e1 c3 (fun k hk => run_in (P := fun k => ltr (cdF (bf k))) (n - skT n bf p) (skT n bf p) (skT n bf p + k) (by omega) (by rw [← en]; omega))
          rw [if_pos c3] at kt
          have kl := kwI_le (lts bf (skT n bf p) (enT n bf p - skT n bf p))
          rw [if_le_t (by omega) (by omega) c3, z3 c3, x_ofWord ok, Option.bind_some, Option.bind_some]
          refine ⟨_, rfl, o3'.trans (fr_sR ⟨rfl, by omega, by omega⟩), f3.r804, g7, q3, by rw [wR_sR, if_pos ⟨rfl, rfl⟩, kt], fun _ _ => z3 c3, fun q => by omega⟩
        · rw [if_neg c3] at kt
          rw [if_le_f (by omega) (by omega) (by omega), Option.bind_some]
          refine ⟨_, rfl, o3'.trans (fr_sR ⟨rfl, by omega, by omega⟩), f3.r804, g7, q3, by rw [wR_sR, if_pos ⟨rfl, rfl⟩, kt], fun _ q => absurd q c3, fun q => by omega⟩
      | false =>
        rw [ib_f, M2.c, Option.bind_some]
        try dsimp only
        rw [p6, ixa_n (by omega) (by omega), Option.bind_some, M2.2.2 _ (by omega), x_isDigit hb, Option.bind_some]
        try dsimp only
        cases c2 : dgt (cdF (bf (skT n bf p))) with
        | true =>
          have en : enT n bf p = run (fun k => dgt (cdF (bf k))) (n - skT n bf p) (skT n bf p) := by unfold enT; rw [if_neg c0, c1, if_neg (by decide), if_pos c2]
          have ty : tyT n bf p ≠ 1 := by
            unfold tyT
            rw [if_neg c0, c1, if_neg (by decide), if_pos c2]
            split <;> omega
          have kt : ktT n bf p = if enT n bf p - skT n bf p ≤ 3 then 17 else 20 := by unfold ktT; rw [if_neg c0, c1, if_neg (by decide), if_pos c2]
          rw [ib_t]
          obtain ⟨w4, e4, o4, q4, z4⟩ := adv_dg (X := X) hT (st := skT n bf p) (k := (fun w29 => if ((wI w29 803 37) - (wI w29 802 37)) ≤ 3 then ((some (sR w29 804 37 (some 17))).bind fun w40 => some w40) else ((some (sR w29 804 37 (some 20))).bind fun w41 => some w41))) (n - skT n bf p) (skT n bf p) w2 fu f2 M2 (by omega) (Nat.le_refl _) p6 (fun _ => by rw [Nat.sub_self]; exact p8) (fu_lt (by omega))
          rw [← en] at q4 z4
          have g7 : wI w4 802 37 = nI (skT n bf p) := by rw [o4.2.1 802 37 (by omega)]; exact p7
          have o4' : Fr SCx NA w1 w4 := o2.trans (o4.fr.mono (fun f x q => by unfold SCx; omega) (fun _ q => q))
          have f4 := o4.FX f2
          rw [e4, q4, g7, sub_nI er.1, show (3 : Int32) = nI 3 from rfl]
          by_cases c3 : enT n bf p - skT n bf p ≤ 3
          · rw [if_pos c3] at kt
            rw [if_le_t (by omega) (by omega) c3, Option.bind_some]
            refine ⟨_, rfl, o4'.trans (fr_sR ⟨rfl, by omega, by omega⟩), f4.r804, g7, q4, by rw [wR_sR, if_pos ⟨rfl, rfl⟩, kt], fun q => absurd q ty, fun _ => z4 c3⟩
          · rw [if_neg c3] at kt
            rw [if_le_f (by omega) (by omega) (by omega), Option.bind_some]
            refine ⟨_, rfl, o4'.trans (fr_sR ⟨rfl, by omega, by omega⟩), f4.r804, g7, q4, by rw [wR_sR, if_pos ⟨rfl, rfl⟩, kt], fun q => absurd q ty, fun q => by omega⟩
        | false =>
          have en : enT n bf p = skT n bf p + 1 := by unfold enT; rw [if_neg c0, c1, if_neg (by decide), c2, if_neg (by decide)]
          have ty : tyT n bf p ≠ 1 := by
            unfold tyT
            rw [if_neg c0, c1, if_neg (by decide), c2, if_neg (by decide)]
            split <;> omega
          have kt : ktT n bf p = if cdF (bf (skT n bf p)) = 59 then 18 else 20 := by unfold ktT; rw [if_neg c0, c1, if_neg (by decide), c2, if_neg (by decide)]
          rw [ib_f, M2.c, Option.bind_some]
          try dsimp only
          rw [p6, ixa_n (by omega) (by omega), Option.bind_some, M2.2.2 _ (by omega)]
          by_cases c3 : cdF (bf (skT n bf p)) = 59
          · rw [if_pos c3] at kt
            rw [if_pos (show bf (skT n bf p) = 59 from (byte_eq hb (c := 59) (by omega)).mpr c3), Option.bind_some, Option.bind_some, show wI (sR w2 804 37 (some 18)) 803 37 = nI (skT n bf p) from p6, show nI (skT n bf p) + 1 = nI (skT n bf p + 1) from nI_add _ 1]
            refine ⟨_, rfl, (o2.trans (fr_sR ⟨rfl, by omega, by omega⟩)).trans (fr_sI ⟨rfl, by omega, by omega⟩), f2.r804.sI, by rw [wI_sI, if_neg (by omega)]; exact p7, by rw [wI_sI, if_pos ⟨rfl, rfl⟩, en], ?_, fun q => absurd q ty, fun q => by omega⟩
            show wR (sR w2 804 37 (some 18)) 804 37 = _
            rw [wR_sR, if_pos ⟨rfl, rfl⟩, kt]
          · rw [if_neg c3] at kt
            rw [if_neg (show ¬ bf (skT n bf p) = 59 from fun q => c3 ((byte_eq hb (c := 59) (by omega)).mp q)), Option.bind_some, Option.bind_some, show wI (sR w2 804 37 (some 20)) 803 37 = nI (skT n bf p) from p6, show nI (skT n bf p) + 1 = nI (skT n bf p + 1) from nI_add _ 1]
            refine ⟨_, rfl, (o2.trans (fr_sR ⟨rfl, by omega, by omega⟩)).trans (fr_sI ⟨rfl, by omega, by omega⟩), f2.r804.sI, by rw [wI_sI, if_neg (by omega)]; exact p7, by rw [wI_sI, if_pos ⟨rfl, rfl⟩, en], ?_, fun q => absurd q ty, fun q => by omega⟩
            show wR (sR w2 804 37 (some 20)) 804 37 = _
            rw [wR_sR, if_pos ⟨rfl, rfl⟩, kt]
  obtain ⟨w1, e1, o1, q1⟩ := adv_ws (X := X) hT (k := (fun w1 => (some (sI w1 802 37 (wI w1 803 37))).bind fun w10 => (some (sJ w10 805 37 0)).bind fun w11 => (some (sI w11 806 37 0)).bind fun w12 => if (wI w12 803 37) < (wI w12 801 37) then ((cha (Kx X) 21 (wR w12 800 37)).bind fun a14 => (ixa (wI w12 803 37) a14.2).bind fun j15 => (f_X12_isLetter (Kx X) (aI w12 a14.1 j15) w12).bind fun q16 => if (b2i q16.1) = 0 then ((cha (Kx X) 21 (wR q16.2 800 37)).bind fun a18 => (ixa (wI q16.2 803 37) a18.2).bind fun j19 => (f_X8_isDigit (Kx X) (aI q16.2 a18.1 j19) q16.2).bind fun q20 => if (b2i q20.1) = 0 then ((cha (Kx X) 21 (wR q20.2 800 37)).bind fun a22 => (ixa (wI q20.2 803 37) a22.2).bind fun j23 => if (aI q20.2 a22.1 j23) = 59 then ((some (sR q20.2 804 37 (some 18))).bind fun w27 => (some (sI w27 803 37 ((wI w27 803 37) + 1))).bind fun w28 => some w28) else ((some (sR q20.2 804 37 (some 20))).bind fun w25 => (some (sI w25 803 37 ((wI w25 803 37) + 1))).bind fun w26 => some w26)) else (f_X8_advance_L216 (Kx X) 37 (fun w29 => if ((wI w29 803 37) - (wI w29 802 37)) ≤ 3 then ((some (sR w29 804 37 (some 17))).bind fun w40 => some w40) else ((some (sR w29 804 37 (some 20))).bind fun w41 => some w41)) fu  q20.2)) else (f_X8_advance_L106 (Kx X) 37 (fun w42 => if ((wI w42 803 37) - (wI w42 802 37)) ≤ 8 then ((f_X11_ofWord (Kx X) (wJ w42 805 37) w42).bind fun q53 => (some (sR q53.2 804 37 q53.1)).bind fun w54 => some w54) else ((some (sR w42 804 37 (some 20))).bind fun w55 => some w55)) fu  q16.2)) else ((some (sR w12 804 37 (some 19))).bind fun w56 => some w56))) (n - p) p w fu hf h (by omega) h6 (fu_lt (by omega))
  obtain ⟨w2, e2, o2, f2, t2⟩ := main w1 (o1.FX hf) (h.fr o1.fr (by omega) (by omega) (fun q => q)) q1
  refine ⟨w2, ?_, (o1.fr.mono (fun f x q => ⟨q.1, by omega, by omega⟩) (fun _ q => q)).trans o2, f2, t2⟩
  unfold f_X8_advance
  exact e1.trans e2
theorem FX.r800 {w : Wd} {v : Option Nat} (h : FX w) : FX (sR w 800 37 v) := ⟨fun p hp => by
  have e : p.1 ≠ 800 := (by decide +kernel : ∀ p, p ∈ frt → p.1 ≠ 800) p hp
  rw [wR_sR, if_neg (fun q => e q.1)]
  exact h.1 p hp, fun p hp => h.2 p hp⟩
def SCb (f x : Nat) : Prop := x = 37 ∧ 800 ≤ f ∧ f ≤ 806
theorem x_begin {w : Wd} {n : Nat} {bf : Nat → Int32} (hf : FX w) (hT : TX n bf) (hb : ∀ k, k < n → aI w 35 k = bf k) : ∃ w', f_X8_begin (Kx X) 37 (some 35) (nI n) w = some w' ∧ Fr SCb NA w w' ∧ FX w' ∧ XT w' n bf ∧ TKx w' n bf 0 := by
  have n9 := hT.1
  have f1 : FX (sI (sI (sR w 800 37 (some 35)) 801 37 (nI n)) 803 37 0) := hf.r800.sI.sI
  have r1 : Fr SCb NA w (sI (sI (sR w 800 37 (some 35)) 801 37 (nI n)) 803 37 0) := ((fr_sR ⟨rfl, by omega, by omega⟩).trans (fr_sI ⟨rfl, by omega, by omega⟩)).trans (fr_sI ⟨rfl, by omega, by omega⟩)
  have X1 : XT (sI (sI (sR w 800 37 (some 35)) 801 37 (nI n)) 803 37 0) n bf := ⟨by rw [wI_sI, if_neg (by omega), wI_sI, if_pos ⟨rfl, rfl⟩], by
    show wR (sR w 800 37 (some 35)) 800 37 = _
    rw [wR_sR, if_pos ⟨rfl, rfl⟩], hb⟩
  obtain ⟨w2, e2, r2, f2, t2⟩ := x_advance (X := X) f1 hT X1 (Nat.zero_le n) (by rw [wI_sI, if_pos ⟨rfl, rfl⟩]; rfl)
  refine ⟨w2, ?_, r1.trans (r2.mono (fun f x q => by unfold SCx at q; unfold SCb; omega) (fun _ q => q)), f2, X1.fr r2 (by unfold SCx; omega) (by unfold SCx; omega) (fun q => q), t2⟩
  unfold f_X8_begin
  rw [Option.bind_some, show cha (Kx X) 21 (some 35) = some (35, 900) from ca rfl (kx (X := X) (a := 35) (q := (21, 900)) (by decide +kernel)), Option.bind_some]
  try dsimp only
  rw [show imin (nI n) (nI 900) = nI n from by
    unfold imin
    rw [if_lt_f (by omega) (by omega) n9], Option.bind_some, Option.bind_some, e2, Option.bind_some]

