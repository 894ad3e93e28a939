/-! Bars, forecasts, what is saved. -/
variable {X : Kd}
theorem m_addBar {w : Wd} {b m : Nat} {s t : Nat → Nat} {hs : Nat → Nat → Nat} (h : Cst w b s t m hs) {o j : Nat} (ho : o < s 1) (hj : j < s 3) : (f_X12_addBar (Kx X) 0 (nI o) (nI j) w = some (.inr 3, w)) ∨ (∃ w2, (cs t j 0 = 1 ∧ cs t j 6 = o) ∧ f_X12_addBar (Kx X) 0 (nI o) (nI j) w = some (.inl true, w2) ∧ Cst w2 b s (tkT s (brT t j o) j 1) (rmM m) (rmH m hs t)) ∨ (∃ w2, ¬ (cs t j 0 = 1 ∧ cs t j 6 = o) ∧ f_X12_addBar (Kx X) 0 (nI o) (nI j) w = some (.inl false, w2) ∧ Cst w2 b s (brT t j o) (rmM m) (rmH m hs t)) := by
  have hx := h.1
  have hp := h.2.1
  have hs1 := hx.gs.1
  have hj12 : j < 12 := by omega
  have bl := hx.gt.2.2.2.2.2.1 j hj12
  have p6 : 2 ^ s 1 ≤ 2 ^ 6 := Nat.pow_le_pow_right (by omega) (by omega)
  have bl2 : t (34 + j) < 2 ^ 31 := by omega
  have bl3 : t (34 + j) < 2 ^ 32 := by omega
  have po : 2 ^ o < 2 ^ 32 := Nat.pow_lt_pow_right (by omega) (by omega)
  have c3 := hx.gt.c3 hj12
  have e : inR (nI o) (s 1) := by rw [show inR (nI o) (s 1) ↔ (0 ≤ (nI o).toInt ∧ (nI o).toInt < (s 1 : Int)) from Iff.rfl, nI_toInt (by omega)]; omega
  have e2 : inR (nI j) (s 3) := by rw [show inR (nI j) (s 3) ↔ (0 ≤ (nI j).toInt ∧ (nI j).toInt < (s 3 : Int)) from Iff.rfl, nI_toInt (by omega)]; omega
  have xpre : ∀ w1, f_X12_remember (Kx X) 0 w = some w1 → HX w1 73 b s t → (t (34 + j)).testBit o = false → f_X12_addBar (Kx X) 0 (nI o) (nI j) w = ((chk (Kx X) 9 (wR (tI w1 77 j (nI (t (34 + j) ||| 2 ^ o))) 1205 0)).bind fun a16 => (cha (Kx X) 27 (wR (tI w1 77 j (nI (t (34 + j) ||| 2 ^ o))) 1005 a16)).bind fun a17 => (ixa (nI j) a17.2).bind fun j18 => (chk (Kx X) 6 (aR (tI w1 77 j (nI (t (34 + j) ||| 2 ^ o))) a17.1 j18)).bind fun a19 => if (wI (tI w1 77 j (nI (t (34 + j) ||| 2 ^ o))) 700 a19) = 1 then (if (wI (tI w1 77 j (nI (t (34 + j) ||| 2 ^ o))) 705 a19) = (nI o) then ((f_X10_takeAway (Kx X) a16 (nI j) 1 (tI w1 77 j (nI (t (34 + j) ||| 2 ^ o)))).bind fun q25 => some (.inl true, q25)) else (some (.inl false, (tI w1 77 j (nI (t (34 + j) ||| 2 ^ o)))))) else (some (.inl false, (tI w1 77 j (nI (t (34 + j) ||| 2 ^ o)))))) := fun w1 e1 k1 e3 => by
    unfold f_X12_addBar
    rw [x_re1 hx, if_pos e, Option.bind_some, xk_l]
    try dsimp only
    rw [x_re3 hx, if_pos e2, Option.bind_some, xk_l]
    try dsimp only
    rw [x1205 hx.1, Option.bind_some, t1004 hx.1 (by decide), Option.bind_some]
    try dsimp only
    rw [ixa_n hj12 (by omega), Option.bind_some, show aI w 77 j = nI (t (34 + j)) from hx.2.2.2.1.2.2.2.1 j hj12, x_has bl2 (by omega), e3, Option.bind_some]
    try dsimp only
    rw [ib_f, e1, Option.bind_some, x1205 k1.1, Option.bind_some, t1004 k1.1 (by decide), Option.bind_some]
    try dsimp only
    rw [ixa_n hj12 (by omega), Option.bind_some, Option.bind_some, Option.bind_some, show aI w1 77 j = nI (t (34 + j)) from k1.2.2.2.1.2.2.2.1 j hj12, show (31 : Int32) = nI 31 from rfl, show (1 : Int32) = nI 1 from rfl, shl_nI (by omega) (by rw [Nat.one_mul]; exact po), Nat.one_mul, or_nI bl3 po]
  cases e3 : (t (34 + j)).testBit o with
  | false =>
    by_cases e4 : cs t j 0 = 1 ∧ cs t j 6 = o
    · have hr : hrg (brT t j o) j = true := by unfold hrg; rw [brT_cs hj12, e4.1]; rfl
      refine Or.inr (Or.inl ?_)
      obtain ⟨w4, x4, k4⟩ := Xmut (X := X) (F := f_X12_addBar (Kx X) 0 (nI o) (nI j)) (t' := tkT s (brT t j o) j 1) (v := (.inl true : Bool ⊕ Nat)) h Fr.rf hx.1 (pok_tkT (brT_good hx.gt hj12 ho) (brT_ok hp hj12) hj12) (fun w1 e1 k1 r1 => by
        have k2 := x_br k1 hj12 ho
        obtain ⟨w3, x3, k3, o3⟩ := x_takeAway (X := X) k2 hj (p := 1) (by omega) hr
        refine ⟨w3, ?_, k3, ((ofi_tI (S := NS) (A := fun x => x = 77) rfl).fr.mono (fun _ _ q => q.elim) (fun x q => by unfold MA RG; omega)).trans (o3.fr.mono (fun f x q => by unfold MX RG; omega) (fun x q => by unfold MA RG; omega))⟩
        rw [xpre w1 e1 k1 e3, x1205 k2.1, Option.bind_some, k2.pg, Option.bind_some]
        try dsimp only
        rw [ixa_n hj12 (by omega), Option.bind_some, k2.pe hj12, Option.bind_some, k2.p0 hj12, brT_cs hj12, if_pos (show nI (cs t j 0) = 1 by rw [e4.1]; rfl), k2.p5 hj12 hr, brT_cs hj12, if_eq_t e4.2]
        have x4 : f_X10_takeAway (Kx X) 73 (nI j) 1 (tI w1 77 j (nI (t (34 + j) ||| 2 ^ o))) = some w3 := x3
        rw [x4, Option.bind_some])
      exact ⟨w4, e4, x4, k4⟩
    · refine Or.inr (Or.inr ?_)
      obtain ⟨w4, x4, k4⟩ := Xmut (X := X) (F := f_X12_addBar (Kx X) 0 (nI o) (nI j)) (t' := brT t j o) (v := (.inl false : Bool ⊕ Nat)) h Fr.rf hx.1 (brT_ok hp hj12) (fun w1 e1 k1 r1 => by
        have k2 := x_br k1 hj12 ho
        refine ⟨_, ?_, k2, ((ofi_tI (S := NS) (A := fun x => x = 77) rfl).fr.mono (fun _ _ q => q.elim) (fun x q => by unfold MA RG; omega))⟩
        rw [xpre w1 e1 k1 e3, x1205 k2.1, Option.bind_some, k2.pg, Option.bind_some]
        try dsimp only
        rw [ixa_n hj12 (by omega), Option.bind_some, k2.pe hj12, Option.bind_some, k2.p0 hj12, brT_cs hj12]
        by_cases e5 : cs t j 0 = 1
        · have hr : hrg (brT t j o) j = true := by unfold hrg; rw [brT_cs hj12, e5]; rfl
          have h6 := hx.gt.hr hj12 (by unfold hrg; rw [e5]; rfl)
          rw [if_pos (show nI (cs t j 0) = 1 by rw [e5]; rfl), k2.p5 hj12 hr, brT_cs hj12, if_eq_f (by omega) (by omega) (fun q => e4 ⟨e5, q⟩)]
        · rw [if_neg (show ¬ nI (cs t j 0) = 1 from fun q => e5 ((nI_eq (b := 1) (by omega) (by omega)).mp q))])
      exact ⟨w4, e4, x4, k4⟩
  | true =>
    refine Or.inl ?_
    unfold f_X12_addBar
    rw [x_re1 hx, if_pos e, Option.bind_some, xk_l]
    try dsimp only
    rw [x_re3 hx, if_pos e2, Option.bind_some, xk_l]
    try dsimp only
    rw [x1205 hx.1, Option.bind_some, t1004 hx.1 (by decide), Option.bind_some]
    try dsimp only
    rw [ixa_n hj12 (by omega), Option.bind_some, show aI w 77 j = nI (t (34 + j)) from hx.2.2.2.1.2.2.2.1 j hj12, x_has bl2 (by omega), e3, Option.bind_some]
    try dsimp only
    rw [ib_t]
theorem n_lapsesIn {w : Wd} {b m : Nat} {s t : Nat → Nat} {hs : Nat → Nat → Nat} (h : Cst w b s t m hs) {n : Nat} (n0 : 0 < n) (n2 : n ≤ 99) (n1 : t 0 + n < 600) : ∃ w2, f_NX12_lapsesIn (Kx X) 0 (nI n) w = some (nI (cnt (fun i => cs (phT t (t 0 + n) (fin s t n)) i 0 == 3) (s 3)) - nI (cnt (fun i => cs t i 0 == 3) (s 3)), w2) ∧ Cst w2 b s t m hs := by
  have hx := h.1
  obtain ⟨w1, e1, r1, k1, h1⟩ := cp133 (X := X) hx
  obtain ⟨w2, e2, k2, o2⟩ := x_passDays (X := X) k1 n0 n1
  have r2 : Fr TSx TAx w1 w2 := o2.fr.mono (fun _ x q => Or.inl (by unfold PD at q; omega)) (fun x q => Or.inl (by unfold PD at q; omega))
  refine ⟨w2, ?_, h.fr (r1.trans r2) k2.1⟩
  unfold f_NX12_lapsesIn
  rw [n_reP hx n0 n2 n1, Option.bind_some, x1205 hx.1, Option.bind_some, show (3 : Int32) = nI 3 from rfl, x_countPhase hx (by omega), Option.bind_some]
  try dsimp only
  rw [x1208 hx.1, Option.bind_some, e1, Option.bind_some, x1208 k1.1, Option.bind_some, e2, Option.bind_some]
  try dsimp only
  rw [x1208 k2.1, Option.bind_some, x_countPhase k2 (by omega), Option.bind_some]
theorem n_plannable {w : Wd} {b m : Nat} {s t : Nat → Nat} {hs : Nat → Nat → Nat} (h : Cst w b s t m hs) : ∃ w2, f_X12_plannable (Kx X) 0 w = some (nI (plN s t (-nI 1)), w2) ∧ Cst w2 b s t m hs := by
  obtain ⟨w1, e1, r1, k1⟩ := x_forecast (X := X) h.1 (AB0 h.1.gs.1.2.1)
  refine ⟨w1, ?_, h.fr r1 k1.1⟩
  unfold f_X12_plannable
  rw [show (0 : Int32) = nI 0 from rfl, e1, Option.bind_some]
theorem n_save {w : Wd} {b m : Nat} {s t : Nat → Nat} {hs : Nat → Nat → Nat} (h : Cst w b s t m hs) : ∃ w2, f_X12_saveState (Kx X) 0 w = some (nI (t 0), w2) ∧ Cst w2 b s t m hs ∧ SVx w2 b s true t := by
  obtain ⟨w1, e1, r1, k1, v1⟩ := x_saveState (X := X) h.1
  have ub := SU_rg h.1.2.1.2.1
  refine ⟨w1, e1, ⟨k1, h.2.1, h.2.2.1.fr h.1.2.1.2.1 r1 k1.1 (fun f x q => by unfold RG at q; unfold inU; omega) (fun x q => by unfold RG at q; unfold inU; omega), h.2.2.2⟩, v1⟩
theorem m_restore {w : Wd} {b m : Nat} {s t st : Nat → Nat} {hs : Nat → Nat → Nat} (h : Cst w b s t m hs) (hv : SVx w b s true st) (hp : POK s st) : ∃ w2, f_NX12_restoreState (Kx X) 0 w = some (nI (st 0), w2) ∧ Cst w2 b s st 0 hs := by
  obtain ⟨w1, e1, r1, k1, g1⟩ := n_restore (X := X) h.1 hv
  exact ⟨w1, e1, k1, hp, HSx.of73 h.2.2.1 h.1.2.1.2.1 r1 k1.1 (by omega) g1, fun i hi => by omega⟩
theorem m_undo {w : Wd} {b m : Nat} {s t : Nat → Nat} {hs : Nat → Nat → Nat} (h : Cst w b s t (m + 1) hs) : ∃ w2, f_NX12_undo (Kx X) 0 w = some (nI m, w2) ∧ Cst w2 b s (hs m) m hs := by
  obtain ⟨w1, e1, r1, k1, v1⟩ := n_undo (X := X) h.1 h.2.2.1
  exact ⟨w1, e1, k1, h.2.2.2 m (by omega), v1, fun i hi => h.2.2.2 i (by omega)⟩
