/-! The reference's next token. -/
def dgN (bf : Nat → Int32) (q : Nat) : Nat → Nat
  | 0 => 0
  | d + 1 => 10 * dgN bf q d + (cdF (bf (q + d)) - 48)
def tyT (n : Nat) (bf : Nat → Int32) (p : Nat) : Nat :=
  if n ≤ skT n bf p then 0 else if ltr (cdF (bf (skT n bf p))) = true then 1
  else if dgt (cdF (bf (skT n bf p))) = true then (if enT n bf p - skT n bf p ≤ 3 then 2 else 4) else if cdF (bf (skT n bf p)) = 59 then 3 else 4
def TKm (w : Wd) (n : Nat) (bf : Nat → Int32) (p : Nat) : Prop := wI w 1327 415 = nI (skT n bf p) ∧ wI w 1326 415 = nI (enT n bf p) ∧ wI w 1328 415 = nI (tyT n bf p) ∧ (tyT n bf p = 1 → wI w 1329 415 = oI (kwN (lts bf (skT n bf p) (enT n bf p - skT n bf p)))) ∧ (tyT n bf p = 2 → wI w 1330 415 = nI (dgN bf (skT n bf p) (enT n bf p - skT n bf p)))
theorem hrV_32 {n k : Nat} {bf : Nat → Int32} (hT : TX n bf) : hrV n bf k = 32 ↔ k < n ∧ cdF (bf k) = 32 := hrV_eq (c := 32) hT (by omega)
theorem hrV_10 {n k : Nat} {bf : Nat → Int32} (hT : TX n bf) : hrV n bf k = 10 ↔ k < n ∧ cdF (bf k) = 10 := hrV_eq (c := 10) hT (by omega)
theorem hrV_59 {n k : Nat} {bf : Nat → Int32} (hT : TX n bf) : hrV n bf k = 59 ↔ k < n ∧ cdF (bf k) = 59 := hrV_eq (c := 59) hT (by omega)
theorem nxt_ws {n : Nat} {bf : Nat → Int32} (hT : TX n bf) {k : Wd → Option Wd} : ∀ d p w f, FX w → MT w n bf → p + d = n → wI w 1326 415 = nI p → d < f → ∃ w', f_X13_next_L0 Kc 415 k f w = k w' ∧ Ofi NXS NA w w' ∧ wI w' 1326 415 = nI (run (fun k => spc (cdF (bf k))) d p)
  | 0, p, w, f, hf, h, hp, h6, hfu => by
    obtain ⟨f, rfl⟩ : ∃ g, f = g + 1 := ⟨f - 1, by omega⟩
    have n9 := hT.1
    refine ⟨w, ?_, Ofi.rf, by rw [run]; exact h6⟩
    have e := (hrV_m1 (n := n) (k := p) hT).mpr (by omega)
    rw [f_X13_next_L0, h6, m_here hf hT h (by omega), Option.bind_some]
    try dsimp only
    rw [if_neg (fun q => by have := (hrV_32 hT).mp q; omega), h6, m_here hf hT h (by omega), Option.bind_some]
    try dsimp only
    rw [if_neg (fun q => by have := (hrV_10 hT).mp q; omega)]
  | d + 1, p, w, f, hf, h, hp, h6, hfu => by
    obtain ⟨f, rfl⟩ : ∃ g, f = g + 1 := ⟨f - 1, by omega⟩
    have n9 := hT.1
    have o1 : Ofi NXS NA w (sI w 1326 415 (nI (p + 1))) := ofi_sI ⟨rfl, by omega, by omega⟩
    have st : spc (cdF (bf p)) = true → ∃ w', f_X13_next_L0 Kc 415 k f (sI w 1326 415 (nI (p + 1))) = k w' ∧ Ofi NXS NA w w' ∧ wI w' 1326 415 = nI (run (fun k => spc (cdF (bf k))) (d + 1) p) := fun e => by
      obtain ⟨w2, e2, o2, q2⟩ := nxt_ws hT (k := k) d (p + 1) (sI w 1326 415 (nI (p + 1))) f hf.sI (h.ofi o1 (by unfold NXS; omega) (fun q => q)) (by omega) (by rw [wI_sI, if_pos ⟨rfl, rfl⟩]) (by omega)
      exact ⟨w2, e2, o1.trans o2, by rw [run, if_pos e]; exact q2⟩
    rw [f_X13_next_L0, h6, m_here hf hT h (by omega), Option.bind_some]
    try dsimp only
    by_cases e1 : cdF (bf p) = 32
    · rw [if_pos ((hrV_32 hT).mpr ⟨by omega, e1⟩), Option.bind_some, h6, show nI p + 1 = nI (p + 1) from nI_add p 1]
      exact st (by unfold spc; rw [e1]; rfl)
    · rw [if_neg (fun q => e1 ((hrV_32 hT).mp q).2), h6, m_here hf hT h (by omega), Option.bind_some]
      try dsimp only
      by_cases e2 : cdF (bf p) = 10
      · rw [if_pos ((hrV_10 hT).mpr ⟨by omega, e2⟩), Option.bind_some, h6, show nI p + 1 = nI (p + 1) from nI_add p 1]
        exact st (by unfold spc; rw [e2]; rfl)
      · rw [if_neg (fun q => e2 ((hrV_10 hT).mp q).2)]
        refine ⟨w, rfl, Ofi.rf, ?_⟩
        rw [run, if_neg (by unfold spc; simp [e1, e2])]
        exact h6
theorem nxt_lt {n : Nat} {bf : Nat → Int32} (hT : TX n bf) {u : Int32} {k : Int32 → Wd → Option Wd} : ∀ d p w f, FX w → MT w n bf → p + d = n → wI w 1326 415 = nI p → d < f → ∃ w', f_X13_next_L83 Kc 415 k f u w = k u w' ∧ Ofi (fun f x => x = 415 ∧ f = 1326) NA w w' ∧ wI w' 1326 415 = nI (run (fun k => ltr (cdF (bf k))) d p)
  | 0, p, w, f, hf, h, hp, h6, hfu => by
    obtain ⟨f, rfl⟩ : ∃ g, f = g + 1 := ⟨f - 1, by omega⟩
    have n9 := hT.1
    refine ⟨w, ?_, Ofi.rf, by rw [run]; exact h6⟩
    rw [f_X13_next_L83, h6, m_here hf hT h (by omega), Option.bind_some]
    try dsimp only
    rw [show (97 : Int64) = (nI 97).toInt64 from rfl, show (122 : Int64) = (nI 122).toInt64 from rfl, hrV_in hT (by omega) (by omega), decide_eq_false (by omega), Bool.false_and, Option.bind_some, ib_f]
  | d + 1, p, w, f, hf, h, hp, h6, hfu => by
    obtain ⟨f, rfl⟩ : ∃ g, f = g + 1 := ⟨f - 1, by omega⟩
    have n9 := hT.1
    have o1 : Ofi (fun f x => x = 415 ∧ f = 1326) NA w (sI w 1326 415 (nI (p + 1))) := ofi_sI ⟨rfl, rfl⟩
    rw [f_X13_next_L83, h6, m_here hf hT h (by omega), Option.bind_some]
    try dsimp only
    rw [show (97 : Int64) = (nI 97).toInt64 from rfl, show (122 : Int64) = (nI 122).toInt64 from rfl, hrV_in hT (by omega) (by omega), decide_eq_true (by omega), Bool.true_and, Option.bind_some]
    try dsimp only
    cases e : ltr (cdF (bf p)) with
    | true =>
      have e0 : decide (97 ≤ cdF (bf p) ∧ cdF (bf p) ≤ 122) = true := e
      rw [e0, ib_t, h6, Option.bind_some, show nI p + 1 = nI (p + 1) from nI_add p 1]
      obtain ⟨w2, e2, o2, q2⟩ := nxt_lt hT (u := u) (k := k) d (p + 1) (sI w 1326 415 (nI (p + 1))) f hf.sI (h.ofi o1 (by omega) (fun q => q)) (by omega) (by rw [wI_sI, if_pos ⟨rfl, rfl⟩]) (by omega)
      exact ⟨w2, e2, o1.trans o2, by rw [run, if_pos e]; exact q2⟩
    | false =>
      have e0 : decide (97 ≤ cdF (bf p) ∧ cdF (bf p) ≤ 122) = false := e
      rw [e0, ib_f]
      refine ⟨w, rfl, Ofi.rf, ?_⟩
      rw [run, if_neg (by rw [e]; decide)]
      exact h6
theorem nxt_dg {n st : Nat} {bf : Nat → Int32} (hT : TX n bf) {u : Int32} {k : Int32 → Wd → Option Wd} : ∀ d p w f, FX w → MT w n bf → p + d = n → st ≤ p → wI w 1326 415 = nI p → wI w 1327 415 = nI st → (p - st ≤ 3 → wI w 1330 415 = nI (dgN bf st (p - st))) → d < f → ∃ w', f_X13_next_L152 Kc 415 k f u w = k u w' ∧ Ofi (fun f x => x = 415 ∧ (f = 1326 ∨ f = 1330)) NA w w' ∧ wI w' 1326 415 = nI (run (fun k => dgt (cdF (bf k))) d p) ∧ (run (fun k => dgt (cdF (bf k))) d p - st ≤ 3 → wI w' 1330 415 = nI (dgN bf st (run (fun k => dgt (cdF (bf k))) d p - st)))
  | 0, p, w, f, hf, h, hp, hs, h6, h7, h0, hfu => by
    obtain ⟨f, rfl⟩ : ∃ g, f = g + 1 := ⟨f - 1, by omega⟩
    have n9 := hT.1
    refine ⟨w, ?_, Ofi.rf, by rw [run]; exact h6, by rw [run]; exact h0⟩
    rw [f_X13_next_L152, h6, m_here hf hT h (by omega), Option.bind_some]
    try dsimp only
    rw [show (48 : Int64) = (nI 48).toInt64 from rfl, show (57 : Int64) = (nI 57).toInt64 from rfl, hrV_in hT (by omega) (by omega), decide_eq_false (by omega), Bool.false_and, Option.bind_some, ib_f]
  | d + 1, p, w, f, hf, h, hp, hs, h6, h7, h0, hfu => by
    obtain ⟨f, rfl⟩ : ∃ g, f = g + 1 := ⟨f - 1, by omega⟩
    have n9 := hT.1
    rw [f_X13_next_L152, h6, m_here hf hT h (by omega), Option.bind_some]
    try dsimp only
    rw [show (48 : Int64) = (nI 48).toInt64 from rfl, show (57 : Int64) = (nI 57).toInt64 from rfl, hrV_in hT (by omega) (by omega), decide_eq_true (by omega), Bool.true_and, Option.bind_some]
    try dsimp only
    cases e : dgt (cdF (bf p)) with
    | true =>
      have e0 : decide (48 ≤ cdF (bf p) ∧ cdF (bf p) ≤ 57) = true := e
      have e9 := of_decide_eq_true e0
      rw [e0, ib_t, h6, h7, sub_nI hs, show (3 : Int32) = nI 3 from rfl]
      by_cases e3 : 3 ≤ p - st
      · have o1 : Ofi (fun f x => x = 415 ∧ (f = 1326 ∨ f = 1330)) NA w (sI w 1326 415 (nI (p + 1))) := ofi_sI ⟨rfl, Or.inl rfl⟩
        rw [if_le_t (by omega) (by omega) e3, Option.bind_some, show nI p + 1 = nI (p + 1) from nI_add p 1]
        obtain ⟨w2, e2, o2, q2, z2⟩ := nxt_dg hT (st := st) (u := u) (k := k) d (p + 1) (sI w 1326 415 (nI (p + 1))) f hf.sI (h.ofi o1 (by omega) (fun q => q)) (by omega) (by omega) (by rw [wI_sI, if_pos ⟨rfl, rfl⟩]) (by rw [wI_sI, if_neg (by omega)]; exact h7) (fun q => by omega) (by omega)
        exact ⟨w2, e2, o1.trans o2, by rw [run, if_pos e]; exact q2, by rw [run, if_pos e]; exact z2⟩
      · have hv := h0 (by omega)
        have o1 : Ofi (fun f x => x = 415 ∧ (f = 1326 ∨ f = 1330)) NA w (sI (sI w 1330 415 (nI (dgN bf st (p + 1 - st)))) 1326 415 (nI (p + 1))) := (ofi_sI ⟨rfl, Or.inr rfl⟩).trans (ofi_sI ⟨rfl, Or.inl rfl⟩)
        have vv : nI 10 * nI (dgN bf st (p - st)) + nI (cdF (bf p)) - nI 48 = nI (dgN bf st (p + 1 - st)) := by
          rw [pk_mul, nI_add, sub_nI (by omega), show p + 1 - st = (p - st) + 1 by omega, dgN, show st + (p - st) = p by omega]
          exact congrArg nI (by omega)
        rw [if_le_f (by omega) (by omega) (by omega), m_here hf hT h (by omega), Option.bind_some]
        try dsimp only
        rw [hv, show hrV n bf p = nI (cdF (bf p)) from if_pos (by omega), show (10 : Int32) = nI 10 from rfl, show (48 : Int32) = nI 48 from rfl, vv, Option.bind_some, Option.bind_some, wI_sI, if_neg (by omega), h6, show nI p + 1 = nI (p + 1) from nI_add p 1]
        obtain ⟨w2, e2, o2, q2, z2⟩ := nxt_dg hT (st := st) (u := u) (k := k) d (p + 1) (sI (sI w 1330 415 (nI (dgN bf st (p + 1 - st)))) 1326 415 (nI (p + 1))) f hf.sI.sI (h.ofi o1 (by omega) (fun q => q)) (by omega) (by omega) (by rw [wI_sI, if_pos ⟨rfl, rfl⟩]) (by rw [wI_sI, if_neg (by omega), wI_sI, if_neg (by omega)]; exact h7) (fun _ => by rw [wI_sI, if_neg (by omega), wI_sI, if_pos ⟨rfl, rfl⟩]) (by omega)
        exact ⟨w2, e2, o1.trans o2, by rw [run, if_pos e]; exact q2, by rw [run, if_pos e]; exact z2⟩
    | false =>
      have e0 : decide (48 ≤ cdF (bf p) ∧ cdF (bf p) ≤ 57) = false := e
      rw [e0, ib_f]
      refine ⟨w, rfl, Ofi.rf, ?_, ?_⟩
      · rw [run, if_neg (by rw [e]; decide)]
        exact h6
      · rw [run, if_neg (by rw [e]; decide)]
        exact h0
theorem m_next {w : Wd} {n p : Nat} {bf : Nat → Int32} (hf : FX w) (hT : TX n bf) (h : MT w n bf) (hp : p ≤ n) (h6 : wI w 1326 415 = nI p) : ∃ w', f_X13_next Kc 415 w = some w' ∧ Ofi NXS NA w w' ∧ TKm w' n bf p := by
  have n9 := hT.1
  have sr := skT_rg (bf := bf) hp
  have er := enT_rg (bf := bf) hp
  have main : ∀ w1, FX w1 → MT w1 n bf → wI w1 1326 415 = nI (skT n bf p) → ∃ w', ((some (sI w1 1327 415 (wI w1 1326 415))).bind fun w8 => (f_X13_here Kc 415 (wI w8 1326 415) w8).bind fun q9 => if q9.1 = (-1) then ((some (sI q9.2 1328 415 0)).bind fun w40 => some w40) else ((f_X13_isIn Kc (q9.1.toInt64) 97 122 q9.2).bind fun q11 => if (b2i q11.1) = 0 then ((f_X13_isIn Kc (q9.1.toInt64) 48 57 q11.2).bind fun q13 => if (b2i q13.1) = 0 then ((some (sI q13.2 1326 415 ((wI q13.2 1326 415) + 1))).bind fun w15 => if q9.1 = 59 then ((some (sI w15 1328 415 3)).bind fun w18 => some w18) else ((some (sI w15 1328 415 4)).bind fun w17 => some w17)) else ((some (sI q13.2 1330 415 0)).bind fun w19 => f_X13_next_L152 Kc 415 (fun v1_152 w20 => if ((wI w20 1326 415) - (wI w20 1327 415)) ≤ 3 then ((some (sI w20 1328 415 2)).bind fun w30 => some w30) else ((some (sI w20 1328 415 4)).bind fun w31 => some w31)) fu q9.1 w19)) else (f_X13_next_L83 Kc 415 (fun v1_83 w32 => (some (sI w32 1328 415 1)).bind fun w37 => (f_X13_wordHere Kc 415 w37).bind fun q38 => (some (sI q38.2 1329 415 q38.1)).bind fun w39 => some w39) fu q9.1 q11.2))) = some w' ∧ Ofi NXS NA w1 w' ∧ TKm w' n bf p := by
    intro w1 f1 M1 g6
    have o2 : Ofi NXS NA w1 (sI w1 1327 415 (nI (skT n bf p))) := ofi_sI ⟨rfl, by omega, by omega⟩
    have M2 := M1.ofi o2 (by unfold NXS; omega) (fun q => q)
    have p6 : wI (sI w1 1327 415 (nI (skT n bf p))) 1326 415 = nI (skT n bf p) := by rw [wI_sI, if_neg (by omega)]; exact g6
    have p7 : wI (sI w1 1327 415 (nI (skT n bf p))) 1327 415 = nI (skT n bf p) := by rw [wI_sI, if_pos ⟨rfl, rfl⟩]
    rw [Option.bind_some, g6]
    have f2 : FX (sI w1 1327 415 (nI (skT n bf p))) := f1.sI
    generalize sI w1 1327 415 (nI (skT n bf p)) = w2 at *
    rw [p6, m_here f2 hT M2 (by omega), Option.bind_some]
    try dsimp only
    by_cases c0 : n ≤ skT n bf p
    · have en : enT n bf p = skT n bf p := by unfold enT; rw [if_pos c0]
      have ty : tyT n bf p = 0 := by unfold tyT; rw [if_pos c0]
      rw [if_pos ((hrV_m1 hT).mpr (by omega)), Option.bind_some]
      refine ⟨_, rfl, o2.trans (ofi_sI ⟨rfl, by omega, by omega⟩), by rw [wI_sI, if_neg (by omega)]; exact p7, by rw [wI_sI, if_neg (by omega), en]; exact p6, by rw [wI_sI, if_pos ⟨rfl, rfl⟩, ty]; rfl, fun q => by omega, fun q => by omega⟩
    · rw [if_neg (fun q => by have := (hrV_m1 hT).mp q; omega), show (97 : Int64) = (nI 97).toInt64 from rfl, show (122 : Int64) = (nI 122).toInt64 from rfl, hrV_in hT (by omega) (by omega), decide_eq_true (by omega), Bool.true_and, Option.bind_some]
      try dsimp only
      cases c1 : ltr (cdF (bf (skT n bf p))) with
      | true =>
        have e0 : decide (97 ≤ cdF (bf (skT n bf p)) ∧ cdF (bf (skT n bf p)) ≤ 122) = true := c1
        have en : enT n bf p = run (fun k => ltr (cdF (bf k))) (n - skT n bf p) (skT n bf p) := by unfold enT; rw [if_neg c0, if_pos c1]
        have ty : tyT n bf p = 1 := by unfold tyT; rw [if_neg c0, if_pos c1]
        rw [e0, ib_t]
        obtain ⟨w3, e3, o3, q3⟩ := nxt_lt hT (u := hrV n bf (skT n bf p)) (k := fun v1_83 w32 => (some (sI w32 1328 415 1)).bind fun w37 => (f_X13_wordHere Kc 415 w37).bind fun q38 => (some (sI q38.2 1329 415 q38.1)).bind fun w39 => some w39) (n - skT n bf p) (skT n bf p) w2 fu f2 M2 (by omega) p6 (fu_lt (by omega))
        rw [← en] at q3
        rw [e3, Option.bind_some]
        have o4 : Ofi (fun f x => x = 415 ∧ (f = 1326 ∨ f = 1328)) NA w2 (sI w3 1328 415 1) := (o3.mono (fun f x q => ⟨q.1, Or.inl q.2⟩) (fun _ q => q)).trans (ofi_sI ⟨rfl, Or.inr rfl⟩)
        have M4 := M2.ofi o4 (by omega) (fun q => q)
        have wh := m_wordHere (w := sI w3 1328 415 1) (st := skT n bf p) (d := enT n bf p - skT n bf p) (o4.FX f2) hT M4 (by rw [o4.2.1 1327 415 (by omega)]; exact p7) (by rw [wI_sI, if_neg (by omega), q3, show skT n bf p + (enT n bf p - skT n bf p) = enT n bf p by omega]) (by omega) (fun k hk => run_in (P := fun k => ltr (cdF (bf k))) (n - skT n bf p) (skT n bf p) (skT n bf p + k) (by omega) (by rw [← en]; omega))
        rw [wh, Option.bind_some, Option.bind_some]
        refine ⟨_, rfl, o2.trans ((o4.mono (fun f x q => ⟨q.1, by omega, by omega⟩) (fun _ q => q)).trans (ofi_sI ⟨rfl, by omega, by omega⟩)), by rw [wI_sI, if_neg (by omega), o4.2.1 1327 415 (by omega)]; exact p7, by rw [wI_sI, if_neg (by omega), wI_sI, if_neg (by omega)]; exact q3, by rw [wI_sI, if_neg (by omega), wI_sI, if_pos ⟨rfl, rfl⟩, ty]; rfl, fun _ => by rw [wI_sI, if_pos ⟨rfl, rfl⟩], fun q => by omega⟩
      | false =>
        have e0 : decide (97 ≤ cdF (bf (skT n bf p)) ∧ cdF (bf (skT n bf p)) ≤ 122) = false := c1
        rw [e0, ib_f, show (48 : Int64) = (nI 48).toInt64 from rfl, show (57 : Int64) = (nI 57).toInt64 from rfl, hrV_in hT (by omega) (by omega), decide_eq_true (by omega), Bool.true_and, Option.bind_some]
        try dsimp only
        cases c2 : dgt (cdF (bf (skT n bf p))) with
        | true =>
          have e1 : decide (48 ≤ cdF (bf (skT n bf p)) ∧ cdF (bf (skT n bf p)) ≤ 57) = true := c2
          have en : enT n bf p = run (fun k => dgt (cdF (bf k))) (n - skT n bf p) (skT n bf p) := by unfold enT; rw [if_neg c0, c1, if_neg (by decide), if_pos c2]
          have ty : tyT n bf p = if enT n bf p - skT n bf p ≤ 3 then 2 else 4 := by unfold tyT; rw [if_neg c0, c1, if_neg (by decide), if_pos c2]
          rw [e1, ib_t, Option.bind_some]
          have o3 : Ofi (fun f x => x = 415 ∧ (f = 1326 ∨ f = 1330)) NA w2 (sI w2 1330 415 0) := ofi_sI ⟨rfl, Or.inr rfl⟩
          obtain ⟨w4, e4, o4, q4, z4⟩ := nxt_dg hT (st := skT n bf p) (u := hrV n bf (skT n bf p)) (k := fun v1_152 w20 => if ((wI w20 1326 415) - (wI w20 1327 415)) ≤ 3 then ((some (sI w20 1328 415 2)).bind fun w30 => some w30) else ((some (sI w20 1328 415 4)).bind fun w31 => some w31)) (n - skT n bf p) (skT n bf p) (sI w2 1330 415 0) fu f2.sI (M2.ofi o3 (by omega) (fun q => q)) (by omega) (Nat.le_refl _) (by rw [wI_sI, if_neg (by omega)]; exact p6) (by rw [wI_sI, if_neg (by omega)]; exact p7) (fun _ => by rw [wI_sI, if_pos ⟨rfl, rfl⟩, Nat.sub_self]; rfl) (fu_lt (by omega))
          rw [← en] at q4 z4
          have o5 := o3.trans o4
          have g7 : wI w4 1327 415 = nI (skT n bf p) := by rw [o5.2.1 1327 415 (by omega)]; exact p7
          rw [e4, q4, g7, sub_nI er.1, show (3 : Int32) = nI 3 from rfl]
          by_cases c3 : enT n bf p - skT n bf p ≤ 3
          · rw [if_le_t (by omega) (by omega) c3, Option.bind_some]
            rw [if_pos c3] at ty
            refine ⟨_, rfl, o2.trans ((o5.mono (fun f x q => ⟨q.1, by omega, by omega⟩) (fun _ q => q)).trans (ofi_sI ⟨rfl, by omega, by omega⟩)), by rw [wI_sI, if_neg (by omega)]; exact g7, by rw [wI_sI, if_neg (by omega)]; exact q4, by rw [wI_sI, if_pos ⟨rfl, rfl⟩, ty]; rfl, fun q => by omega, fun q => by rw [wI_sI, if_neg (by omega)]; exact z4 c3⟩
          · rw [if_le_f (by omega) (by omega) (by omega), Option.bind_some]
            rw [if_neg c3] at ty
            refine ⟨_, rfl, o2.trans ((o5.mono (fun f x q => ⟨q.1, by omega, by omega⟩) (fun _ q => q)).trans (ofi_sI ⟨rfl, by omega, by omega⟩)), by rw [wI_sI, if_neg (by omega)]; exact g7, by rw [wI_sI, if_neg (by omega)]; exact q4, by rw [wI_sI, if_pos ⟨rfl, rfl⟩, ty]; rfl, fun q => by omega, fun q => by omega⟩
        | false =>
          have e1 : decide (48 ≤ cdF (bf (skT n bf p)) ∧ cdF (bf (skT n bf p)) ≤ 57) = false := c2
          have en : enT n bf p = skT n bf p + 1 := by unfold enT; rw [if_neg c0, c1, if_neg (by decide), c2, if_neg (by decide)]
          have ty : tyT n bf p = if cdF (bf (skT n bf p)) = 59 then 3 else 4 := by unfold tyT; rw [if_neg c0, c1, if_neg (by decide), c2, if_neg (by decide)]
          rw [e1, ib_f, p6, Option.bind_some, show nI (skT n bf p) + 1 = nI (skT n bf p + 1) from nI_add _ 1]
          have o3 : Ofi NXS NA w2 (sI w2 1326 415 (nI (skT n bf p + 1))) := ofi_sI ⟨rfl, by omega, by omega⟩
          by_cases c3 : cdF (bf (skT n bf p)) = 59
          · rw [if_pos ((hrV_59 hT).mpr ⟨by omega, c3⟩), Option.bind_some]
            rw [if_pos c3] at ty
            refine ⟨_, rfl, o2.trans (o3.trans (ofi_sI ⟨rfl, by omega, by omega⟩)), by rw [wI_sI, if_neg (by omega), wI_sI, if_neg (by omega)]; exact p7, by rw [wI_sI, if_neg (by omega), wI_sI, if_pos ⟨rfl, rfl⟩, en], by rw [wI_sI, if_pos ⟨rfl, rfl⟩, ty]; rfl, fun q => by omega, fun q => by omega⟩
          · rw [if_neg (fun q => c3 ((hrV_59 hT).mp q).2), Option.bind_some]
            rw [if_neg c3] at ty
            refine ⟨_, rfl, o2.trans (o3.trans (ofi_sI ⟨rfl, by omega, by omega⟩)), by rw [wI_sI, if_neg (by omega), wI_sI, if_neg (by omega)]; exact p7, by rw [wI_sI, if_neg (by omega), wI_sI, if_pos ⟨rfl, rfl⟩, en], by rw [wI_sI, if_pos ⟨rfl, rfl⟩, ty]; rfl, fun q => by omega, fun q => by omega⟩
  obtain ⟨w1, e1, o1, q1⟩ := nxt_ws hT (k := fun w1 => (some (sI w1 1327 415 (wI w1 1326 415))).bind fun w8 => (f_X13_here Kc 415 (wI w8 1326 415) w8).bind fun q9 => if q9.1 = (-1) then ((some (sI q9.2 1328 415 0)).bind fun w40 => some w40) else ((f_X13_isIn Kc (q9.1.toInt64) 97 122 q9.2).bind fun q11 => if (b2i q11.1) = 0 then ((f_X13_isIn Kc (q9.1.toInt64) 48 57 q11.2).bind fun q13 => if (b2i q13.1) = 0 then ((some (sI q13.2 1326 415 ((wI q13.2 1326 415) + 1))).bind fun w15 => if q9.1 = 59 then ((some (sI w15 1328 415 3)).bind fun w18 => some w18) else ((some (sI w15 1328 415 4)).bind fun w17 => some w17)) else ((some (sI q13.2 1330 415 0)).bind fun w19 => f_X13_next_L152 Kc 415 (fun v1_152 w20 => if ((wI w20 1326 415) - (wI w20 1327 415)) ≤ 3 then ((some (sI w20 1328 415 2)).bind fun w30 => some w30) else ((some (sI w20 1328 415 4)).bind fun w31 => some w31)) fu q9.1 w19)) else (f_X13_next_L83 Kc 415 (fun v1_83 w32 => (some (sI w32 1328 415 1)).bind fun w37 => (f_X13_wordHere Kc 415 w37).bind fun q38 => (some (sI q38.2 1329 415 q38.1)).bind fun w39 => some w39) fu q9.1 q11.2))) (n - p) p w fu hf h (by omega) h6 (fu_lt (by omega))
  obtain ⟨w2, e2, o2, t2⟩ := main w1 (o1.FX hf) (h.ofi o1 (by unfold NXS; omega) (fun q => q)) q1
  refine ⟨w2, ?_, o1.trans o2, t2⟩
  unfold f_X13_next
  exact e1.trans e2
