variable {X : Kd}
theorem nJ_push {a c : Nat} (ha : 256 * a + c < 2 ^ 63) (hc : c < 256) : lsl (nJ a) 8 ||| nJ c = nJ (256 * a + c) := by
  unfold lsl
  apply Int64.toBitVec_inj.mp
  rw [Int64.toBitVec_or, Int64.toBitVec_shiftLeft]
  apply BitVec.eq_of_toNat_eq
  have h8 : (((8 : Int32).toInt64 &&& 63).toBitVec.smod 64) = 8#64 := by decide
  rw [h8, BitVec.toNat_or, BitVec.shiftLeft_eq', BitVec.toNat_shiftLeft]
  have q : ∀ x, x < 2 ^ 63 → (nJ x).toBitVec.toNat = x := fun x hx => by
    rw [nJ_bv, BitVec.toNat_ofNat, Nat.mod_eq_of_lt (by omega)]
  rw [q a (by omega), q c (by omega), q _ ha, show (8#64).toNat = 8 from rfl, Nat.shiftLeft_eq, Nat.mod_eq_of_lt (show a * 2 ^ 8 < 2 ^ 64 by omega), Nat.mul_comm a (2 ^ 8), show 256 * a + c = 2 ^ 8 * a + c by omega, Nat.two_pow_add_eq_or_of_lt (by omega)]
theorem tok_d : ∀ i, i < 16 → tokP.getD i 0 = nJ (pkX (kwL i)) := by decide +kernel
theorem tok0_d : ∀ i, i < 21 → 16 ≤ i → tokP.getD i 0 = nJ 0 := by decide +kernel
theorem kwOK_d : ∀ i, i < 16 → NmOK (kwL i) := fun i hi => by
  obtain ⟨c1, c2, c3, c4, c5, c6⟩ := ch_d i hi
  refine ⟨c5, c6, fun c hc => ?_⟩
  obtain ⟨u, hu, rfl⟩ := List.getElem_of_mem hc
  have g3 : (kwL i).getD u 0 = (kwL i)[u] := by simp [List.getD, hu]
  have := c1 u hu
  rw [g3] at this
  exact this.2
theorem pkX_pos {l : List Nat} (h : NmOK l) : pkX l ≠ 0 := by
  obtain ⟨h1, h2, h3⟩ := h
  rcases List.eq_nil_or_concat l with e | ⟨a, c, e⟩
  · subst e; simp at h1
  · rw [List.concat_eq_append] at e
    subst e
    rw [pkX_G, pkG_snoc]
    omega
def kwI (l : List Nat) : Nat := match kwN l with
  | some i => i
  | none => 16
theorem x_ofWord {w : Wd} {l : List Nat} (hl : NmOK l) : f_X11_ofWord (Kx X) (nJ (pkX l)) w = some (some (kwI l), w) := by
  unfold f_X11_ofWord kwI kwN
  have tail : ∀ f, 5 < f → f_X11_ofWord_L2 (Kx X) (fun v0_2 v2_2 w1 => some ((some 16), w1)) f (nJ (pkX l)) (nI 16) w = some (some 16, w) := fun f hf => by
    refine loop_g (fun f c => f_X11_ofWord_L2 (Kx X) (fun v0_2 v2_2 w1 => some ((some 16), w1)) f (nJ (pkX l)) (nI (16 + c)) w) (fun _ => some (some 16, w)) 5 (fun f => ?_) (fun f c hc ih => ?_) f 0 (by omega) (by omega)
    · try dsimp only
      rw [f_X11_ofWord_L2, show (21 : Int32) = nI 21 from rfl, if_le_t (by omega) (by omega) (by omega)]
    · try dsimp only at ih ⊢
      rw [f_X11_ofWord_L2, show (21 : Int32) = nI 21 from rfl, if_le_f (by omega) (by omega) (by omega), ixa_n (by omega) (by omega), Option.bind_some, tok0_d (16 + c) (by omega) (by omega), if_neg (fun q => pkX_pos hl ((nJ_eq (by omega) hl.x63).mp (lgc_eq.mp q)).symm), show nI (16 + c) + 1 = nI (16 + (c + 1)) from nI_add _ 1]
      exact ih
  refine (loop_fst (fun f c => f_X11_ofWord_L2 (Kx X) (fun v0_2 v2_2 w1 => some ((some 16), w1)) (f + 5) (nJ (pkX l)) (nI c) w) (fun i => decide (kwL i = l)) 16 (fun i => some (some i, w)) (some (some 16, w)) (fun f => ?_) (fun f c hc hp => ?_) (fun f c hc hp => ?_) 16 0 (fu - 5) (by omega) (by unfold fu; omega)).trans ?_
  · exact tail (f + 1 + 5) (by omega)
  · have e := of_decide_eq_true hp
    try dsimp only
    rw [show f + 1 + 5 = (f + 5) + 1 by omega, f_X11_ofWord_L2, show (21 : Int32) = nI 21 from rfl, if_le_f (by omega) (by omega) (by omega), ixa_n (by omega) (by omega), Option.bind_some, tok_d c hc, e, if_pos (lgc_eq.mpr rfl), Option.bind_some]
  · have e := of_decide_eq_false hp
    try dsimp only
    rw [show f + 1 + 5 = (f + 5) + 1 by omega, f_X11_ofWord_L2, show (21 : Int32) = nI 21 from rfl, if_le_f (by omega) (by omega) (by omega), ixa_n (by omega) (by omega), Option.bind_some, tok_d c hc, if_neg (fun q => e ((pkX_inj (kwOK_d c hc) hl).mp (lgc_eq.mp q))), show nI c + 1 = nI (c + 1) from nI_add c 1]
  · cases fstF (fun i => decide (kwL i = l)) 0 16 <;> rfl
def ktT (n : Nat) (bf : Nat → Int32) (p : Nat) : Nat :=
  if n ≤ skT n bf p then 19 else if ltr (cdF (bf (skT n bf p))) = true then (if enT n bf p - skT n bf p ≤ 8 then kwI (lts bf (skT n bf p) (enT n bf p - skT n bf p)) else 20)
  else if dgt (cdF (bf (skT n bf p))) = true then (if enT n bf p - skT n bf p ≤ 3 then 17 else 20) else if cdF (bf (skT n bf p)) = 59 then 18 else 20
def XT (w : Wd) (n : Nat) (bf : Nat → Int32) : Prop := wI w 801 37 = nI n ∧ wR w 800 37 = some 35 ∧ ∀ k, k < n → aI w 35 k = bf k
def SCx (f x : Nat) : Prop := x = 37 ∧ 802 ≤ f ∧ f ≤ 806
def TKx (w : Wd) (n : Nat) (bf : Nat → Int32) (p : Nat) : Prop := wI w 802 37 = nI (skT n bf p) ∧ wI w 803 37 = nI (enT n bf p) ∧ wR w 804 37 = some (ktT n bf p) ∧ (tyT n bf p = 1 → enT n bf p - skT n bf p ≤ 8 → wJ w 805 37 = nJ (pkX (lts bf (skT n bf p) (enT n bf p - skT n bf p)))) ∧ (ktT n bf p = 17 → wI w 806 37 = nI (dgN bf (skT n bf p) (enT n bf p - skT n bf p)))
theorem XT.c {w : Wd} {n : Nat} {bf : Nat → Int32} (h : XT w n bf) : cha (Kx X) 21 (wR w 800 37) = some (35, 900) := ca h.2.1 (by first | decide +kernel | exact kx (by decide +kernel))
theorem XT.fr {S : Nat → Nat → Prop} {A : Nat → Prop} {w w' : Wd} {n : Nat} {bf : Nat → Int32} (h : XT w n bf) (k : Fr S A w w') (h1 : ¬ S 801 37) (h2 : ¬ S 800 37) (h3 : ¬ A 35) : XT w' n bf := ⟨by rw [(k.1 _ _ h1).1]; exact h.1, by rw [(k.1 _ _ h2).2.1]; exact h.2.1, fun i hi => by rw [(k.2 _ h3).1]; exact h.2.2 i hi⟩
theorem FX.r804 {w : Wd} {v : Option Nat} (h : FX w) : FX (sR w 804 37 v) := ⟨fun p hp => by
  have e : p.1 ≠ 804 := (by decide +kernel : ∀ p, p ∈ frt → p.1 ≠ 804) p hp
  rw [wR_sR, if_neg (fun q => e q.1)]
  exact h.1 p hp, fun p hp => h.2 p hp⟩
theorem fr_sJ {S : Nat → Nat → Prop} {A : Nat → Prop} {w : Wd} {f a : Nat} {v : Int64} : Fr S A w (sJ w f a v) := ⟨fun _ _ _ => ⟨rfl, rfl, rfl⟩, fun _ _ => ⟨rfl, rfl, rfl⟩⟩
theorem wJ_sJ {w : Wd} {f a g x : Nat} {v : Int64} : wJ (sJ w f a v) g x = if g = f ∧ x = a then v else wJ w g x := rfl
theorem adv_ws {n : Nat} {bf : Nat → Int32} (hT : TX n bf) {k : Wd → Option Wd} : ∀ d p w f, FX w → XT w n bf → p + d = n → wI w 803 37 = nI p → d < f → ∃ w', f_X8_advance_L0 (Kx X) 37 k f w = k w' ∧ Ofi (fun f x => x = 37 ∧ f = 803) NA w w' ∧ wI w' 803 37 = nI (run (fun k => spc (cdF (bf k))) d p)
  | 0, p, w, f, hf, h, hp, h6, hfu => by
    obtain ⟨f, rfl⟩ : ∃ g, f = g + 1 := ⟨f - 1, by omega⟩
    have n9 := hT.1
    refine ⟨w, ?_, Ofi.rf, by rw [run]; exact h6⟩
    rw [f_X8_advance_L0, h6, h.1, if_le_t (by omega) (by omega) (by omega)]
  | d + 1, p, w, f, hf, h, hp, h6, hfu => by
    obtain ⟨f, rfl⟩ : ∃ g, f = g + 1 := ⟨f - 1, by omega⟩
    have n9 := hT.1
    have o1 : Ofi (fun f x => x = 37 ∧ f = 803) NA w (sI w 803 37 (nI (p + 1))) := ofi_sI ⟨rfl, rfl⟩
    have st : spc (cdF (bf p)) = true → ∃ w', f_X8_advance_L0 (Kx X) 37 k f (sI w 803 37 (nI (p + 1))) = k w' ∧ Ofi (fun f x => x = 37 ∧ f = 803) NA w w' ∧ wI w' 803 37 = nI (run (fun k => spc (cdF (bf k))) (d + 1) p) := fun e => by
      obtain ⟨w2, e2, o2, q2⟩ := adv_ws hT (k := k) d (p + 1) (sI w 803 37 (nI (p + 1))) f hf.sI (h.fr o1.fr (by omega) (by omega) (fun q => q)) (by omega) (by rw [wI_sI, if_pos ⟨rfl, rfl⟩]) (by omega)
      exact ⟨w2, e2, o1.trans o2, by rw [run, if_pos e]; exact q2⟩
    rw [f_X8_advance_L0, h6, h.1, if_le_f (by omega) (by omega) (by omega), h.c, Option.bind_some]
    try dsimp only
    rw [ixa_n (by omega) (by omega), Option.bind_some, h.2.2 p (by omega)]
    by_cases e1 : cdF (bf p) = 32
    · rw [if_pos (show bf p = 32 from (byte_eq (hT.2 p (by omega)) (c := 32) (by omega)).mpr e1), Option.bind_some, show nI p + 1 = nI (p + 1) from nI_add p 1]
      exact st (by unfold spc; rw [e1]; rfl)
    · rw [if_neg (show ¬ bf p = 32 from fun q => e1 ((byte_eq (hT.2 p (by omega)) (c := 32) (by omega)).mp q)), Option.bind_some, h.2.2 p (by omega)]
      by_cases e2 : cdF (bf p) = 10
      · rw [if_pos (show bf p = 10 from (byte_eq (hT.2 p (by omega)) (c := 10) (by omega)).mpr e2), Option.bind_some, show nI p + 1 = nI (p + 1) from nI_add p 1]
        exact st (by unfold spc; rw [e2]; rfl)
      · rw [if_neg (show ¬ bf p = 10 from fun q => e2 ((byte_eq (hT.2 p (by omega)) (c := 10) (by omega)).mp q))]
        refine ⟨w, rfl, Ofi.rf, ?_⟩
        rw [run, if_neg (by unfold spc; simp [e1, e2])]
        exact h6
theorem lts_ok {bf : Nat → Int32} {st d : Nat} (h1 : 1 ≤ d) (h8 : d ≤ 8) (hl : ∀ k, k < d → ltr (cdF (bf (st + k))) = true) : NmOK (lts bf st d) := by
  refine ⟨by rw [lts_len]; exact h1, by rw [lts_len]; exact h8, fun c hc => ?_⟩
  obtain ⟨u, hu, rfl⟩ := List.getElem_of_mem hc
  have hu2 : u < d := by rw [lts_len] at hu; exact hu
  have g4 : (lts bf st d).getD u 0 = (lts bf st d)[u] := by simp [List.getD, hu]
  rw [← g4, lts_get hu2]
  have := hl u hu2
  unfold ltr at this
  have := of_decide_eq_true this
  omega
def SCl (f x : Nat) : Prop := x = 37 ∧ f = 803
theorem adv_lt {n st : Nat} {bf : Nat → Int32} (hT : TX n bf) {k : Wd → Option Wd} : ∀ d p w f, FX w → XT w n bf → p + d = n → st ≤ p → (∀ u, st ≤ u → u < p → ltr (cdF (bf u)) = true) → wI w 803 37 = nI p → (p - st ≤ 8 → wJ w 805 37 = nJ (pkX (lts bf st (p - st)))) → d < f → ∃ w', f_X8_advance_L106 (Kx X) 37 k f w = k w' ∧ Fr SCl NA w w' ∧ FX w' ∧ wI w' 803 37 = nI (run (fun k => ltr (cdF (bf k))) d p) ∧ (run (fun k => ltr (cdF (bf k))) d p - st ≤ 8 → wJ w' 805 37 = nJ (pkX (lts bf st (run (fun k => ltr (cdF (bf k))) d p - st))))
  | 0, p, w, f, hf, h, hp, hs, hl, h6, hw, hfu => by
    obtain ⟨f, rfl⟩ : ∃ g, f = g + 1 := ⟨f - 1, by omega⟩
    have n9 := hT.1
    refine ⟨w, ?_, Fr.rf, hf, by rw [run]; exact h6, by rw [run]; exact hw⟩
    rw [f_X8_advance_L106, h6, h.1, if_le_t (by omega) (by omega) (by omega)]
  | d + 1, p, w, f, hf, h, hp, hs, hl, h6, hw, hfu => by
    obtain ⟨f, rfl⟩ : ∃ g, f = g + 1 := ⟨f - 1, by omega⟩
    have n9 := hT.1
    have hb := hT.2 p (by omega)
    rw [f_X8_advance_L106, h6, h.1, if_le_f (by omega) (by omega) (by omega), h.c, Option.bind_some]
    try dsimp only
    rw [ixa_n (by omega) (by omega), Option.bind_some, h.2.2 p (by omega), x_isLetter hb, Option.bind_some]
    try dsimp only
    cases e : ltr (cdF (bf p)) with
    | true =>
      have e9 : 97 ≤ cdF (bf p) ∧ cdF (bf p) ≤ 122 := of_decide_eq_true e
      have eb : bf p = nI (cdF (bf p)) := (byte_cs hb).2.2.1 (by omega)
      rw [ib_t, h.c, Option.bind_some]
      try dsimp only
      rw [h6, ixa_n (by omega) (by omega), Option.bind_some, h.2.2 p (by omega), Option.bind_some, Option.bind_some]
      generalize hv : lsl (wJ w 805 37) 8 ||| (bf p).toInt64 = v
      have k1 : Fr SCl NA w (sI (sJ w 805 37 v) 803 37 (nI (p + 1))) := fr_sJ.trans (fr_sI ⟨rfl, rfl⟩)
      have f1 : FX (sI (sJ w 805 37 v) 803 37 (nI (p + 1))) := hf.sJ.sI
      rw [show wI (sJ w 805 37 v) 803 37 = nI p from h6, show nI p + 1 = nI (p + 1) from nI_add p 1]
      obtain ⟨w2, e2, o2, f2, q2, z2⟩ := adv_lt hT (st := st) (k := k) d (p + 1) (sI (sJ w 805 37 v) 803 37 (nI (p + 1))) f f1 (h.fr k1 (by unfold SCl; omega) (by unfold SCl; omega) (fun q => q)) (by omega) (by omega) (fun u u1 u2 => by
        by_cases eu : u = p
        · rw [eu]; exact e
        · exact hl u u1 (by omega)) (by rw [wI_sI, if_pos ⟨rfl, rfl⟩]) (fun q8 => by
        show wJ (sJ w 805 37 v) 805 37 = _
        rw [wJ_sJ, if_pos ⟨rfl, rfl⟩, ← hv, hw (by omega), (congrArg Int32.toInt64 eb).trans (nJ_of (by omega)), show p + 1 - st = (p - st) + 1 by omega, lts_succ, show st + (p - st) = p by omega, pkX_G, pkX_G, pkG_snoc, show 96 + (cdF (bf p) - 96) = cdF (bf p) by omega]
        have ok := (lts_ok (bf := bf) (st := st) (d := p - st + 1) (by omega) (by omega) (fun k hk => by
          by_cases eu : st + k = p
          · rw [eu]; exact e
          · exact hl (st + k) (by omega) (by omega))).x63
        rw [lts_succ, show st + (p - st) = p by omega, pkX_G, pkG_snoc, show 96 + (cdF (bf p) - 96) = cdF (bf p) by omega] at ok
        exact nJ_push ok (by omega)) (by omega)
      exact ⟨w2, e2, k1.trans o2, f2, by rw [run, if_pos e]; exact q2, by rw [run, if_pos e]; exact z2⟩
    | false =>
      rw [ib_f]
      refine ⟨w, rfl, Fr.rf, hf, ?_, ?_⟩
      · rw [run, if_neg (by rw [e]; decide)]
        exact h6
      · rw [run, if_neg (by rw [e]; decide)]
        exact hw
theorem adv_dg {n st : Nat} {bf : Nat → Int32} (hT : TX n bf) {k : Wd → Option Wd} : ∀ d p w f, FX w → XT w n bf → p + d = n → st ≤ p → wI w 803 37 = nI p → (p - st ≤ 3 → wI w 806 37 = nI (dgN bf st (p - st))) → d < f → ∃ w', f_X8_advance_L216 (Kx X) 37 k f w = k w' ∧ Ofi (fun f x => x = 37 ∧ (f = 803 ∨ f = 806)) NA w w' ∧ wI w' 803 37 = nI (run (fun k => dgt (cdF (bf k))) d p) ∧ (run (fun k => dgt (cdF (bf k))) d p - st ≤ 3 → wI w' 806 37 = nI (dgN bf st (run (fun k => dgt (cdF (bf k))) d p - st)))
  | 0, p, w, f, hf, h, hp, hs, h6, h0, hfu => by
    obtain ⟨f, rfl⟩ : ∃ g, f = g + 1 := ⟨f - 1, by omega⟩
    have n9 := hT.1
    refine ⟨w, ?_, Ofi.rf, by rw [run]; exact h6, by rw [run]; exact h0⟩
    rw [f_X8_advance_L216, h6, h.1, if_le_t (by omega) (by omega) (by omega)]
  | d + 1, p, w, f, hf, h, hp, hs, h6, h0, hfu => by
    obtain ⟨f, rfl⟩ : ∃ g, f = g + 1 := ⟨f - 1, by omega⟩
    have n9 := hT.1
    have hb := hT.2 p (by omega)
    rw [f_X8_advance_L216, h6, h.1, if_le_f (by omega) (by omega) (by omega), h.c, Option.bind_some]
    try dsimp only
    rw [ixa_n (by omega) (by omega), Option.bind_some, h.2.2 p (by omega), x_isDigit hb, Option.bind_some]
    try dsimp only
    cases e : dgt (cdF (bf p)) with
    | true =>
      have e9 : 48 ≤ cdF (bf p) ∧ cdF (bf p) ≤ 57 := of_decide_eq_true e
      have eb : bf p = nI (cdF (bf p)) := (byte_cs hb).2.2.1 (by omega)
      rw [ib_t, h.c, Option.bind_some]
      try dsimp only
      rw [h6, ixa_n (by omega) (by omega), Option.bind_some, h.2.2 p (by omega), Option.bind_some, Option.bind_some]
      generalize hv : wI w 806 37 * 10 + (bf p - 48) = v
      have o1 : Ofi (fun f x => x = 37 ∧ (f = 803 ∨ f = 806)) NA w (sI (sI w 806 37 v) 803 37 (nI (p + 1))) := (ofi_sI ⟨rfl, Or.inr rfl⟩).trans (ofi_sI ⟨rfl, Or.inl rfl⟩)
      rw [wI_sI, if_neg (by omega), h6, show nI p + 1 = nI (p + 1) from nI_add p 1]
      obtain ⟨w2, e2, o2, q2, z2⟩ := adv_dg hT (st := st) (k := k) d (p + 1) (sI (sI w 806 37 v) 803 37 (nI (p + 1))) f hf.sI.sI (h.fr o1.fr (by omega) (by omega) (fun q => q)) (by omega) (by omega) (by rw [wI_sI, if_pos ⟨rfl, rfl⟩]) (fun q3 => by
        rw [wI_sI, if_neg (by omega), wI_sI, if_pos ⟨rfl, rfl⟩, ← hv, h0 (by omega), show (10 : Int32) = nI 10 from rfl, pk_mul, show (48 : Int32) = nI 48 from rfl, (congrArg (fun z => z - nI 48) eb).trans (sub_nI (by omega)), nI_add, show p + 1 - st = (p - st) + 1 by omega, dgN, show st + (p - st) = p by omega, Nat.mul_comm]) (by omega)
      exact ⟨w2, e2, o1.trans o2, by rw [run, if_pos e]; exact q2, by rw [run, if_pos e]; exact z2⟩
    | false =>
      rw [ib_f]
      refine ⟨w, rfl, Ofi.rf, ?_, ?_⟩
      · rw [run, if_neg (by rw [e]; decide)]
        exact h6
      · rw [run, if_neg (by rw [e]; decide)]
        exact h0

