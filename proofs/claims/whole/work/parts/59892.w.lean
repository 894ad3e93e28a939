/-! The fewest officers: the class's bench is laid; both sides. -/
def SBe (f x : Nat) : Prop := x = 409 ∧ (f = 103 ∨ f = 104)
def ABe (x : Nat) : Prop := 410 ≤ x ∧ x < 413
theorem x_prepL {w : Wd} {s t : Nat → Nat} (hS : GoodS s) (hT : GoodT s t) (hf : FX w) (h104 : wI w 104 409 = nI (s 1)) {c : Nat} (hc : c < s 3) (h412 : aI w 412 c = nI (dfN (2 ^ s 1 - 1) (t (34 + c)))) (h411 : ∀ o, o < s 1 → aI w 411 o = nI (myN t o c)) {v : Option Nat} {k : Option Nat → Int32 → Int32 → Wd → Option Wd} : ∃ w', f_X1_prepare_L84 Kc 409 k fu v (nI c) (nI 0) w = k v (nI c) (nI (s 1)) w' ∧ Ofi NS (fun x => x = 411) w w' ∧ ∀ o, o < s 1 → aI w' 411 o = nI (myN t o (c + 1)) := by
  have h12 := hS.1.2.2.2
  have h6 := hS.1.2.1
  have p6 : 2 ^ s 1 ≤ 2 ^ 6 := Nat.pow_le_pow_right (by omega) h6
  have pc : 2 ^ c < 2 ^ 12 := Nat.pow_lt_pow_right (by omega) (by omega)
  have dl := dfN_le (a := 2 ^ s 1 - 1) (b := t (34 + c))
  refine loop_q (fun f o w1 => f_X1_prepare_L84 Kc 409 k f v (nI c) (nI o) w1) (fun o w1 => Ofi NS (fun x => x = 411) w w1 ∧ ∀ o', o' < s 1 → aI w1 411 o' = nI (myN t o' (if o' < o then c + 1 else c))) (fun r => ∃ w', r = k v (nI c) (nI (s 1)) w' ∧ Ofi NS (fun x => x = 411) w w' ∧ ∀ o, o < s 1 → aI w' 411 o = nI (myN t o (c + 1))) (s 1) (fun f w1 hI => ?_) (fun f o w1 ho hI ih => ?_) fu 0 w ⟨Ofi.rf, fun o' ho' => by rw [if_neg (by omega)]; exact h411 o' ho'⟩ (by omega) (fu_lt (by omega))
  · try dsimp only
    rw [f_X1_prepare_L84, hI.1.2.1 104 409 (fun q => q), h104, if_le_t (by omega) (by omega) (Nat.le_refl _)]
    exact ⟨w1, rfl, hI.1, fun o ho => by rw [hI.2 o ho, if_pos ho]⟩
  · try dsimp only at ih ⊢
    obtain ⟨i1, i2⟩ := hI
    have f1 := i1.FX hf
    have m1 := myN_lt (t := t) (j := o) (n := c) (by omega)
    have old : aI w1 411 o = nI (myN t o c) := by rw [i2 o ho, if_neg (by omega)]
    have st : ∀ z, z = myN t o (c + 1) → ∃ w', f_X1_prepare_L84 Kc 409 k f v (nI c) (nI (o + 1)) (tI w1 411 o (nI z)) = k v (nI c) (nI (s 1)) w' ∧ Ofi NS (fun x => x = 411) w w' ∧ ∀ o, o < s 1 → aI w' 411 o = nI (myN t o (c + 1)) := fun z hz => ih _ ⟨i1.trans (ofi_tI rfl), fun o' ho' => by
      rw [aI_tI]
      by_cases e : o' = o
      · rw [if_pos ⟨rfl, e⟩, hz, e, if_pos (by omega)]
      · rw [if_neg (by omega), i2 o' ho']
        by_cases e2 : o' < o
        · rw [if_pos e2, if_pos (by omega)]
        · rw [if_neg e2, if_neg (by omega)]⟩
    have nx : myN t o (c + 1) = myN t o c ||| (if (!(t (34 + c)).testBit o) = true then 2 ^ c else 0) := rfl
    have shl1 : (1 : Int32) <<< (nI c &&& 31) = nI (2 ^ c) := by
      rw [show (1 : Int32) = nI 1 from rfl, show (31 : Int32) = nI 31 from rfl, shl_nI (by omega) (by omega), Nat.one_mul]
    rw [f_X1_prepare_L84, i1.2.1 104 409 (fun q => q), h104, if_le_f (by omega) (by omega) ho, x101 f1, Option.bind_some]
    try dsimp only
    rw [ixa_n (by omega) (by omega), Option.bind_some, x102 f1, Option.bind_some]
    try dsimp only
    rw [ixa_n (by omega) (by omega), Option.bind_some, i1.2.2 412 (by omega), h412, x_has (by omega) (by omega), Option.bind_some, dfN_bit, Nat.testBit_two_pow_sub_one, decide_eq_true ho, Bool.true_and, old, show nI o + 1 = nI (o + 1) from nI_add o 1]
    try dsimp only
    cases e : (t (34 + c)).testBit o with
    | true =>
      rw [Bool.not_true, ib_f, Option.bind_some, show (0 : Int32) = nI 0 from rfl, or_nI (by omega) (by omega), Option.bind_some]
      exact st _ (by rw [nx, e]; rfl)
    | false =>
      rw [Bool.not_false, ib_t, Option.bind_some, shl1, or_nI (by omega) (by omega), Option.bind_some]
      exact st _ (by rw [nx, e]; rfl)
theorem x_prepare {w : Wd} {b : Nat} {s t : Nat → Nat} (h : HX w 73 b s t) : ∃ w', f_X1_prepare Kc 409 (some 73) w = some w' ∧ Ofi SBe ABe w w' ∧ BW w' s t ∧ ∀ c, c < s 3 → aI w' 412 c = nI (dfN (2 ^ s 1 - 1) (t (34 + c))) := by
  have hS := h.gs
  have hT := h.2.2.2.2.2
  have h12 := hS.1.2.2.2
  have h6 := hS.1.2.1
  have p6 : 2 ^ s 1 ≤ 2 ^ 6 := Nat.pow_le_pow_right (by omega) h6
  have pos : 1 ≤ 2 ^ s 1 := Nat.one_le_two_pow
  have k9 : chk Kc 9 (some 73) = some 73 := by decide +kernel
  have ho : ∀ w', Ofi SBe ABe w w' → HX w' 73 b s t := fun w' o => o.HX h (fun f x q => by unfold SBe at q; omega) (fun x q => by unfold ABe at q; omega)
  have o1 : Ofi SBe ABe w (sI w 103 409 (nI (s 3))) := ofi_sI ⟨rfl, Or.inl rfl⟩
  have o2 : Ofi SBe ABe w (sI (sI w 103 409 (nI (s 3))) 104 409 (nI (s 1))) := o1.trans (ofi_sI ⟨rfl, Or.inr rfl⟩)
  obtain ⟨w3, e3, o3, z3⟩ := x_fill (w := sI (sI w 103 409 (nI (s 3))) 104 409 (nI (s 1))) (x101 (ho _ o2).1) (by omega)
  have o3' : Ofi SBe ABe w w3 := o2.trans (o3.mono (fun _ _ q => q.elim) (fun x q => by unfold ABe; omega))
  have g3 : wI w3 103 409 = nI (s 3) ∧ wI w3 104 409 = nI (s 1) := ⟨by rw [o3.2.1 _ _ (fun q => q), wI_sI, if_neg (by omega), wI_sI, if_pos ⟨rfl, rfl⟩], by rw [o3.2.1 _ _ (fun q => q), wI_sI, if_pos ⟨rfl, rfl⟩]⟩
  have lp : ∃ w', f_X1_prepare_L34 Kc 409 (fun v1_34 v2_34 w9 => some w9) fu (some 73) (nI 0) w3 = some w' ∧ Ofi NS ABe w3 w' ∧ (∀ c, c < s 3 → aI w' 410 c = nI (s (148 + c)) ∧ aI w' 412 c = nI (dfN (2 ^ s 1 - 1) (t (34 + c)))) ∧ ∀ o, o < s 1 → aI w' 411 o = nI (myN t o (s 3)) := by
    refine loop_q (fun f c w1 => f_X1_prepare_L34 Kc 409 (fun v1_34 v2_34 w9 => some w9) f (some 73) (nI c) w1) (fun c w1 => Ofi NS ABe w3 w1 ∧ (∀ c', c' < c → aI w1 410 c' = nI (s (148 + c')) ∧ aI w1 412 c' = nI (dfN (2 ^ s 1 - 1) (t (34 + c')))) ∧ ∀ o, o < s 1 → aI w1 411 o = nI (myN t o c)) (fun r => ∃ w', r = some w' ∧ Ofi NS ABe w3 w' ∧ (∀ c, c < s 3 → aI w' 410 c = nI (s (148 + c)) ∧ aI w' 412 c = nI (dfN (2 ^ s 1 - 1) (t (34 + c)))) ∧ ∀ o, o < s 1 → aI w' 411 o = nI (myN t o (s 3))) (s 3) (fun f w1 hI => ?_) (fun f c w1 hc hI ih => ?_) fu 0 w3 ⟨Ofi.rf, fun c' hc' => by omega, fun o ho => by rw [z3 o (by omega)]; rfl⟩ (by omega) (fu_lt (by omega))
    · try dsimp only
      rw [f_X1_prepare_L34, hI.1.2.1 103 409 (fun q => q), g3.1, if_le_t (by omega) (by omega) (Nat.le_refl _)]
      exact ⟨w1, rfl, hI⟩
    · try dsimp only at ih ⊢
      obtain ⟨i1, i2, i3⟩ := hI
      have h1 := ho w1 (o3'.trans (i1.mono (fun _ _ q => q.elim) (fun _ q => q)))
      have o4 : Ofi NS ABe w1 (tI w1 410 c (nI (s (148 + c)))) := ofi_tI (by unfold ABe; omega)
      have o5 : Ofi NS ABe w1 (tI (tI w1 410 c (nI (s (148 + c)))) 412 c (nI (dfN (2 ^ s 1 - 1) (t (34 + c))))) := o4.trans (ofi_tI (by unfold ABe; omega))
      have br := GoodT.br hS hT (i := c) (by omega)
      have q6 := h1.2.2.2.1.2.2.2.1 c (by omega)
      have al : ∀ u, f_X12_allOf Kc (nI (s 1)) u = some (nI (2 ^ s 1 - 1), u) := fun u => by
        unfold f_X12_allOf
        rw [show (1 : Int32) = nI 1 from rfl, show (31 : Int32) = nI 31 from rfl, shl_nI (by omega) (by omega), Nat.one_mul, sub_nI pos]
      have f6 : FX (tI (tI w1 410 c (nI (s (148 + c)))) 412 c (nI (dfN (2 ^ s 1 - 1) (t (34 + c))))) := o5.FX h1.1
      obtain ⟨w6, e6, o6, g6⟩ := x_prepL (k := fun v1_84 v2_84 v3_84 w25 => f_X1_prepare_L34 Kc 409 (fun v1_34 v2_34 w9 => some w9) f v1_84 (v2_84 + 1) w25) (v := some 73) hS hT f6 (by rw [o5.2.1 104 409 (fun q => q), i1.2.1 104 409 (fun q => q)]; exact g3.2) hc (by rw [aI_tI, if_pos ⟨rfl, rfl⟩]) (fun o ho => by rw [aI_tI, if_neg (by omega), aI_tI, if_neg (by omega)]; exact i3 o ho)
      rw [f_X1_prepare_L34, i1.2.1 103 409 (fun q => q), g3.1, if_le_f (by omega) (by omega) hc, k9, Option.bind_some, h1.su, Option.bind_some, u909 h1.1 h1.2.1.2.1, Option.bind_some]
      try dsimp only
      rw [ixa_n (by omega) (by omega), Option.bind_some, umt h1.1 h1.2.1.2.1 (by omega), Option.bind_some, x100 h1.1, Option.bind_some]
      try dsimp only
      rw [ixa_n (by omega) (by omega), Option.bind_some, h1.f5 hc, Option.bind_some, o4.2.1 104 409 (fun q => q), i1.2.1 104 409 (fun q => q), g3.2, al, Option.bind_some]
      try dsimp only
      rw [t1004 (o4.FX h1.1) h1.2.1.1, Option.bind_some]
      try dsimp only
      rw [ixa_n (by omega) (by omega), Option.bind_some, x102 (o4.FX h1.1), Option.bind_some]
      try dsimp only
      rw [ixa_n (by omega) (by omega), Option.bind_some, aI_tI, if_neg (by omega), q6, andn_nI (by omega) (by omega), Option.bind_some]
      refine Eq.mpr (congrArg (fun z => ∃ w', z = some w' ∧ Ofi NS ABe w3 w' ∧ (∀ c, c < s 3 → aI w' 410 c = nI (s (148 + c)) ∧ aI w' 412 c = nI (dfN (2 ^ s 1 - 1) (t (34 + c)))) ∧ ∀ o, o < s 1 → aI w' 411 o = nI (myN t o (s 3))) e6) ?_
      try dsimp only
      rw [show nI c + 1 = nI (c + 1) from nI_add c 1]
      refine ih w6 ⟨(i1.trans o5).trans (o6.mono (fun _ _ q => q) (fun x q => by unfold ABe; omega)), fun c' hc' => ?_, g6⟩
      rw [o6.2.2 410 (by omega), o6.2.2 412 (by omega), aI_tI, if_neg (by omega), aI_tI, aI_tI, aI_tI]
      by_cases e : c' = c
      · subst e
        rw [if_pos ⟨rfl, rfl⟩, if_pos ⟨rfl, rfl⟩]
        exact ⟨rfl, rfl⟩
      · rw [if_neg (by omega), if_neg (by omega), if_neg (by omega)]
        exact i2 c' (by omega)
  obtain ⟨w', e7, o7, q7, q8⟩ := lp
  have o8 : Ofi SBe ABe w w' := o3'.trans (o7.mono (fun _ _ q => q.elim) (fun _ q => q))
  refine ⟨w', ?_, o8, ⟨o8.FX h.1, by rw [o7.2.1 _ _ (fun q => q)]; exact g3.1, by rw [o7.2.1 _ _ (fun q => q)]; exact g3.2, fun i hi => (q7 i hi).1, q8⟩, fun c hc => (q7 c hc).2⟩
  unfold f_X1_prepare
  rw [k9, Option.bind_some, h.su, Option.bind_some, show (3 : Int32) = nI 3 from rfl, x_size h (by omega), Option.bind_some]
  try dsimp only
  rw [Option.bind_some, (ho _ o1).su, Option.bind_some, show (1 : Int32) = nI 1 from rfl, x_size (ho _ o1) (by omega), Option.bind_some]
  try dsimp only
  rw [Option.bind_some, show (0 : Int32) = nI 0 from rfl, e3, Option.bind_some]
  exact e7
theorem x_countFewest {w : Wd} {b : Nat} {s t : Nat → Nat} (h : HX w 73 b s t) : ∃ v w', f_X1_countFewest Kc 409 (some 73) w = some (v, w') ∧ Ofi SBe ABe w w' ∧ MinV (AJ s t (s 1) (2 ^ s 3 - 1)) v := by
  have hS := h.gs
  have hT := h.2.2.2.2.2
  have h12 := hS.1.2.2.2
  have h6 := hS.1.2.1
  have p6 : 2 ^ s 1 ≤ 2 ^ 6 := Nat.pow_le_pow_right (by omega) h6
  have p12 : 2 ^ s 3 ≤ 2 ^ 12 := Nat.pow_le_pow_right (by omega) h12
  have pos : 1 ≤ 2 ^ s 1 := Nat.one_le_two_pow
  have pos2 : 1 ≤ 2 ^ s 3 := Nat.one_le_two_pow
  obtain ⟨w1, e1, o1, b1, r1⟩ := x_prepare h
  have rw1 : ∀ w2, (∀ x, x < 12 → aI w2 412 x = aI w1 412 x) → RW w2 s 0 (fun c => dfN (2 ^ s 1 - 1) (t (34 + c))) := fun w2 q c hc => ⟨by rw [q _ (by omega), Nat.mul_zero, Nat.zero_add]; exact r1 c hc, by have := dfN_le (a := 2 ^ s 1 - 1) (b := t (34 + c)); try dsimp only; omega⟩
  have hl : ∀ c, (2 ^ s 3 - 1).testBit c = true → ∀ o, o < s 1 → (dfN (2 ^ s 1 - 1) (t (34 + c))).testBit o = !(t (34 + c)).testBit o := fun c _ o ho => by
    rw [dfN_bit, Nat.testBit_two_pow_sub_one, decide_eq_true ho, Bool.true_and]
  have main : ∃ v w', f_X1_countFewest_L7 Kc 409 (fun v1_7 v2_7 w2 => some ((-1), w2)) fu (some 73) (nI 0) w1 = some (v, w') ∧ Ofi NS A412 w1 w' ∧ MinV (AJ s t (s 1) (2 ^ s 3 - 1)) v := by
    refine loop_q (fun f c w2 => f_X1_countFewest_L7 Kc 409 (fun v1_7 v2_7 w2 => some ((-1), w2)) f (some 73) (nI c) w2) (fun c w2 => Ofi NS A412 w1 w2 ∧ (∀ x, x < 12 → aI w2 412 x = aI w1 412 x) ∧ ∀ k, k < c → ¬ AJ s t (s 1) (2 ^ s 3 - 1) k) (fun r => ∃ v w', r = some (v, w') ∧ Ofi NS A412 w1 w' ∧ MinV (AJ s t (s 1) (2 ^ s 3 - 1)) v) (s 1 + 1) (fun f w2 hI => ?_) (fun f c w2 hc hI ih => ?_) fu 0 w1 ⟨Ofi.rf, fun _ _ => rfl, fun k hk => by omega⟩ (by omega) (fu_lt (by omega))
    · try dsimp only
      rw [f_X1_countFewest_L7, (b1.ofi hI.1).2.2.1, if_lt_t (by omega) (by omega) (by omega)]
      refine ⟨-1, w2, rfl, hI.1, Or.inl ⟨rfl, fun k q => ?_⟩⟩
      obtain ⟨f, V, v1, v2, v3⟩ := q
      exact hI.2.2 (popN V) (by have := pop_m (s 1) h6 V (by omega) v1; omega) ⟨f, V, v1, Nat.le_refl _, v3⟩
    · try dsimp only at ih ⊢
      obtain ⟨i1, i2, i3⟩ := hI
      have b2 := b1.ofi i1
      have al : ∀ u, f_X12_allOf Kc (nI (s 3)) u = some (nI (2 ^ s 3 - 1), u) := fun u => by
        unfold f_X12_allOf
        rw [show (1 : Int32) = nI 1 from rfl, show (31 : Int32) = nI 31 from rfl, shl_nI (by omega) (by omega), Nat.one_mul, sub_nI pos2]
      obtain ⟨bb, w3, e3, o3, k3, q3⟩ := x_gives hS (most := c) (by omega) 14 0 (2 ^ s 3 - 1) 0 (fun c => dfN (2 ^ s 1 - 1) (t (34 + c))) (by omega) (by omega) (by have := pop12 (u := 2 ^ s 3 - 1) (by omega); omega) (by have := pop12 (u := 2 ^ s 3 - 1) (by omega); omega) (by rw [show popN 0 = 0 by decide]; omega) (fun c hc => ⟨by have := dfN_le (a := 2 ^ s 1 - 1) (b := t (34 + c)); first | omega | (dsimp only; omega), fun o ho _ => hl c hc o ho⟩) w2 b2 (rw1 w2 i2)
      rw [f_X1_countFewest_L7, b2.2.2.1, if_lt_f (by omega) (by omega) (by omega), b2.2.1, al, Option.bind_some]
      try dsimp only
      rw [show (0 : Int32) = nI 0 from rfl, e3, Option.bind_some]
      try dsimp only
      have q4 : bb = true ↔ AJ s t (s 1) (2 ^ s 3 - 1) c := q3.trans (VL_AJ hl)
      cases eb : bb with
      | true =>
        rw [ib_t']
        exact ⟨nI c, w3, rfl, i1.trans o3, Or.inr ⟨c, by omega, rfl, q4.mp eb, i3⟩⟩
      | false =>
        rw [ib_f', show nI c + 1 = nI (c + 1) from nI_add c 1]
        refine ih w3 ⟨i1.trans o3, fun x hx => by rw [k3 x (by omega), i2 x hx], fun k hk => ?_⟩
        by_cases e : k = c
        · rw [e]
          intro q
          have := q4.mpr q
          rw [eb] at this
          cases this
        · exact i3 k (by omega)
  obtain ⟨v, w', e2, o2, mv⟩ := main
  refine ⟨v, w', ?_, o1.trans (o2.mono (fun _ _ q => q.elim) (fun x q => by unfold A412 at q; unfold ABe; omega)), mv⟩
  unfold f_X1_countFewest
  rw [e1, Option.bind_some]
  exact e2
theorem b_fewestOfficers {w : Wd} (h : Inv w) : Both0 (f_X12_fewestOfficers Kc 0) (f_X13_fewestOfficers Kc 415) w := Both0.q h (fun b s t hx hm hp hg => by
  obtain ⟨v, w1, e1, o1, mv⟩ := x_countFewest hx
  have h1 : HX w1 73 b s t := o1.HX hx (fun f x q => by unfold SBe at q; omega) (fun x q => by unfold ABe at q; omega)
  refine ⟨v, w1, ?_, o1.fr.mono (fun f x q => by unfold SBe at q; unfold TSx; omega) (fun x q => by unfold ABe at q; unfold TAx; omega), h1.1, fun w2 h2 g2 => ?_⟩
  · unfold f_X12_fewestOfficers
    rw [x1212 hx.1, Option.bind_some, show wR w 1205 0 = some 73 from hx.1.1 (1205, 0, 73) (by decide +kernel), e1, Option.bind_some]
  · obtain ⟨v', w3, e3, o3, mv'⟩ := m_fewest h2
    have ev := MinV.uniq mv mv'
    subst ev
    exact ⟨w3, e3, o3.fr.mono (fun f x q => ⟨q.1, Or.inl q.2⟩) (fun x q => by unfold TAm; omega), o3.HM h2 (by omega) (by omega), by rw [o3.2.1 1315 415 (by omega)]; exact g2⟩)
