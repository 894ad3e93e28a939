/-! The fewest officers: the class's search. -/
/-- the bench: cases, officers, conflicts, who may be heard by whom, the choices of a row -/
def BW (w : Wd) (s t : Nat → Nat) : Prop := FX w ∧ wI w 103 409 = nI (s 3) ∧ wI w 104 409 = nI (s 1) ∧ (∀ i, i < s 3 → aI w 410 i = nI (s (148 + i))) ∧ ∀ o, o < s 1 → aI w 411 o = nI (myN t o (s 3))
def RW (w : Wd) (s : Nat → Nat) (done : Nat) (ch : Nat → Nat) : Prop := ∀ c, c < s 3 → aI w 412 (12 * done + c) = nI (ch c) ∧ ch c < 64
def A412 (x : Nat) : Prop := x = 412
theorem BW.ofi {w w' : Wd} {s t : Nat → Nat} (h : BW w s t) (o : Ofi NS A412 w w') : BW w' s t := ⟨o.FX h.1, by rw [o.2.1 _ _ (fun q => q)]; exact h.2.1, by rw [o.2.1 _ _ (fun q => q)]; exact h.2.2.1, fun i hi => by rw [o.2.2 410 (by unfold A412; omega)]; exact h.2.2.2.1 i hi, fun i hi => by rw [o.2.2 411 (by unfold A412; omega)]; exact h.2.2.2.2 i hi⟩
theorem x_hardest {w : Wd} {s t : Nat → Nat} {ch : Nat → Nat} (hS : GoodS s) (h : BW w s t) {done left us : Nat} (hr : RW w s done ch) (hd : done < 12) (hl : left < 2 ^ s 3) (h0 : left ≠ 0) (hu : us < 64) : ∃ i, i < s 3 ∧ left.testBit i = true ∧ f_X1_hardest Kc 409 (nI done) (nI left) (nI us) w = some (nI i, w) := by
  have h12 := hS.1.2.2.2
  have p12 : 2 ^ s 3 ≤ 2 ^ 12 := Nat.pow_le_pow_right (by omega) h12
  unfold f_X1_hardest
  have key : ∀ r c f v R, c + r = s 3 → r < f → R ≤ 96 → (R < 96 → v < s 3 ∧ left.testBit v = true) → (R = 96 → ∀ k, k < c → left.testBit k = false) → ∃ i, i < s 3 ∧ left.testBit i = true ∧ f_X1_hardest_L10 Kc 409 (fun v1_10 v2_10 v3_10 v4_10 v5_10 v6_10 w1 => some (v4_10, w1)) f (nI done) (nI left) (nI us) (nI v) (nI R) (nI c) w = some (nI i, w) := by
    intro r
    induction r with
    | zero =>
      intro c f v R hc hf hR h1 h2
      obtain ⟨f, rfl⟩ : ∃ g, f = g + 1 := ⟨f - 1, by omega⟩
      have lt : R < 96 := by
        by_cases e : R < 96
        · exact e
        · exfalso
          apply h0
          apply Nat.eq_of_testBit_eq
          intro k
          rw [Nat.zero_testBit]
          cases eb : left.testBit k with
          | false => rfl
          | true =>
            have := h2 (by omega) k (by have := bit12 hl eb; omega)
            rw [eb] at this
            cases this
      refine ⟨v, (h1 lt).1, (h1 lt).2, ?_⟩
      rw [f_X1_hardest_L10, h.2.1, if_le_t (by omega) (by omega) (by omega)]
    | succ r ih =>
      intro c f v R hc hf hR h1 h2
      obtain ⟨f, rfl⟩ : ∃ g, f = g + 1 := ⟨f - 1, by omega⟩
      rw [f_X1_hardest_L10, h.2.1, if_le_f (by omega) (by omega) (by omega), x_has (by omega) (by omega), Option.bind_some, show nI c + 1 = nI (c + 1) from nI_add c 1]
      try dsimp only
      cases e : left.testBit c with
      | false =>
        rw [ib_f]
        exact ih (c + 1) f v R (by omega) (by omega) hR h1 (fun q k hk => by
          by_cases ek : k = c
          · rw [ek]; exact e
          · exact h2 q k (by omega))
      | true =>
        obtain ⟨r1, r2⟩ := hr c (by omega)
        have cf := hS.cf (i := c) (by omega)
        have a1 : ch c &&& us ≤ us := Nat.and_le_right
        have a2 : s (148 + c) &&& left ≤ left := Nat.and_le_right
        have q1 := pop64 (ch c &&& us) (by omega)
        have q2 := pop12 (u := s (148 + c) &&& left) (by omega)
        rw [ib_t, x102 h.1, Option.bind_some, show (12 : Int32) = nI 12 from rfl, pk_mul, nI_add]
        try dsimp only
        rw [show done * 12 + c = 12 * done + c by omega, ixa_n (by omega) (by omega), Option.bind_some, r1, and_nI (by omega) (by omega), x_bitCount (by omega), Option.bind_some, x100 h.1, Option.bind_some]
        try dsimp only
        rw [ixa_n (by omega) (by omega), Option.bind_some, h.2.2.2.1 c (by omega), and_nI (by omega) (by omega), x_bitCount (by omega), Option.bind_some, show nI (popN (ch c &&& us)) + 1 = nI (popN (ch c &&& us) + 1) from nI_add _ 1]
        try dsimp only
        rw [pk_mul, sub_nI (by omega)]
        by_cases le : R ≤ (popN (ch c &&& us) + 1) * 12 - popN (s (148 + c) &&& left)
        · rw [if_le_t (by omega) (by omega) le]
          exact ih (c + 1) f v R (by omega) (by omega) hR h1 (fun q k hk => by omega)
        · rw [if_le_f (by omega) (by omega) (by omega)]
          exact ih (c + 1) f c _ (by omega) (by omega) (by omega) (fun _ => ⟨by omega, e⟩) (fun q => by omega)
  exact key (s 3) 0 fu 0 96 (by omega) (fu_lt (by omega)) (by omega) (fun q => by omega) (fun _ k hk => by omega)
theorem x_isSpare {w : Wd} {s t : Nat → Nat} (hS : GoodS s) (h : BW w s t) {o left used : Nat} (ho : o < s 1) (hl : left < 2 ^ s 3) (hu : used < 64) : ∃ b : Bool, f_X1_isSpare Kc 409 (nI o) (nI left) (nI used) w = some (b, w) ∧ (b = true ↔ SPR t left used o) := by
  have h12 := hS.1.2.2.2
  have h6 := hS.1.2.1
  have p12 : 2 ^ s 3 ≤ 2 ^ 12 := Nat.pow_le_pow_right (by omega) h12
  have perm : ∀ o2, ((myN t o2 (s 3) ^^^ myN t o (s 3)) &&& left = 0 ↔ ∀ c, left.testBit c = true → (t (34 + c)).testBit o2 = (t (34 + c)).testBit o) := fun o2 => by
    rw [Nat.and_comm, and_z]
    constructor
    · intro q c hc
      have := q c hc
      rw [Nat.testBit_xor, myN_bit, myN_bit, decide_eq_true (bit12 hl hc), Bool.true_and, Bool.true_and] at this
      revert this
      cases (t (34 + c)).testBit o2 <;> cases (t (34 + c)).testBit o <;> simp
    · intro q c hc
      rw [Nat.testBit_xor, myN_bit, myN_bit, decide_eq_true (bit12 hl hc), Bool.true_and, Bool.true_and, q c hc]
      cases (t (34 + c)).testBit o <;> rfl
  unfold f_X1_isSpare
  have key : ∀ r c f, c + r = o → r < f → (∀ o2, o2 < c → ¬ (used.testBit o2 = false ∧ ∀ x, left.testBit x = true → (t (34 + x)).testBit o2 = (t (34 + x)).testBit o)) → ∃ b : Bool, f_X1_isSpare_L3 Kc 409 (fun v1_3 v2_3 v3_3 v4_3 w1 => some (false, w1)) f (nI o) (nI left) (nI used) (nI c) w = some (b, w) ∧ (b = true ↔ SPR t left used o) := by
    intro r
    induction r with
    | zero =>
      intro c f hc hf hp
      obtain ⟨f, rfl⟩ : ∃ g, f = g + 1 := ⟨f - 1, by omega⟩
      refine ⟨false, ?_, fun q => (by cases q), fun q => ?_⟩
      · rw [f_X1_isSpare_L3, if_le_t (by omega) (by omega) (by omega)]
      · obtain ⟨q1, o2, q2, q3⟩ := q
        exact absurd q3 (hp o2 (by omega))
    | succ r ih =>
      intro c f hc hf hp
      obtain ⟨f, rfl⟩ : ∃ g, f = g + 1 := ⟨f - 1, by omega⟩
      rw [f_X1_isSpare_L3, if_le_f (by omega) (by omega) (by omega), x_has (by omega) (by omega), Option.bind_some, show nI c + 1 = nI (c + 1) from nI_add c 1]
      try dsimp only
      cases e : used.testBit o with
      | true =>
        rw [ib_t]
        refine ⟨false, rfl, fun q => (by cases q), fun q => ?_⟩
        have := q.1
        rw [e] at this
        cases this
      | false =>
        have go : (¬ (used.testBit c = false ∧ ∀ x, left.testBit x = true → (t (34 + x)).testBit c = (t (34 + x)).testBit o)) → ∃ b : Bool, f_X1_isSpare_L3 Kc 409 (fun v1_3 v2_3 v3_3 v4_3 w1 => some (false, w1)) f (nI o) (nI left) (nI used) (nI (c + 1)) w = some (b, w) ∧ (b = true ↔ SPR t left used o) := fun q => ih (c + 1) f (by omega) (by omega) (fun o2 ho2 => by
          by_cases ek : o2 = c
          · rw [ek]; exact q
          · exact hp o2 (by omega))
        rw [ib_f, x101 h.1, Option.bind_some]
        try dsimp only
        rw [ixa_n (by omega) (by omega), Option.bind_some, ixa_n (by omega) (by omega), Option.bind_some, x_has (by omega) (by omega), Option.bind_some]
        try dsimp only
        cases e2 : used.testBit c with
        | true =>
          rw [ib_t]
          exact go (fun q => by
            have := q.1
            rw [e2] at this
            cases this)
        | false =>
          have m1 := myN_lt (t := t) (j := c) (n := s 3) h12
          have m2 := myN_lt (t := t) (j := o) (n := s 3) h12
          have mx : myN t c (s 3) ^^^ myN t o (s 3) < 2 ^ 12 := Nat.xor_lt_two_pow m1 m2
          have al : (myN t c (s 3) ^^^ myN t o (s 3)) &&& left ≤ left := Nat.and_le_right
          rw [ib_f, h.2.2.2.2 c (by omega), h.2.2.2.2 o ho, xor_nI (by omega) (by omega), and_nI (by omega) (by omega)]
          by_cases e3 : (myN t c (s 3) ^^^ myN t o (s 3)) &&& left = 0
          · rw [if_pos (show nI ((myN t c (s 3) ^^^ myN t o (s 3)) &&& left) = 0 by rw [e3]; rfl)]
            exact ⟨true, rfl, fun _ => ⟨e, c, by omega, e2, (perm c).mp e3⟩, fun _ => rfl⟩
          · rw [if_neg (show ¬ nI ((myN t c (s 3) ^^^ myN t o (s 3)) &&& left) = 0 from fun q => e3 ((nI_eq (b := 0) (by omega) (by omega)).mp q))]
            exact go (fun q => e3 ((perm c).mpr q.2))
  exact key o 0 fu (by omega) (fu_lt (by omega)) (fun o2 ho2 => by omega)
theorem x_giveTo {w : Wd} {s t : Nat → Nat} {ch : Nat → Nat} (hS : GoodS s) (h : BW w s t) {done i o : Nat} (hr : RW w s done ch) (hd : done < 12) (hi : i < s 3) (ho : o < s 1) : ∃ w', f_X1_giveTo Kc 409 (nI done) (nI i) (nI o) w = some w' ∧ Ofi NS A412 w w' ∧ (∀ x, x < 12 * (done + 1) → aI w' 412 x = aI w 412 x) ∧ RW w' s (done + 1) (chG s ch i o) := by
  have h12 := hS.1.2.2.2
  have h6 := hS.1.2.1
  have po : 2 ^ o < 2 ^ 6 := Nat.pow_lt_pow_right (by omega) (by omega)
  unfold f_X1_giveTo
  rw [show (12 : Int32) = nI 12 from rfl, pk_mul]
  refine loop_q (fun f c w1 => f_X1_giveTo_L9 Kc 409 (fun v1_9 v2_9 v3_9 v4_9 v5_9 w1 => some w1) f (nI done) (nI i) (nI o) (nI (done * 12)) (nI c) w1) (fun c w1 => Ofi NS A412 w w1 ∧ (∀ x, x < 12 * (done + 1) → aI w1 412 x = aI w 412 x) ∧ ∀ c', c' < c → aI w1 412 (12 * (done + 1) + c') = nI (chG s ch i o c')) (fun r => ∃ w', r = some w' ∧ Ofi NS A412 w w' ∧ (∀ x, x < 12 * (done + 1) → aI w' 412 x = aI w 412 x) ∧ RW w' s (done + 1) (chG s ch i o)) (s 3) (fun f w1 hI => ?_) (fun f c w1 hc hI ih => ?_) fu 0 w ⟨Ofi.rf, fun _ _ => rfl, fun c' hc' => by omega⟩ (by omega) (fu_lt (by omega))
  · try dsimp only
    have h1 := h.ofi hI.1
    rw [f_X1_giveTo_L9, h1.2.1, if_le_t (by omega) (by omega) (Nat.le_refl _)]
    exact ⟨w1, rfl, hI.1, hI.2.1, fun c hc => ⟨hI.2.2 c hc, by
      have := dfN_le (a := ch c) (b := if (s (148 + i)).testBit c = true then 2 ^ o else 0)
      have := (hr c hc).2
      unfold chG
      omega⟩⟩
  · try dsimp only at ih ⊢
    obtain ⟨i1, i2, i3⟩ := hI
    have h1 := h.ofi i1
    obtain ⟨r1, r2⟩ := hr c hc
    have p12 : 2 ^ s 3 ≤ 2 ^ 12 := Nat.pow_le_pow_right (by omega) h12
    have cf := hS.cf hi
    have old : aI w1 412 (12 * done + c) = nI (ch c) := by rw [i2 _ (by omega)]; exact r1
    have st : ∀ z, z = (if (s (148 + i)).testBit c = true then 2 ^ o else 0) → ∃ w', f_X1_giveTo_L9 Kc 409 (fun v1_9 v2_9 v3_9 v4_9 v5_9 w1 => some w1) f (nI done) (nI i) (nI o) (nI (done * 12)) (nI (c + 1)) (tI w1 412 (12 * (done + 1) + c) (nI (dfN (ch c) z))) = some w' ∧ Ofi NS A412 w w' ∧ (∀ x, x < 12 * (done + 1) → aI w' 412 x = aI w 412 x) ∧ RW w' s (done + 1) (chG s ch i o) := fun z hz => ih _ ⟨i1.trans (ofi_tI rfl), fun x hx => by
      rw [aI_tI, if_neg (by omega)]
      exact i2 x hx, fun c' hc' => by
      rw [aI_tI]
      by_cases e : c' = c
      · rw [if_pos ⟨rfl, by rw [e]⟩, e, hz]
        rfl
      · rw [if_neg (by omega)]
        exact i3 c' (by omega)⟩
    rw [f_X1_giveTo_L9, h1.2.1, if_le_f (by omega) (by omega) hc, x100 h1.1, Option.bind_some]
    try dsimp only
    rw [ixa_n (by omega) (by omega), Option.bind_some, h1.2.2.2.1 i hi, x_has (by omega) (by omega), Option.bind_some, show nI c + 1 = nI (c + 1) from nI_add c 1]
    try dsimp only
    cases e : (s (148 + i)).testBit c with
    | false =>
      rw [ib_f, x102 h1.1, Option.bind_some]
      try dsimp only
      rw [nI_add, show done * 12 + c = 12 * done + c by omega, ixa_n (by omega) (by omega), Option.bind_some, show (12 : Int32) = nI 12 from rfl, nI_add, nI_add, show done * 12 + 12 + c = 12 * (done + 1) + c by omega, ixa_n (by omega) (by omega), Option.bind_some, old, show (0 : Int32) = nI 0 from rfl, andn_nI (by omega) (by omega), Option.bind_some]
      exact st 0 (by rw [e]; rfl)
    | true =>
      have shl1 : (1 : Int32) <<< (nI o &&& 31) = nI (2 ^ o) := by
        rw [show (1 : Int32) = nI 1 from rfl, show (31 : Int32) = nI 31 from rfl, shl_nI (by omega) (by omega), Nat.one_mul]
      rw [ib_t, x102 h1.1, Option.bind_some]
      try dsimp only
      rw [nI_add, show done * 12 + c = 12 * done + c by omega, ixa_n (by omega) (by omega), Option.bind_some, show (12 : Int32) = nI 12 from rfl, nI_add, nI_add, show done * 12 + 12 + c = 12 * (done + 1) + c by omega, ixa_n (by omega) (by omega), Option.bind_some, old, shl1, andn_nI (by omega) (by omega), Option.bind_some]
      exact st (2 ^ o) (by rw [e, if_pos rfl])
