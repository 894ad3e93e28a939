/-! The fewest officers: the reference. -/
theorem subS_le {a b : Nat} (h : subS a b) : a ≤ b := by
  have : a &&& b = a := by
    apply Nat.eq_of_testBit_eq
    intro c
    rw [Nat.testBit_and]
    cases e : a.testBit c with
    | false => rfl
    | true => rw [h c e]; rfl
  rw [← this]
  exact Nat.and_le_right
theorem xor_sub {S p : Nat} (h : subS p S) (h0 : p ≠ 0) : S ^^^ p < S := by
  have h1 : subS (S ^^^ p) S := fun c hc => by
    rw [Nat.testBit_xor] at hc
    cases e : S.testBit c with
    | true => rfl
    | false =>
      rw [e] at hc
      cases e2 : p.testBit c with
      | false => rw [e2] at hc; cases hc
      | true => rw [h c e2] at e; cases e
  have h2 := subS_le h1
  have h3 : S ^^^ p ≠ S := fun q => h0 (by
    apply Nat.eq_of_testBit_eq
    intro c
    have := congrArg (fun x => Nat.testBit x c) q
    simp only [Nat.testBit_xor] at this
    rw [Nat.zero_testBit]
    cases e : p.testBit c with
    | false => rfl
    | true =>
      rw [e, h c e] at this
      cases this)
  omega
def MinV (C : Nat → Prop) (v : Int32) : Prop := (v = -nI 1 ∧ ∀ k, ¬ C k) ∨ ∃ k, k ≤ 40 ∧ v = nI k ∧ C k ∧ ∀ k', k' < k → ¬ C k'
theorem MinV.iff {C D : Nat → Prop} {v : Int32} (h : MinV C v) (e : ∀ k, C k ↔ D k) : MinV D v := by
  rcases h with ⟨h1, h2⟩ | ⟨k, h1, h2, h3, h4⟩
  · exact Or.inl ⟨h1, fun k q => h2 k ((e k).mpr q)⟩
  · exact Or.inr ⟨k, h1, h2, (e k).mp h3, fun k' hk q => h4 k' hk ((e k').mpr q)⟩
theorem AJ_31 {s t : Nat → Nat} {j S k : Nat} (h : AJ s t j S k) (hm : ∀ k', k' < k → ¬ AJ s t j S k') : k ≤ 31 := by
  obtain ⟨f, V, h1, h2, h3⟩ := h
  by_cases e : popN V < k
  · exact absurd ⟨f, V, h1, Nat.le_refl _, h3⟩ (hm _ e)
  · have := popN_le V
    omega
/-! which sets are peaceful -/
def pcB (s : Nat → Nat) (S : Nat) : Bool := !anyF (fun c => S.testBit c && !(s (148 + c) &&& S == 0)) 0 12
theorem pcB_iff {s : Nat → Nat} {S : Nat} (hS : S < 2 ^ 12) : pcB s S = true ↔ pcf s S := by
  unfold pcB pcf
  rw [Bool.not_eq_true', ← Bool.not_eq_true, anyF_iff]
  constructor
  · intro h c c' hc hc'
    cases e : (s (148 + c)).testBit c' with
    | false => rfl
    | true =>
      refine absurd ⟨c, by omega, by have := bit12 hS hc; omega, ?_⟩ h
      rw [hc, Bool.true_and]
      have : ¬ s (148 + c) &&& S = 0 := fun q => by
        have := and_z.mp q c' e
        rw [hc'] at this
        cases this
      rw [beq_false_of_ne this]
      rfl
  · rintro h ⟨c, c1, c2, c3⟩
    rw [Bool.and_eq_true] at c3
    have : s (148 + c) &&& S = 0 := and_z.mpr (fun c' hc' => by
      cases e : S.testBit c' with
      | false => rfl
      | true =>
        have := h c c' c3.1 e
        rw [hc'] at this
        cases this)
    rw [this] at c3
    cases c3.2
theorem m_peaceL {w : Wd} {s t : Nat → Nat} (h : HM w s t) {S : Nat} (hS : S < 2 ^ s 3) {u : Int32} {k : Int32 → Int32 → Int32 → Int32 → Wd → Option Wd} : ∃ z, f_X13_laysPeaceful_L12 Kc 415 k fu u (nI S) 1 0 w = k u (nI S) (nI (bn (pcB s S))) z w := by
  have h12 := h.gs.1.2.2.2
  have p12 : 2 ^ s 3 ≤ 2 ^ 12 := Nat.pow_le_pow_right (by omega) h12
  have key : ∀ r c f, c + r = 12 → r < f → anyF (fun c => S.testBit c && !(s (148 + c) &&& S == 0)) 0 c = false → ∃ z, f_X13_laysPeaceful_L12 Kc 415 k f u (nI S) (nI 1) (nI c) w = k u (nI S) (nI (bn (pcB s S))) z w := by
    intro r
    induction r with
    | zero =>
      intro c f hc hf hp
      obtain ⟨f, rfl⟩ : ∃ g, f = g + 1 := ⟨f - 1, by omega⟩
      have ec : c = 12 := by omega
      subst ec
      have pb : pcB s S = true := by unfold pcB; rw [hp]; rfl
      refine ⟨nI 12, ?_⟩
      rw [f_X13_laysPeaceful_L12, if_pos (show (12 : Int32) ≤ nI 12 by decide), pb]
      rfl
    | succ r ih =>
      intro c f hc hf hp
      obtain ⟨f, rfl⟩ : ∃ g, f = g + 1 := ⟨f - 1, by omega⟩
      rw [f_X13_laysPeaceful_L12, if_neg (show ¬ (12 : Int32) ≤ nI c from fun q => by have := (nI_leI (a := 12) (b := c) (by omega) (by omega)).mp q; omega), if_neg (show ¬ nI 1 = 0 by decide), m_has (by omega) (by omega), Option.bind_some, show nI c + 1 = nI (c + 1) from nI_add c 1]
      try dsimp only
      have snoc := anyF_snoc (p := fun c => S.testBit c && !(s (148 + c) &&& S == 0)) c 0
      rw [hp, Bool.false_or, Nat.zero_add] at snoc
      cases e : S.testBit c with
      | false =>
        rw [ib_f]
        exact ih (c + 1) f (by omega) (by omega) (by rw [snoc, e]; rfl)
      | true =>
        have hc3 : c < s 3 := bit12 hS e
        have cf := h.gs.cf hc3
        rw [ib_t, x1301 h.1, Option.bind_some, show (148 : Int32) = nI 148 from rfl, nI_add]
        try dsimp only
        rw [ixa_n (by omega) (by omega), Option.bind_some, h.S (by omega), and_nI (by omega) (by omega)]
        have al : s (148 + c) &&& S ≤ S := Nat.and_le_right
        by_cases e2 : s (148 + c) &&& S = 0
        · rw [if_pos (show nI (s (148 + c) &&& S) = 0 by rw [e2]; rfl)]
          exact ih (c + 1) f (by omega) (by omega) (by rw [snoc, e2, e]; rfl)
        · rw [if_neg (show ¬ nI (s (148 + c) &&& S) = 0 from fun q => e2 ((nI_eq (b := 0) (by omega) (by omega)).mp q))]
          have pb : pcB s S = false := by
            unfold pcB
            have : anyF (fun c => S.testBit c && !(s (148 + c) &&& S == 0)) 0 12 = true := (anyF_iff _ _).mpr ⟨c, by omega, by omega, by rw [e, beq_false_of_ne e2]; rfl⟩
            rw [this]
            rfl
          obtain ⟨f, rfl⟩ : ∃ g, f = g + 1 := ⟨f - 1, by omega⟩
          refine ⟨nI (c + 1), ?_⟩
          rw [f_X13_laysPeaceful_L12, pb]
          by_cases e3 : 12 ≤ c + 1
          · rw [if_pos (show (12 : Int32) ≤ nI (c + 1) from (nI_leI (a := 12) (b := c + 1) (by omega) (by omega)).mpr e3)]
            rfl
          · rw [if_neg (show ¬ (12 : Int32) ≤ nI (c + 1) from fun q => e3 ((nI_leI (a := 12) (b := c + 1) (by omega) (by omega)).mp q)), if_pos rfl]
            rfl
  exact key 12 0 fu (by omega) (fu_lt (by omega)) rfl
theorem nb_d : ∀ b : Bool, vp_nar .boolean (nI (bn b)) = nI (bn b) := by decide
def A430 (x : Nat) : Prop := x = 430
theorem m_laysPeaceful {w : Wd} {s t : Nat → Nat} (h : HM w s t) : ∃ w', f_X13_laysPeaceful Kc 415 (nI (2 ^ s 3 - 1)) w = some w' ∧ Ofi NS A430 w w' ∧ ∀ S, S < 2 ^ s 3 → aI w' 430 S = nI (bn (pcB s S)) := by
  have h12 := h.gs.1.2.2.2
  have p12 : 2 ^ s 3 ≤ 2 ^ 12 := Nat.pow_le_pow_right (by omega) h12
  have p0 := Nat.two_pow_pos (s 3)
  unfold f_X13_laysPeaceful
  refine loop_q (fun f S w1 => f_X13_laysPeaceful_L2 Kc 415 (fun v1_2 v2_2 w1 => some w1) f (nI (2 ^ s 3 - 1)) (nI S) w1) (fun S w1 => Ofi NS A430 w w1 ∧ ∀ S', S' < S → aI w1 430 S' = nI (bn (pcB s S'))) (fun r => ∃ w', r = some w' ∧ Ofi NS A430 w w' ∧ ∀ S, S < 2 ^ s 3 → aI w' 430 S = nI (bn (pcB s S))) (2 ^ s 3) (fun f w1 hI => ?_) (fun f S w1 hS hI ih => ?_) fu 0 w ⟨Ofi.rf, fun S' hS' => by omega⟩ (by omega) (fu_lt (by omega))
  · try dsimp only
    rw [f_X13_laysPeaceful_L2, if_lt_t (by omega) (by omega) (by omega)]
    exact ⟨w1, rfl, hI.1, hI.2⟩
  · try dsimp only at ih ⊢
    have h1 := hI.1.HM h (by unfold A430; omega) (by unfold A430; omega)
    obtain ⟨z, hz⟩ := m_peaceL h1 hS (u := nI (2 ^ s 3 - 1)) (k := fun v1_12 v2_12 v3_12 v4_12 w3 => (cha Kc 22 (wR w3 1322 415)).bind fun a11 => (ixa v2_12 a11.2).bind fun j12 => (some (tI w3 a11.1 j12 (vp_nar .boolean v3_12))).bind fun w13 => f_X13_laysPeaceful_L2 Kc 415 (fun v1_2 v2_2 w1 => some w1) f v1_12 (v2_12 + 1) w13)
    rw [f_X13_laysPeaceful_L2, if_lt_f (by omega) (by omega) (by omega), hz, x1322 h1.1, Option.bind_some]
    try dsimp only
    rw [ixa_n (by omega) (by omega), Option.bind_some, Option.bind_some, nb_d, show nI S + 1 = nI (S + 1) from nI_add S 1]
    refine ih _ ⟨hI.1.trans (ofi_tI rfl), fun S' hS' => ?_⟩
    rw [aI_tI]
    by_cases e : S' = S
    · rw [if_pos ⟨rfl, e⟩, e]
    · rw [if_neg (fun q => e q.2)]
      exact hI.2 S' (by omega)
/-! what one more officer may hear -/
def myN (t : Nat → Nat) (j : Nat) : Nat → Nat := mkS (fun c => !(t (34 + c)).testBit j)
theorem myN_bit {t : Nat → Nat} {j c n : Nat} : (myN t j n).testBit c = (decide (c < n) && !(t (34 + c)).testBit j) := mkS_bit
theorem myN_lt {t : Nat → Nat} {j : Nat} {n : Nat} (hn : n ≤ 12) : myN t j n < 2 ^ 12 := orS_lt n (fun c hc => by
  try dsimp only
  split
  · exact Nat.pow_lt_pow_right (by omega) (by omega)
  · exact Nat.two_pow_pos 12)
theorem m_mayL {w : Wd} {s t : Nat → Nat} (h : HM w s t) {j : Nat} (hj : j < 32) {u : Int32} {k : Int32 → Int32 → Int32 → Int32 → Wd → Option Wd} : f_X13_takesPart_L5 Kc 415 k fu (nI j) u (nI 0) (nI 0) w = k (nI j) u (nI (myN t j (s 3))) (nI (s 3)) w := by
  have h12 := h.gs.1.2.2.2
  have h6 := h.gs.1.2.1
  have p6 : 2 ^ s 1 ≤ 2 ^ 6 := Nat.pow_le_pow_right (by omega) h6
  refine loop_g (fun f c => f_X13_takesPart_L5 Kc 415 k f (nI j) u (nI (myN t j c)) (nI c) w) (fun _ => k (nI j) u (nI (myN t j (s 3))) (nI (s 3)) w) (s 3) (fun f => ?_) (fun f c hc ih => ?_) fu 0 (by omega) (fu_lt (by omega))
  · try dsimp only
    rw [f_X13_takesPart_L5, x1301 h.1, Option.bind_some]
    try dsimp only
    rw [show ixa 3 170 = some 3 from rfl, Option.bind_some, h.S (by omega), if_le_t (by omega) (by omega) (Nat.le_refl _)]
  · try dsimp only at ih ⊢
    have bl := h.gt.2.2.2.2.2.1 c (by omega)
    have lt := myN_lt (t := t) (j := j) (n := c) (by omega)
    have pc : 2 ^ c < 2 ^ 12 := Nat.pow_lt_pow_right (by omega) (by omega)
    rw [show myN t j (c + 1) = myN t j c ||| (if (!(t (34 + c)).testBit j) = true then 2 ^ c else 0) from rfl] at ih
    rw [f_X13_takesPart_L5, x1301 h.1, Option.bind_some]
    try dsimp only
    rw [show ixa 3 170 = some 3 from rfl, Option.bind_some, h.S (by omega), if_le_f (by omega) (by omega) hc, x1303 h.1, Option.bind_some, show (34 : Int32) = nI 34 from rfl, nI_add]
    try dsimp only
    rw [ixa_n (by omega) (by omega), Option.bind_some, h.T (by omega) (by omega), m_has (by omega) (by omega), Option.bind_some, show nI c + 1 = nI (c + 1) from nI_add c 1]
    try dsimp only
    cases e : (t (34 + c)).testBit j with
    | false =>
      rw [e, if_pos (show (!false) = true from rfl)] at ih
      rw [ib_f, show (31 : Int32) = nI 31 from rfl, show (1 : Int32) = nI 1 from rfl, shl_nI (by omega) (by omega), Nat.one_mul, or_nI (by omega) (by omega)]
      exact ih
    | true =>
      rw [e, if_neg (show ¬ (!true) = true by decide), Nat.or_zero] at ih
      rw [ib_t]
      exact ih
