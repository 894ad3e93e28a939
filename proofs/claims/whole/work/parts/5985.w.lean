/-! The fewest officers: sets of cases and officers. -/
def AJ (s t : Nat → Nat) (j S k : Nat) : Prop := ∃ f : Nat → Nat, ∃ V, V < 2 ^ j ∧ popN V ≤ k ∧ (∀ c, S.testBit c = true → (t (34 + c)).testBit (f c) = false ∧ V.testBit (f c) = true) ∧ ∀ c c', S.testBit c = true → S.testBit c' = true → (s (148 + c)).testBit c' = true → f c ≠ f c'
theorem AJ.mono {s t : Nat → Nat} {j S k k' : Nat} (h : AJ s t j S k) (hk : k ≤ k') : AJ s t j S k' := by
  obtain ⟨f, V, h1, h2, h3⟩ := h
  exact ⟨f, V, h1, by omega, h3⟩
theorem AJ_0 {s t : Nat → Nat} {S k : Nat} : AJ s t 0 S k ↔ S = 0 := by
  constructor
  · rintro ⟨f, V, h1, h2, h3, h4⟩
    have v0 : V = 0 := by simpa using h1
    apply Nat.eq_of_testBit_eq
    intro c
    rw [Nat.zero_testBit]
    cases e : S.testBit c with
    | false => rfl
    | true =>
      have := (h3 c e).2
      rw [v0, Nat.zero_testBit] at this
      cases this
  · intro e
    subst e
    refine ⟨fun _ => 0, 0, by omega, by rw [show popN 0 = 0 by decide]; omega, fun c hc => ?_, fun c c' hc => ?_⟩
    · rw [Nat.zero_testBit] at hc; cases hc
    · rw [Nat.zero_testBit] at hc; cases hc
theorem AJ_e {s t : Nat → Nat} {j k : Nat} : AJ s t j 0 k := ⟨fun _ => 0, 0, Nat.two_pow_pos j, by rw [show popN 0 = 0 by decide]; omega, fun c hc => (by rw [Nat.zero_testBit] at hc; cases hc), fun c c' hc => (by rw [Nat.zero_testBit] at hc; cases hc)⟩
theorem pop_add : ∀ j, j < 6 → ∀ V, V < 64 → V < 2 ^ j → popN (V + 2 ^ j) = popN V + 1 := by decide +kernel
theorem tb_add : ∀ j, j < 6 → ∀ V, V < 64 → V < 2 ^ j → ∀ o, o < 6 → (V + 2 ^ j).testBit o = (V.testBit o || o == j) := by decide +kernel
theorem tb_sub1 : ∀ j, j < 6 → ∀ V, V < 64 → V < 2 ^ (j + 1) → V.testBit j = true → 2 ^ j ≤ V ∧ V - 2 ^ j < 2 ^ j := by decide +kernel
theorem tb_sub2 : ∀ j, j < 6 → ∀ V, V < 64 → V < 2 ^ (j + 1) → V.testBit j = true → ∀ o, o < 6 → (V - 2 ^ j).testBit o = (V.testBit o && !(o == j)) := by decide +kernel
theorem tb_sub (j : Nat) (hj : j < 6) (V : Nat) (hV : V < 64) (h1 : V < 2 ^ (j + 1)) (hb : V.testBit j = true) : 2 ^ j ≤ V ∧ V - 2 ^ j < 2 ^ j ∧ ∀ o, o < 6 → (V - 2 ^ j).testBit o = (V.testBit o && !(o == j)) := ⟨(tb_sub1 j hj V hV h1 hb).1, (tb_sub1 j hj V hV h1 hb).2, tb_sub2 j hj V hV h1 hb⟩
theorem tb_lt : ∀ j, j < 6 → ∀ V, V < 64 → V < 2 ^ (j + 1) → V.testBit j = false → V < 2 ^ j := by decide +kernel
theorem tb6 {V o : Nat} (hV : V < 64) (h : V.testBit o = true) : o < 6 := by
  by_cases e : o < 6
  · exact e
  · have h2 : 2 ^ 6 ≤ 2 ^ o := Nat.pow_le_pow_right (by omega) (by omega)
    rw [Nat.testBit_lt_two_pow (by omega)] at h
    cases h
/-- a set of what holds -/
def mkS (p : Nat → Bool) : Nat → Nat := orS (fun c => if p c = true then 2 ^ c else 0)
theorem mkS_bit {p : Nat → Bool} {c : Nat} : ∀ {n : Nat}, (mkS p n).testBit c = (decide (c < n) && p c)
  | 0 => by simp [mkS, orS]
  | n + 1 => by
    rw [show mkS p (n + 1) = mkS p n ||| (if p n = true then 2 ^ n else 0) from rfl, Nat.testBit_or, mkS_bit]
    by_cases e : c = n
    · subst e
      cases p c <;> simp
    · have e2 : (if p n = true then 2 ^ n else 0).testBit c = false := by
        split
        · rw [Nat.testBit_two_pow]
          exact decide_eq_false (fun q => e q.symm)
        · exact Nat.zero_testBit c
      rw [e2, Bool.or_false]
      by_cases e3 : c < n
      · rw [decide_eq_true e3, decide_eq_true (by omega : c < n + 1)]
      · rw [decide_eq_false e3, decide_eq_false (by omega : ¬ c < n + 1)]
theorem bit12 {S c n : Nat} (hS : S < 2 ^ n) (h : S.testBit c = true) : c < n := by
  by_cases e : c < n
  · exact e
  · have h2 : 2 ^ n ≤ 2 ^ c := Nat.pow_le_pow_right (by omega) (by omega)
    rw [Nat.testBit_lt_two_pow (by omega)] at h
    cases h
def subS (p q : Nat) : Prop := ∀ c, p.testBit c = true → q.testBit c = true
/-- cases among which one officer may hear all -/
def pcf (s : Nat → Nat) (p : Nat) : Prop := ∀ c c', p.testBit c = true → p.testBit c' = true → (s (148 + c)).testBit c' = false
def mayS (t : Nat → Nat) (j : Nat) (p : Nat) : Prop := ∀ c, p.testBit c = true → (t (34 + c)).testBit j = false
theorem AJ_step {s t : Nat → Nat} {j S k n : Nat} (hj : j < 6) (hS : S < 2 ^ n) : AJ s t (j + 1) S k ↔ AJ s t j S k ∨ ∃ p, p ≠ 0 ∧ subS p S ∧ mayS t j p ∧ pcf s p ∧ 1 ≤ k ∧ AJ s t j (S ^^^ p) (k - 1) := by
  have p6 : 2 ^ (j + 1) ≤ 2 ^ 6 := Nat.pow_le_pow_right (by omega) (by omega)
  have p6' : 2 ^ j ≤ 2 ^ 6 := Nat.pow_le_pow_right (by omega) (by omega)
  constructor
  · rintro ⟨f, V, h1, h2, h3, h4⟩
    cases eb : V.testBit j with
    | false => exact Or.inl ⟨f, V, tb_lt j hj V (by omega) h1 eb, h2, h3, h4⟩
    | true =>
      obtain ⟨v1, v2, v3⟩ := tb_sub j hj V (by omega) h1 eb
      have pp := pop_add j hj (V - 2 ^ j) (by omega) v2
      rw [show V - 2 ^ j + 2 ^ j = V by omega] at pp
      have pb : ∀ c, (mkS (fun c => S.testBit c && f c == j) n).testBit c = (S.testBit c && f c == j) := fun c => by
        rw [mkS_bit]
        by_cases ec : c < n
        · rw [decide_eq_true ec, Bool.true_and]
        · rw [decide_eq_false ec, Bool.false_and]
          cases es : S.testBit c with
          | false => rfl
          | true => exact absurd (bit12 hS es) ec
      by_cases ep : mkS (fun c => S.testBit c && f c == j) n = 0
      · refine Or.inl ⟨f, V - 2 ^ j, v2, by omega, fun c hc => ⟨(h3 c hc).1, ?_⟩, h4⟩
        have hb := (h3 c hc).2
        rw [v3 _ (tb6 (by omega) hb), hb]
        have := pb c
        rw [ep, Nat.zero_testBit, hc, Bool.true_and] at this
        rw [← this]
        rfl
      · refine Or.inr ⟨mkS (fun c => S.testBit c && f c == j) n, ep, fun c hc => ?_, fun c hc => ?_, fun c c' hc hc' => ?_, by omega, f, V - 2 ^ j, v2, by omega, fun c hc => ?_, fun c c' hc hc' hcf => ?_⟩
        · rw [pb, Bool.and_eq_true] at hc; exact hc.1
        · rw [pb, Bool.and_eq_true, beq_iff_eq] at hc
          have := (h3 c hc.1).1
          rw [hc.2] at this
          exact this
        · rw [pb, Bool.and_eq_true, beq_iff_eq] at hc hc'
          cases q : (s (148 + c)).testBit c' with
          | false => rfl
          | true => exact absurd (by rw [hc.2, hc'.2]) (h4 c c' hc.1 hc'.1 q)
        · rw [Nat.testBit_xor, pb] at hc
          have hs : S.testBit c = true := by
            cases es : S.testBit c with
            | true => rfl
            | false => rw [es] at hc; cases hc
          have hn : (f c == j) = false := by
            rw [hs] at hc
            cases ef : f c == j with
            | false => rfl
            | true => rw [ef] at hc; cases hc
          have hb := (h3 c hs).2
          exact ⟨(h3 c hs).1, by rw [v3 _ (tb6 (by omega) hb), hb, hn]; rfl⟩
        · have hs : ∀ c, (S ^^^ mkS (fun c => S.testBit c && f c == j) n).testBit c = true → S.testBit c = true := fun c hc => by
            rw [Nat.testBit_xor, pb] at hc
            cases es : S.testBit c with
            | true => rfl
            | false => rw [es] at hc; cases hc
          exact h4 c c' (hs c hc) (hs c' hc') hcf
  · rintro (⟨f, V, h1, h2, h3, h4⟩ | ⟨p, p0, p1, p2, p3, hk, f, V, h1, h2, h3, h4⟩)
    · exact ⟨f, V, by rw [Nat.pow_succ]; omega, h2, h3, h4⟩
    · have pp := pop_add j hj V (by omega) h1
      have tb := tb_add j hj V (by omega) h1
      refine ⟨fun c => if p.testBit c = true then j else f c, V + 2 ^ j, by rw [Nat.pow_succ]; omega, by omega, fun c hc => ?_, fun c c' hc hc' hcf => ?_⟩
      · dsimp only
        by_cases ec : p.testBit c = true
        · rw [if_pos ec]
          exact ⟨p2 c ec, by rw [tb j hj, beq_self_eq_true, Bool.or_true]⟩
        · rw [if_neg ec]
          have hx : (S ^^^ p).testBit c = true := by
            rw [Nat.testBit_xor, hc]
            cases q : p.testBit c with
            | true => exact absurd q ec
            | false => rfl
          have hb := (h3 c hx).2
          exact ⟨(h3 c hx).1, by rw [tb _ (tb6 (by omega) hb), hb]; rfl⟩
      · dsimp only
        have hx : ∀ c, S.testBit c = true → ¬ p.testBit c = true → (S ^^^ p).testBit c = true := fun c hc ec => by
          rw [Nat.testBit_xor, hc]
          cases q : p.testBit c with
          | true => exact absurd q ec
          | false => rfl
        have nj : ∀ c, S.testBit c = true → ¬ p.testBit c = true → f c ≠ j := fun c hc ec q => by
          have hb := (h3 c (hx c hc ec)).2
          rw [q, Nat.testBit_lt_two_pow h1] at hb
          cases hb
        by_cases e1 : p.testBit c = true
        · by_cases e2 : p.testBit c' = true
          · have := p3 c c' e1 e2
            rw [hcf] at this
            cases this
          · rw [if_pos e1, if_neg e2]
            exact fun q => nj c' hc' e2 q.symm
        · by_cases e2 : p.testBit c' = true
          · rw [if_neg e1, if_pos e2]
            exact nj c hc e1
          · rw [if_neg e1, if_neg e2]
            exact h4 c c' (hx c hc e1) (hx c' hc' e2) hcf
/-- the next part of a set -/
theorem nextPart : ∀ (b mine part p : Nat), mine < 2 ^ b → subS part mine → subS p mine → p < part → p ≤ (part - 1) &&& mine
  | 0, mine, part, p, hm, h1, h2, hp => by
    have m0 : mine = 0 := by simpa using hm
    have : part = 0 := by
      apply Nat.eq_of_testBit_eq
      intro c
      rw [Nat.zero_testBit]
      cases e : part.testBit c with
      | false => rfl
      | true =>
        have := h1 c e
        rw [m0, Nat.zero_testBit] at this
        cases this
    omega
  | b + 1, mine, part, p, hm, h1, h2, hp => by
    have sub2 : ∀ x, subS x mine → subS (x / 2) (mine / 2) := fun x hx c hc => by
      rw [Nat.testBit_div_two] at hc ⊢
      exact hx (c + 1) hc
    have sub0 : ∀ x, subS x mine → x % 2 ≤ mine % 2 := fun x hx => by
      have := hx 0
      rw [Nat.testBit_zero, Nat.testBit_zero, decide_eq_true_eq, decide_eq_true_eq] at this
      omega
    have andd : ∀ x, x &&& mine = 2 * (x / 2 &&& mine / 2) + (if x % 2 = 1 ∧ mine % 2 = 1 then 1 else 0) := fun x => by
      have h3 : (x &&& mine) / 2 = x / 2 &&& mine / 2 := by
        apply Nat.eq_of_testBit_eq
        intro c
        rw [Nat.testBit_div_two, Nat.testBit_and, Nat.testBit_and, Nat.testBit_div_two, Nat.testBit_div_two]
      have h4 : (x &&& mine) % 2 = if x % 2 = 1 ∧ mine % 2 = 1 then 1 else 0 := by
        have := Nat.testBit_and x mine 0
        rw [Nat.testBit_zero, Nat.testBit_zero, Nat.testBit_zero] at this
        by_cases e : x % 2 = 1 ∧ mine % 2 = 1
        · rw [if_pos e]
          rw [decide_eq_true e.1, decide_eq_true e.2] at this
          exact of_decide_eq_true this
        · rw [if_neg e]
          have h5 : (decide (x % 2 = 1) && decide (mine % 2 = 1)) = false := by
            cases q1 : decide (x % 2 = 1) with
            | false => rfl
            | true =>
              cases q2 : decide (mine % 2 = 1) with
              | false => rfl
              | true => exact absurd ⟨of_decide_eq_true q1, of_decide_eq_true q2⟩ e
          rw [h5] at this
          have := of_decide_eq_false this
          omega
      omega
    have sp := sub0 part h1
    have sq := sub0 p h2
    rw [andd]
    by_cases eo : part % 2 = 1
    · have h5 : (part - 1) / 2 &&& mine / 2 = part / 2 := by
        rw [show (part - 1) / 2 = part / 2 by omega]
        apply Nat.eq_of_testBit_eq
        intro c
        rw [Nat.testBit_and]
        cases e : (part / 2).testBit c with
        | false => rfl
        | true => rw [sub2 part h1 c e]; rfl
      rw [h5]
      omega
    · have ih := nextPart b (mine / 2) (part / 2) (p / 2) (by rw [Nat.pow_succ] at hm; omega) (sub2 part h1) (sub2 p h2) (by omega)
      rw [show (part - 1) / 2 = part / 2 - 1 by omega]
      by_cases em : mine % 2 = 1
      · rw [if_pos ⟨by omega, em⟩]
        omega
      · rw [if_neg (fun q => em q.2)]
        omega
