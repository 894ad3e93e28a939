/-! The fewest officers: what the class's search tells. -/
def dfN (a b : Nat) : Nat := a ^^^ (a &&& b)
theorem dfN_bit {a b c : Nat} : (dfN a b).testBit c = (a.testBit c && !b.testBit c) := by
  unfold dfN
  rw [Nat.testBit_xor, Nat.testBit_and]
  cases a.testBit c <;> cases b.testBit c <;> rfl
theorem dfN_le {a b : Nat} : dfN a b ≤ a := subS_le (fun c hc => by
  rw [dfN_bit, Bool.and_eq_true] at hc
  exact hc.1)
theorem andn_nI {a b : Nat} (ha : a < 2 ^ 32) (hb : b < 2 ^ 32) : nI a &&& (nI b ^^^ (-1)) = nI (dfN a b) := by
  apply Int32.toBitVec_inj.mp
  rw [Int32.toBitVec_and, Int32.toBitVec_xor, show (-1 : Int32).toBitVec = BitVec.allOnes 32 from by decide]
  apply BitVec.eq_of_getLsbD_eq
  intro i hi
  rw [BitVec.getLsbD_and, BitVec.getLsbD_xor, BitVec.getLsbD_allOnes, nI_bv, nI_bv, nI_bv, BitVec.getLsbD_ofNat, BitVec.getLsbD_ofNat, BitVec.getLsbD_ofNat, dfN_bit, decide_eq_true hi]
  simp only [Bool.true_and, Bool.xor_true]
def VL (s : Nat → Nat) (m left used : Nat) (ch : Nat → Nat) (most : Nat) : Prop := ∃ f : Nat → Nat, ∃ V, V < 2 ^ m ∧ popN V ≤ most ∧ (∀ o, used.testBit o = true → V.testBit o = true) ∧ (∀ c, left.testBit c = true → (ch c).testBit (f c) = true ∧ V.testBit (f c) = true) ∧ ∀ c c', left.testBit c = true → left.testBit c' = true → (s (148 + c)).testBit c' = true → f c ≠ f c'
/-- an officer whom another one stands for -/
def SPR (t : Nat → Nat) (left used o : Nat) : Prop := used.testBit o = false ∧ ∃ o2, o2 < o ∧ used.testBit o2 = false ∧ ∀ c, left.testBit c = true → (t (34 + c)).testBit o2 = (t (34 + c)).testBit o
def chG (s : Nat → Nat) (ch : Nat → Nat) (i o c : Nat) : Nat := dfN (ch c) (if (s (148 + i)).testBit c = true then 2 ^ o else 0)
def TRY (s t : Nat → Nat) (m left used : Nat) (ch : Nat → Nat) (most i o : Nat) : Prop := (ch i).testBit o = true ∧ (popN used < most ∨ used.testBit o = true) ∧ ¬ SPR t left used o ∧ VL s m (dfN left (2 ^ i)) (used ||| 2 ^ o) (chG s ch i o) most
theorem pop_sub : ∀ u, u < 64 → ∀ v, v < 64 → u &&& v = u → popN v ≤ popN u → v = u := by decide +kernel
def swB (V a b : Nat) : Nat := if V.testBit a = V.testBit b then V else V ^^^ (2 ^ a ^^^ 2 ^ b)
def sg (a b x : Nat) : Nat := if x = a then b else if x = b then a else x
theorem sw_pop : ∀ a, a < 6 → ∀ b, b < 6 → ∀ V, V < 64 → popN (swB V a b) = popN V := by decide +kernel
theorem sw_bit {V a b x : Nat} (hab : a ≠ b) : (swB V a b).testBit x = V.testBit (sg a b x) := by
  unfold swB sg
  by_cases e : V.testBit a = V.testBit b
  · rw [if_pos e]
    by_cases xa : x = a
    · rw [if_pos xa, xa, e]
    · rw [if_neg xa]
      by_cases xb : x = b
      · rw [if_pos xb, xb, e]
      · rw [if_neg xb]
  · rw [if_neg e, Nat.testBit_xor, Nat.testBit_xor, Nat.testBit_two_pow, Nat.testBit_two_pow]
    by_cases xa : x = a
    · subst xa
      rw [if_pos rfl, decide_eq_true rfl, decide_eq_false (fun q => hab q.symm)]
      revert e
      cases V.testBit x <;> cases V.testBit b <;> simp
    · rw [if_neg xa, decide_eq_false (fun q => xa q.symm)]
      by_cases xb : x = b
      · subst xb
        rw [if_pos rfl, decide_eq_true rfl]
        revert e
        cases V.testBit a <;> cases V.testBit x <;> simp
      · rw [if_neg xb, decide_eq_false (fun q => xb q.symm)]
        simp
theorem sg_inj {a b x y : Nat} (h : sg a b x = sg a b y) : x = y := by
  unfold sg at h
  split at h <;> split at h <;> (try split at h) <;> (try split at h) <;> omega
theorem sg_sg {a b x : Nat} : sg a b (sg a b x) = x := by
  unfold sg
  split <;> (try split) <;> (try split) <;> omega
theorem gives_iff {s t : Nat → Nat} (hS : GoodS s) {left used most i : Nat} {ch : Nat → Nat} (hl : left < 2 ^ s 3) (hu : used < 2 ^ s 1) (hi : left.testBit i = true) (hc : ∀ c, left.testBit c = true → ch c < 2 ^ s 1 ∧ ∀ o, o < s 1 → used.testBit o = false → (ch c).testBit o = !(t (34 + c)).testBit o) : (∃ o, o < s 1 ∧ TRY s t (s 1) left used ch most i o) ↔ VL s (s 1) left used ch most := by
  have h6 := hS.1.2.1
  have p6 : 2 ^ s 1 ≤ 2 ^ 6 := Nat.pow_le_pow_right (by omega) h6
  have sym := hS.2.2.2.2.2.1
  have irr : ∀ c, c < s 3 → (s (148 + c)).testBit c = false := fun c h => (hS.2.2.2.2.1 c h).2.2.2.2.2.2
  have lb : ∀ c, left.testBit c = true → c < s 3 := fun c h => bit12 hl h
  constructor
  · rintro ⟨o, om, t1, t2, t3, f, V, v1, v2, v3, v4, v5⟩
    have lft : ∀ c, left.testBit c = true → c ≠ i → (dfN left (2 ^ i)).testBit c = true := fun c h1 h2 => by
      rw [dfN_bit, h1, Nat.testBit_two_pow, decide_eq_false (fun q => h2 q.symm)]
      rfl
    have chb : ∀ c, left.testBit c = true → c ≠ i → (ch c).testBit (f c) = true ∧ ((s (148 + i)).testBit c = true → f c ≠ o) := fun c h1 h2 => by
      have := (v4 c (lft c h1 h2)).1
      unfold chG at this
      rw [dfN_bit, Bool.and_eq_true] at this
      refine ⟨this.1, fun q z => ?_⟩
      rw [if_pos q, z, Nat.testBit_two_pow, decide_eq_true rfl] at this
      cases this.2
    refine ⟨fun c => if c = i then o else f c, V, v1, v2, fun x hx => v3 x (by rw [Nat.testBit_or, hx]; rfl), fun c h1 => ?_, fun c c' h1 h2 h3 => ?_⟩
    · dsimp only
      by_cases e : c = i
      · rw [if_pos e, e]
        exact ⟨t1, v3 o (by rw [Nat.testBit_or, Nat.testBit_two_pow, decide_eq_true rfl, Bool.or_true])⟩
      · rw [if_neg e]
        exact ⟨(chb c h1 e).1, (v4 c (lft c h1 e)).2⟩
    · dsimp only
      by_cases e : c = i
      · by_cases e2 : c' = i
        · rw [e, e2, irr i (lb i hi)] at h3
          cases h3
        · rw [if_pos e, if_neg e2]
          rw [e] at h3
          exact fun q => (chb c' h2 e2).2 h3 q.symm
      · by_cases e2 : c' = i
        · rw [if_neg e, if_pos e2]
          rw [e2, sym c i (lb c h1) (lb i hi)] at h3
          exact (chb c h1 e).2 h3
        · rw [if_neg e, if_neg e2]
          exact v5 c c' (lft c h1 e) (lft c' h2 e2) h3
  · rintro ⟨f0, V0, w1, w2, w3, w4, w5⟩
    have main : ∀ o, (∃ f : Nat → Nat, ∃ V, V < 2 ^ s 1 ∧ popN V ≤ most ∧ (∀ o, used.testBit o = true → V.testBit o = true) ∧ (∀ c, left.testBit c = true → (ch c).testBit (f c) = true ∧ V.testBit (f c) = true) ∧ (∀ c c', left.testBit c = true → left.testBit c' = true → (s (148 + c)).testBit c' = true → f c ≠ f c') ∧ f i = o) → ∃ o, o < s 1 ∧ TRY s t (s 1) left used ch most i o := by
      intro o
      induction o using Nat.strongRecOn with
      | ind o ih =>
        rintro ⟨f, V, v1, v2, v3, v4, v5, v6⟩
        have oi := v4 i hi
        rw [v6] at oi
        have om : o < s 1 := bit12 v1 oi.2
        by_cases sp : SPR t left used o
        · obtain ⟨s1, o2, s2, s3, s4⟩ := sp
          have o2m : o2 < s 1 := by omega
          have ne : o ≠ o2 := by omega
          refine ih o2 s2 ⟨fun c => sg o o2 (f c), swB V o o2, ?_, by rw [sw_pop o (by omega) o2 (by omega) V (by omega)]; exact v2, fun x hx => ?_, fun c h1 => ⟨?_, ?_⟩, fun c c' h1 h2 h3 q => v5 c c' h1 h2 h3 (sg_inj q), ?_⟩
          · apply Nat.lt_pow_two_of_testBit
            intro x hx
            rw [sw_bit ne, show sg o o2 x = x by unfold sg; rw [if_neg (by omega), if_neg (by omega)]]
            exact Nat.testBit_lt_two_pow (Nat.lt_of_lt_of_le v1 (Nat.pow_le_pow_right (by omega) hx))
          · rw [sw_bit ne, show sg o o2 x = x by
              unfold sg
              rw [if_neg (fun q => by rw [q, s1] at hx; cases hx), if_neg (fun q => by rw [q, s3] at hx; cases hx)]]
            exact v3 x hx
          · dsimp only
            have g := v4 c h1
            have cc := (hc c h1).2
            unfold sg
            by_cases e1 : f c = o
            · rw [if_pos e1, cc o2 o2m s3, s4 c h1, ← cc o om s1, ← e1]
              exact g.1
            · rw [if_neg e1]
              by_cases e2 : f c = o2
              · rw [if_pos e2, cc o om s1, ← s4 c h1, ← cc o2 o2m s3, ← e2]
                exact g.1
              · rw [if_neg e2]
                exact g.1
          · dsimp only
            rw [sw_bit ne, sg_sg]
            exact (v4 c h1).2
          · dsimp only
            rw [v6]
            unfold sg
            rw [if_pos rfl]
        · refine ⟨o, om, oi.1, ?_, sp, f, V, v1, v2, fun x hx => ?_, fun c h1 => ?_, fun c c' h1 h2 h3 => ?_⟩
          · by_cases e : popN used < most
            · exact Or.inl e
            · refine Or.inr ?_
              have : V = used := pop_sub used (by omega) V (by omega) (by
                apply Nat.eq_of_testBit_eq
                intro x
                rw [Nat.testBit_and]
                cases q : used.testBit x with
                | false => rfl
                | true => rw [v3 x q]; rfl) (by omega)
              rw [← this]
              exact oi.2
          · rw [Nat.testBit_or, Nat.testBit_two_pow, Bool.or_eq_true, decide_eq_true_eq] at hx
            rcases hx with q | q
            · exact v3 x q
            · rw [← q]; exact oi.2
          · rw [dfN_bit, Bool.and_eq_true] at h1
            refine ⟨?_, (v4 c h1.1).2⟩
            unfold chG
            rw [dfN_bit, (v4 c h1.1).1, Bool.true_and]
            by_cases e : (s (148 + i)).testBit c = true
            · rw [if_pos e, Nat.testBit_two_pow, decide_eq_false (fun q => v5 i c hi h1.1 e (v6.trans q))]
              rfl
            · rw [if_neg e, Nat.zero_testBit]
              rfl
          · rw [dfN_bit, Bool.and_eq_true] at h1 h2
            exact v5 c c' h1.1 h2.1 h3
    exact main (f0 i) ⟨f0, V0, w1, w2, w3, w4, w5, rfl⟩
theorem pop64 : ∀ u, u < 64 → popN u ≤ 6 := by decide +kernel
theorem pop4096 : ∀ u, u < 64 → ∀ v, v < 64 → popN (64 * u + v) ≤ 12 := by decide +kernel
theorem pop12 {u : Nat} (h : u < 4096) : popN u ≤ 12 := by
  have := pop4096 (u / 64) (by omega) (u % 64) (by omega)
  rw [show 64 * (u / 64) + u % 64 = u by omega] at this
  exact this
theorem pop_m : ∀ m, m ≤ 6 → ∀ u, u < 64 → u < 2 ^ m → popN u ≤ m := by
  intro m hm
  rcases (by omega : m = 0 ∨ m = 1 ∨ m = 2 ∨ m = 3 ∨ m = 4 ∨ m = 5 ∨ m = 6) with rfl | rfl | rfl | rfl | rfl | rfl | rfl <;> decide +kernel
theorem MinV.uniq {C : Nat → Prop} {v v' : Int32} (h : MinV C v) (h' : MinV C v') : v = v' := by
  rcases h with ⟨a1, a2⟩ | ⟨k, a1, a2, a3, a4⟩
  · rcases h' with ⟨b1, b2⟩ | ⟨k', b1, b2, b3, b4⟩
    · rw [a1, b1]
    · exact absurd b3 (a2 k')
  · rcases h' with ⟨b1, b2⟩ | ⟨k', b1, b2, b3, b4⟩
    · exact absurd a3 (b2 k)
    · by_cases e : k = k'
      · rw [a2, b2, e]
      · by_cases l : k < k'
        · exact absurd a3 (b4 k l)
        · exact absurd b3 (a4 k' (by omega))
theorem VL_AJ {s t : Nat → Nat} {all k : Nat} {ch : Nat → Nat} (hl : ∀ c, all.testBit c = true → ∀ o, o < s 1 → (ch c).testBit o = !(t (34 + c)).testBit o) : VL s (s 1) all 0 ch k ↔ AJ s t (s 1) all k := by
  constructor
  · rintro ⟨f, V, v1, v2, v3, v4, v5⟩
    refine ⟨f, V, v1, v2, fun c hc => ⟨?_, (v4 c hc).2⟩, v5⟩
    have := (v4 c hc).1
    rw [hl c hc _ (bit12 v1 (v4 c hc).2)] at this
    cases e : (t (34 + c)).testBit (f c) with
    | false => rfl
    | true => rw [e] at this; cases this
  · rintro ⟨f, V, v1, v2, v3, v4⟩
    refine ⟨f, V, v1, v2, fun o ho => (by rw [Nat.zero_testBit] at ho; cases ho), fun c hc => ⟨?_, (v3 c hc).2⟩, v4⟩
    rw [hl c hc _ (bit12 v1 (v3 c hc).2), (v3 c hc).1]
    rfl
