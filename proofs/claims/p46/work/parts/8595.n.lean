variable {X : Kd}
def nJ (n : Nat) : Int64 := Int64.ofNat n
theorem nJ_bv {n : Nat} : (nJ n).toBitVec = BitVec.ofNat 64 n := rfl
theorem nJ_toInt {n : Nat} (h : n < 2 ^ 63) : (nJ n).toInt = (n : Int) := Int64.toInt_ofNat_of_lt h
theorem nJ_eq {a b : Nat} (ha : a < 2 ^ 63) (hb : b < 2 ^ 63) : nJ a = nJ b ↔ a = b := ⟨fun q => by
  have := congrArg Int64.toInt q
  rw [nJ_toInt ha, nJ_toInt hb] at this
  omega, fun q => by rw [q]⟩
theorem nJ_add {a b : Nat} : nJ a + nJ b = nJ (a + b) := (Int64.ofNat_add a b).symm
theorem nJ_mul {a b : Nat} : nJ a * nJ b = nJ (a * b) := (Int64.ofNat_mul a b).symm
theorem nJ_sub {a b : Nat} (h : b ≤ a) : nJ a - nJ b = nJ (a - b) := (Int64.ofNat_sub a b h).symm
theorem nJ_of {n : Nat} (h : n < 2 ^ 31) : (nI n).toInt64 = nJ n := by
  apply Int64.toInt_inj.mp
  rw [i64_nI h, nJ_toInt (by omega)]
theorem nJ_to {n : Nat} : (nJ n).toInt32 = nI n := Int64.toInt32_ofNat' (n := n)
theorem nJ_div {a b : Nat} (ha : a < 2 ^ 63) (hb : b < 2 ^ 31) (h0 : 0 < b) : nJ a / nJ b = nJ (a / b) := by
  apply Int64.toInt_inj.mp
  rw [Int64.toInt_div, nJ_toInt ha, nJ_toInt (by omega)]
  have h1 : a / b ≤ a := Nat.div_le_self _ _
  rw [nJ_toInt (by omega)]
  have h2 : Int.tdiv (a : Int) (b : Int) = ((a / b : Nat) : Int) := (Int.ofNat_tdiv a b).symm
  rw [h2]
  generalize a / b = q at *
  exact Int.bmod_eq_of_le (by omega) (by omega)
theorem lgc_eq {a b : Int64} : lg_cmp a b = 0 ↔ a = b := by
  unfold lg_cmp
  by_cases h1 : a > b
  · rw [if_pos h1]
    refine ⟨fun q => absurd q (by decide), fun q => ?_⟩
    have := Int64.lt_iff_toInt_lt.mp h1
    rw [q] at this
    omega
  · rw [if_neg h1]
    by_cases h2 : a = b
    · rw [if_pos h2]; exact ⟨fun _ => h2, fun _ => rfl⟩
    · rw [if_neg h2]; exact ⟨fun q => absurd q (by decide), fun q => absurd q h2⟩
theorem lgc_lt {a b : Int64} : lg_cmp a b < 0 ↔ a.toInt < b.toInt := by
  unfold lg_cmp
  by_cases h1 : a > b
  · rw [if_pos h1]
    have := Int64.lt_iff_toInt_lt.mp h1
    exact ⟨fun q => absurd q (by decide), fun q => by omega⟩
  · rw [if_neg h1]
    have h3 : ¬ b.toInt < a.toInt := fun q => h1 (Int64.lt_iff_toInt_lt.mpr q)
    by_cases h2 : a = b
    · rw [if_pos h2, h2]; exact ⟨fun q => absurd q (by decide), fun q => by omega⟩
    · rw [if_neg h2]
      have h4 : a.toInt ≠ b.toInt := fun q => h2 (Int64.toInt_inj.mp q)
      exact ⟨fun _ => by omega, fun _ => by decide⟩
def pkG (B o : Nat) (l : List Nat) : Nat := l.foldl (fun n c => B * n + (o + c)) 0
theorem pkG_snoc {B o : Nat} {l : List Nat} {c : Nat} : pkG B o (l ++ [c]) = B * pkG B o l + (o + c) := by
  unfold pkG
  rw [List.foldl_append]
  rfl
theorem pkG_lt {B o M : Nat} (hM : M < B) : ∀ n (l : List Nat), l.length = n → (∀ c, c ∈ l → o + c ≤ M) → pkG B o l < B ^ n
  | 0, l, hl, _ => by
    have : l = [] := List.eq_nil_of_length_eq_zero hl
    subst this
    exact Nat.one_pos
  | n + 1, l, hl, h => by
    rcases List.eq_nil_or_concat l with e | ⟨a, c, e⟩
    · subst e; simp at hl
    · rw [List.concat_eq_append] at e
      subst e
      have ha : a.length = n := by simpa using hl
      have ih := pkG_lt hM n a ha (fun d hd => h d (by simp [hd]))
      have hc := h c (by simp)
      rw [pkG_snoc, Nat.pow_succ, Nat.mul_comm (B ^ n) B]
      have : B * pkG B o a + B ≤ B * B ^ n := by
        rw [← Nat.mul_succ]
        exact Nat.mul_le_mul_left B ih
      omega
theorem pkG_inj {B o M : Nat} (hM : M < B) : ∀ n (l l' : List Nat), l.length = n → (∀ c, c ∈ l → 1 ≤ o + c ∧ o + c ≤ M) → (∀ c, c ∈ l' → 1 ≤ o + c ∧ o + c ≤ M) → pkG B o l = pkG B o l' → l = l'
  | 0, l, l', hl, h, h', e => by
    have : l = [] := List.eq_nil_of_length_eq_zero hl
    subst this
    rcases List.eq_nil_or_concat l' with e1 | ⟨a, c, e1⟩
    · exact e1.symm
    · rw [List.concat_eq_append] at e1
      subst e1
      rw [pkG_snoc] at e
      have := (h' c (by simp)).1
      have e0 : pkG B o [] = 0 := rfl
      omega
  | n + 1, l, l', hl, h, h', e => by
    rcases List.eq_nil_or_concat l with e1 | ⟨a, c, e1⟩
    · subst e1; simp at hl
    · rw [List.concat_eq_append] at e1
      subst e1
      have ha : a.length = n := by simpa using hl
      have hc := h c (by simp)
      rcases List.eq_nil_or_concat l' with e2 | ⟨a', c', e2⟩
      · subst e2
        rw [pkG_snoc] at e
        have e0 : pkG B o [] = 0 := rfl
        omega
      · rw [List.concat_eq_append] at e2
        subst e2
        have hc' := h' c' (by simp)
        rw [pkG_snoc, pkG_snoc] at e
        have m1 := congrArg (· % B) e
        simp only [Nat.mul_add_mod] at m1
        rw [Nat.mod_eq_of_lt (by omega), Nat.mod_eq_of_lt (by omega)] at m1
        have m2 : pkG B o a = pkG B o a' := Nat.eq_of_mul_eq_mul_left (n := B) (by omega) (by omega)
        have ih := pkG_inj hM n a a' ha (fun d hd => h d (by simp [hd])) (fun d hd => h' d (by simp [hd])) m2
        rw [ih, show c = c' by omega]
theorem pkG_122 : ∀ n (l : List Nat), l.length = n → (∀ c, c ∈ l → 96 + c ≤ 122) → 256 * pkG 256 96 l + 256 ≤ 123 * 256 ^ n + 133
  | 0, l, hl, _ => by
    have : l = [] := List.eq_nil_of_length_eq_zero hl
    subst this
    decide
  | n + 1, l, hl, h => by
    rcases List.eq_nil_or_concat l with e | ⟨a, c, e⟩
    · subst e; simp at hl
    · rw [List.concat_eq_append] at e
      subst e
      have ha : a.length = n := by simpa using hl
      have ih := pkG_122 n a ha (fun d hd => h d (by simp [hd]))
      have hc := h c (by simp)
      rw [pkG_snoc, Nat.pow_succ]
      omega
theorem pkX_G (l : List Nat) : pkX l = pkG 256 96 l := rfl
theorem pkM_G (l : List Nat) : pkM l = pkG 27 0 l := by
  unfold pkM pkG
  refine congrArg (fun f => List.foldl f 0 l) (funext fun n => funext fun c => ?_)
  rw [Nat.zero_add]
theorem NmOK.x63 {l : List Nat} (h : NmOK l) : pkX l < 2 ^ 63 := by
  obtain ⟨h1, h2, h3⟩ := h
  rw [pkX_G]
  have := pkG_122 l.length l rfl (fun c hc => by have := (h3 c hc).2; omega)
  have h4 : 123 * 256 ^ l.length ≤ 123 * 256 ^ 8 := Nat.mul_le_mul_left _ (Nat.pow_le_pow_right (by omega) h2)
  omega
theorem NmOK.m63 {l : List Nat} (h : NmOK l) : pkM l < 2 ^ 40 := by
  obtain ⟨h1, h2, h3⟩ := h
  rw [pkM_G]
  have := pkG_lt (B := 27) (o := 0) (M := 26) (by omega) l.length l rfl (fun c hc => by have := (h3 c hc).2; omega)
  have h4 : 27 ^ l.length ≤ 27 ^ 8 := Nat.pow_le_pow_right (by omega) h2
  omega
theorem pkX_inj {l l' : List Nat} (h : NmOK l) (h' : NmOK l') : nJ (pkX l) = nJ (pkX l') ↔ l = l' := by
  rw [nJ_eq h.x63 h'.x63]
  refine ⟨fun q => ?_, fun q => by rw [q]⟩
  exact pkG_inj (B := 256) (o := 96) (M := 122) (by omega) l.length l l' rfl (fun c hc => by have := h.2.2 c hc; omega) (fun c hc => by have := h'.2.2 c hc; omega) q
theorem pkM_inj {l l' : List Nat} (h : NmOK l) (h' : NmOK l') : nJ (pkM l) = nJ (pkM l') ↔ l = l' := by
  rw [nJ_eq (by have := h.m63; omega) (by have := h'.m63; omega)]
  refine ⟨fun q => ?_, fun q => by rw [q]⟩
  rw [pkM_G, pkM_G] at q
  exact pkG_inj (B := 27) (o := 0) (M := 26) (by omega) l.length l l' rfl (fun c hc => by have := h.2.2 c hc; omega) (fun c hc => by have := h'.2.2 c hc; omega) q

