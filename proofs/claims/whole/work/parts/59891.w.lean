/-! The fewest officers: the class's search, to its end. -/
theorem sm_rm {g g' : Nat → Nat} {i : Nat} (h : ∀ k, k ≠ i → g k = g' k) (hi : g i = g' i + 1) : ∀ n, sm g n = sm g' n + (if i < n then 1 else 0) := by
  intro n
  induction n with
  | zero => rw [if_neg (by omega)]; rfl
  | succ n ih =>
    show sm g n + g n = sm g' n + g' n + _
    rw [ih]
    by_cases e : i = n
    · subst e
      rw [if_neg (by omega), if_pos (by omega), hi]
      omega
    · rw [h n (fun q => e q.symm)]
      by_cases e2 : i < n
      · rw [if_pos e2, if_pos (by omega)]; omega
      · rw [if_neg e2, if_neg (by omega)]; omega
theorem tb_mod {u k : Nat} : u / 2 ^ k % 2 = if u.testBit k = true then 1 else 0 := by
  rw [Nat.testBit_eq_decide_div_mod_eq]
  by_cases e : u / 2 ^ k % 2 = 1
  · rw [if_pos (decide_eq_true e)]; exact e
  · rw [if_neg (by simp only [decide_eq_true_eq]; exact e)]; omega
theorem pop_rm {u i : Nat} (h : u.testBit i = true) (hi : i < 31) : popN (dfN u (2 ^ i)) + 1 = popN u := by
  unfold popN
  rw [sm_rm (g := fun k => u / 2 ^ k % 2) (g' := fun k => dfN u (2 ^ i) / 2 ^ k % 2) (i := i) (by
    intro k hk
    try dsimp only
    rw [tb_mod, tb_mod, dfN_bit, Nat.testBit_two_pow, decide_eq_false (fun q => hk q.symm), Bool.not_false, Bool.and_true]) (by
    try dsimp only
    rw [tb_mod, tb_mod, dfN_bit, Nat.testBit_two_pow, decide_eq_true (rfl : i = i), h]
    rfl) 31, if_pos hi]
theorem pop_or : ∀ u, u < 64 → ∀ o, o < 6 → popN (u ||| 2 ^ o) ≤ popN u + 1 ∧ (u.testBit o = true → popN (u ||| 2 ^ o) = popN u) := by decide +kernel
theorem or64 : ∀ u, u < 64 → ∀ o, o < 6 → u ||| 2 ^ o < 64 := by decide +kernel
theorem orm {u o m : Nat} (hu : u < 2 ^ m) (ho : o < m) : u ||| 2 ^ o < 2 ^ m := Nat.or_lt_two_pow hu (Nat.pow_lt_pow_right (by omega) ho)
theorem RW.keep {w w' : Wd} {s : Nat → Nat} {done : Nat} {ch : Nat → Nat} (h : RW w s done ch) (hs : s 3 ≤ 12) (k : ∀ x, x < 12 * (done + 1) → aI w' 412 x = aI w 412 x) : RW w' s done ch := fun c hc => ⟨by rw [k _ (by omega)]; exact (h c hc).1, (h c hc).2⟩
theorem ck409 : chk Kc 0 (some 409) = some 409 := ck rfl (by decide +kernel)
def GV (s t : Nat → Nat) (n most done left used : Nat) (ch : Nat → Nat) : Prop := ∀ w, BW w s t → RW w s done ch → ∃ (b : Bool) (w' : Wd), f_X1_gives Kc n (some 409) (nI done) (nI left) (nI used) (nI most) w = some (b, w') ∧ Ofi NS A412 w w' ∧ (∀ x, x < 12 * (done + 1) → aI w' 412 x = aI w 412 x) ∧ (b = true ↔ VL s (s 1) left used ch most)
theorem x_givesL {s t : Nat → Nat} (hS : GoodS s) {n most done left used i U cd : Nat} {ch : Nat → Nat} {k : Option Nat → Int32 → Int32 → Int32 → Int32 → Int32 → Int32 → Int32 → Int32 → Wd → Option (Bool × Wd)} (hk : ∀ o a b c d e f g h w, k o a b c d e f g h w = some (false, w)) {w : Wd} (h : BW w s t) (hr : RW w s done ch) (hd : done < 12) (hl : left < 2 ^ s 3) (hu : used < 2 ^ s 1) (hi : left.testBit i = true) (hcd : cd < 64) (hU : ∀ o, o < s 1 → (cd.testBit o = true ↔ (ch i).testBit o = true ∧ (popN used < most ∨ used.testBit o = true))) (IH : ∀ o, o < s 1 → cd.testBit o = true → GV s t n most (done + 1) (dfN left (2 ^ i)) (used ||| 2 ^ o) (chG s ch i o)) : ∃ (b : Bool) (w' : Wd), f_X1_gives_L66 Kc (f_X1_gives Kc n) k fu (some 409) (nI done) (nI left) (nI used) (nI most) (nI U) (nI i) (nI cd) (nI 0) w = some (b, w') ∧ Ofi NS A412 w w' ∧ (∀ x, x < 12 * (done + 1) → aI w' 412 x = aI w 412 x) ∧ (b = true ↔ ∃ o, o < s 1 ∧ TRY s t (s 1) left used ch most i o) := by
  have h12 := hS.1.2.2.2
  have h6 := hS.1.2.1
  have p12 : 2 ^ s 3 ≤ 2 ^ 12 := Nat.pow_le_pow_right (by omega) h12
  have p6 : 2 ^ s 1 ≤ 2 ^ 6 := Nat.pow_le_pow_right (by omega) h6
  have hin : i < s 3 := bit12 hl hi
  have pi : 2 ^ i < 2 ^ s 3 := Nat.pow_lt_pow_right (by omega) hin
  refine loop_q (fun f c w1 => f_X1_gives_L66 Kc (f_X1_gives Kc n) k f (some 409) (nI done) (nI left) (nI used) (nI most) (nI U) (nI i) (nI cd) (nI c) w1) (fun c w1 => Ofi NS A412 w w1 ∧ (∀ x, x < 12 * (done + 1) → aI w1 412 x = aI w 412 x) ∧ ∀ o, o < c → ¬ TRY s t (s 1) left used ch most i o) (fun r => ∃ (b : Bool) (w' : Wd), r = some (b, w') ∧ Ofi NS A412 w w' ∧ (∀ x, x < 12 * (done + 1) → aI w' 412 x = aI w 412 x) ∧ (b = true ↔ ∃ o, o < s 1 ∧ TRY s t (s 1) left used ch most i o)) (s 1) (fun f w1 hI => ?_) (fun f c w1 hc hI ih => ?_) fu 0 w ⟨Ofi.rf, fun _ _ => rfl, fun o ho => by omega⟩ (by omega) (fu_lt (by omega))
  · try dsimp only
    have h1 := h.ofi hI.1
    rw [f_X1_gives_L66, ck409, Option.bind_some, h1.2.2.1, if_le_t (by omega) (by omega) (Nat.le_refl _), hk]
    exact ⟨false, w1, rfl, hI.1, hI.2.1, fun q => (by cases q), fun q => by
      obtain ⟨o, q1, q2⟩ := q
      exact absurd q2 (hI.2.2 o q1)⟩
  · try dsimp only at ih ⊢
    obtain ⟨i1, i2, i3⟩ := hI
    have h1 := h.ofi i1
    have skip : ¬ TRY s t (s 1) left used ch most i c → ∀ w', Ofi NS A412 w w' → (∀ x, x < 12 * (done + 1) → aI w' 412 x = aI w 412 x) → ∃ (b : Bool) (w2 : Wd), f_X1_gives_L66 Kc (f_X1_gives Kc n) k f (some 409) (nI done) (nI left) (nI used) (nI most) (nI U) (nI i) (nI cd) (nI (c + 1)) w' = some (b, w2) ∧ Ofi NS A412 w w2 ∧ (∀ x, x < 12 * (done + 1) → aI w2 412 x = aI w 412 x) ∧ (b = true ↔ ∃ o, o < s 1 ∧ TRY s t (s 1) left used ch most i o) := fun q w' q1 q2 => ih w' ⟨q1, q2, fun o ho => by
      by_cases e : o = c
      · rw [e]; exact q
      · exact i3 o (by omega)⟩
    have one : (1 : Int32) <<< (nI i &&& 31) = nI (2 ^ i) := by
      rw [show (1 : Int32) = nI 1 from rfl, show (31 : Int32) = nI 31 from rfl, shl_nI (by omega) (by omega), Nat.one_mul]
    have po : 2 ^ c < 2 ^ 6 := Nat.pow_lt_pow_right (by omega) (by omega)
    have onc : (1 : Int32) <<< (nI c &&& 31) = nI (2 ^ c) := by
      rw [show (1 : Int32) = nI 1 from rfl, show (31 : Int32) = nI 31 from rfl, shl_nI (by omega) (by omega), Nat.one_mul]
    rw [f_X1_gives_L66, ck409, Option.bind_some, h1.2.2.1, if_le_f (by omega) (by omega) hc, x_has (by omega) (by omega), Option.bind_some, show nI c + 1 = nI (c + 1) from nI_add c 1]
    try dsimp only
    cases e : cd.testBit c with
    | false =>
      rw [ib_f]
      exact skip (fun q => by
        have := (hU c hc).mpr ⟨q.1, q.2.1⟩
        rw [e] at this
        cases this) w1 i1 i2
    | true =>
      obtain ⟨b1, q1, q2⟩ := x_isSpare hS h1 (o := c) (left := left) (used := used) hc hl (by omega)
      rw [ib_t, q1, Option.bind_some]
      try dsimp only
      cases e1 : b1 with
      | true =>
        rw [ib_t]
        exact skip (fun q => q.2.2.1 (q2.mp e1)) w1 i1 i2
      | false =>
        obtain ⟨w2, g1, g2, g3, g4⟩ := x_giveTo hS h1 (done := done) (i := i) (o := c) (hr.keep h12 i2) hd hin hc
        obtain ⟨b3, w3, d1, d2, d3, d4⟩ := IH c hc e w2 (h1.ofi g2) g4
        have k2 : Ofi NS A412 w w3 := (i1.trans g2).trans d2
        have k3 : ∀ x, x < 12 * (done + 1) → aI w3 412 x = aI w 412 x := fun x hx => by rw [d3 x (by omega), g3 x hx, i2 x hx]
        rw [ib_f, g1, Option.bind_some, one, onc, andn_nI (by omega) (by omega), or_nI (by omega) (by omega), show nI done + 1 = nI (done + 1) from nI_add done 1, d1, Option.bind_some]
        try dsimp only
        cases e3 : b3 with
        | false =>
          rw [ib_f]
          exact skip (fun q => by
            have := d4.mpr q.2.2.2
            rw [e3] at this
            cases this) w3 k2 k3
        | true =>
          rw [ib_t]
          exact ⟨true, w3, rfl, k2, k3, fun _ => ⟨c, hc, ((hU c hc).mp e).1, ((hU c hc).mp e).2, (fun q => by
            have := q2.mpr q
            rw [e1] at this
            cases this), d4.mp e3⟩, fun _ => rfl⟩
theorem VL_0 {s : Nat → Nat} {m used most : Nat} {ch : Nat → Nat} (hu : used < 2 ^ m) (hp : popN used ≤ most) : VL s m 0 used ch most := ⟨fun _ => 0, used, hu, hp, fun _ q => q, fun c hc => (by rw [Nat.zero_testBit] at hc; cases hc), fun c c' hc => (by rw [Nat.zero_testBit] at hc; cases hc)⟩
theorem x_gives {s t : Nat → Nat} (hS : GoodS s) {most : Nat} (hm : most ≤ 6) : ∀ (n done left used : Nat) (ch : Nat → Nat), left < 2 ^ s 3 → used < 2 ^ s 1 → popN left + done ≤ 12 → popN left < n → popN used ≤ most → (∀ c, left.testBit c = true → ch c < 2 ^ s 1 ∧ ∀ o, o < s 1 → used.testBit o = false → (ch c).testBit o = !(t (34 + c)).testBit o) → GV s t n most done left used ch := by
  have h12 := hS.1.2.2.2
  have h6 := hS.1.2.1
  have p12 : 2 ^ s 3 ≤ 2 ^ 12 := Nat.pow_le_pow_right (by omega) h12
  have p6 : 2 ^ s 1 ≤ 2 ^ 6 := Nat.pow_le_pow_right (by omega) h6
  intro n
  induction n with
  | zero => intro done left used ch _ _ _ q; omega
  | succ n ih =>
    intro done left used ch hl hu hd hn hp hc w h hr
    rw [f_X1_gives]
    by_cases e0 : left = 0
    · subst e0
      rw [if_pos (show nI 0 = 0 from rfl)]
      exact ⟨true, w, rfl, Ofi.rf, fun _ _ => rfl, fun _ => VL_0 hu hp, fun _ => rfl⟩
    · have pp : 1 ≤ popN left := by
        obtain ⟨i, q2⟩ := Nat.exists_testBit_of_ne_zero e0
        have q3 := bit12 hl q2
        have := pop_rm q2 (by omega)
        omega
      have main : ∀ U, U < 64 → (∀ o, o < s 1 → (U.testBit o = true ↔ (popN used < most ∨ used.testBit o = true))) → ∃ (b : Bool) (w' : Wd), ((f_X1_hardest Kc 409 (nI done) (nI left) (nI U) w).bind fun q5 => (cha Kc 20 (wR q5.2 102 409)).bind fun a6 => (ixa ((nI done * 12) + q5.1) a6.2).bind fun j7 => f_X1_gives_L66 Kc (f_X1_gives Kc n) (fun _ _ _ _ _ _ _ _ _ w8 => some (false, w8)) fu (some 409) (nI done) (nI left) (nI used) (nI most) (nI U) q5.1 ((aI q5.2 a6.1 j7) &&& nI U) 0 q5.2) = some (b, w') ∧ Ofi NS A412 w w' ∧ (∀ x, x < 12 * (done + 1) → aI w' 412 x = aI w 412 x) ∧ (b = true ↔ VL s (s 1) left used ch most) := fun U hU1 hU2 => by
        obtain ⟨i, i1, i2, i3⟩ := x_hardest hS h hr (by omega) hl e0 hU1
        obtain ⟨r1, r2⟩ := hr i i1
        have al : ch i &&& U ≤ ch i := Nat.and_le_left
        have bitU : ∀ o, o < s 1 → ((ch i &&& U).testBit o = true ↔ (ch i).testBit o = true ∧ (popN used < most ∨ used.testBit o = true)) := fun o ho => by
          rw [Nat.testBit_and, Bool.and_eq_true, hU2 o ho]
        rw [i3, Option.bind_some]
        try dsimp only
        rw [x102 h.1, Option.bind_some, show (12 : Int32) = nI 12 from rfl, pk_mul, nI_add]
        try dsimp only
        rw [show done * 12 + i = 12 * done + i by omega, ixa_n (by omega) (by omega), Option.bind_some, r1, and_nI (by omega) (by omega), ← gives_iff hS hl hu i2 hc]
        refine x_givesL hS (fun _ _ _ _ _ _ _ _ _ _ => rfl) h hr (by omega) hl hu i2 (by omega) bitU (fun o ho hb => ih (done + 1) _ _ _ ?_ (orm hu ho) ?_ ?_ ?_ (fun c hc' => ?_))
        · have := dfN_le (a := left) (b := 2 ^ i)
          omega
        · have := pop_rm i2 (by omega)
          omega
        · have := pop_rm i2 (by omega)
          omega
        · have q := pop_or used (by omega) o (by omega)
          rcases ((bitU o ho).mp hb).2 with z | z
          · omega
          · rw [q.2 z]; exact hp
        · rw [dfN_bit, Bool.and_eq_true] at hc'
          obtain ⟨z1, z2⟩ := hc c hc'.1
          refine ⟨?_, fun o2 ho2 hn2 => ?_⟩
          · have := dfN_le (a := ch c) (b := if (s (148 + i)).testBit c = true then 2 ^ o else 0)
            unfold chG
            omega
          · rw [Nat.testBit_or, Bool.or_eq_false_iff, Nat.testBit_two_pow, decide_eq_false_iff_not] at hn2
            rw [← z2 o2 ho2 hn2.1]
            unfold chG
            rw [dfN_bit]
            by_cases z : (s (148 + i)).testBit c = true
            · rw [if_pos z, Nat.testBit_two_pow, decide_eq_false hn2.2, Bool.not_false, Bool.and_true]
            · rw [if_neg z, Nat.zero_testBit, Bool.not_false, Bool.and_true]
      rw [if_neg (show ¬ nI left = 0 from fun q => e0 ((nI_eq (b := 0) (by omega) (by omega)).mp q)), if_pos (show nI done < 12 from (nI_ltI (b := 12) (by omega) (by omega)).mpr (by omega)), x_bitCount (by omega), Option.bind_some]
      try dsimp only
      by_cases e1 : most ≤ popN used
      · rw [if_le_t (by omega) (by have := popN_le used; omega) e1, ck409, Option.bind_some]
        exact main used (by omega) (fun o ho => ⟨fun q => Or.inr q, fun q => by
          rcases q with z | z
          · omega
          · exact z⟩)
      · rw [if_le_f (by omega) (by have := popN_le used; omega) (by omega), ck409, Option.bind_some]
        have pos : 1 ≤ 2 ^ s 1 := Nat.one_le_two_pow
        have al : f_X12_allOf Kc (wI w 104 409) w = some (nI (2 ^ s 1 - 1), w) := by
          unfold f_X12_allOf
          rw [h.2.2.1, show (1 : Int32) = nI 1 from rfl, show (31 : Int32) = nI 31 from rfl, shl_nI (by omega) (by omega), Nat.one_mul, sub_nI pos]
        rw [al, Option.bind_some]
        try dsimp only
        exact main (2 ^ s 1 - 1) (by omega) (fun o ho => ⟨fun _ => Or.inl (by omega), fun _ => by
          rw [Nat.testBit_two_pow_sub_one]
          exact decide_eq_true ho⟩)
