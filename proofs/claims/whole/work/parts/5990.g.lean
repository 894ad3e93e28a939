/-! One call of the law. -/
theorem c10 : chk Kc 10 (some 0) = some 0 := by decide +kernel
theorem c11 : chk Kc 11 (some 415) = some 415 := by decide +kernel
theorem c437 : cha Kc 23 (some 437) = some (437, 1) := by decide +kernel
theorem c438 : cha Kc 24 (some 438) = some (438, 1) := by decide +kernel
theorem tJ_self {w : Wd} {a i : Nat} {v : Int64} : aJ (tJ w a i v) a i = v := by rw [aJ_tJ, if_pos ⟨rfl, rfl⟩]
theorem tD_self {w : Wd} {a i : Nat} {v : UInt64} : aD (tD w a i v) a i = v := by
  show (up2 (aD w) a i v) a i = v
  unfold up2
  rw [if_pos ⟨rfl, rfl⟩]
theorem xh_l {α β : Type} {a : α} {w : Wd} {k : α → Option β} {h : Nat → Option β} : xh (.inl a, w) k h = k a := rfl
theorem xh_r {α β : Type} {e : Nat} {w : Wd} {k : α → Option β} {h : Nat → Option β} : xh (.inr e, w) k h = h e := rfl
theorem ixL {L i k : Nat} (h : 6 * i + 5 < L) (hL : L ≤ 3072) (hk : k ≤ 5) : ixa (nI (6 * i) + nI k) L = some (6 * i + k) := by
  rw [nI_add]
  exact ixa_n (by omega) (by omega)
theorem case_6 {w : Wd} (h : Inv w) {L i : Nat} {xs : Nat → Int32} (hi : 6 * i + 5 < L) (hL : L ≤ 3072) : ∃ w', f_law_c6 Kc L xs (some 0) (some 415) (some 437) (some 438) (nI (6 * i)) w = some w' ∧ Inv w' := by
  obtain ⟨r, w1, e1, kk⟩ := b_find h (xs (6 * i + 1))
  unfold f_law_c6 f_L_find
  rw [show ixa (nI (6 * i) + 1) L = some (6 * i + 1) from ixL hi hL (k := 1) (by omega), Option.bind_some, c10, Option.bind_some, e1, Option.bind_some]
  cases r with
  | inl a =>
    obtain ⟨v, w3, e3, i3, j3, rs1, rs2⟩ := kk (tJ w1 437 0 a.toInt64) (fr_tJ rfl)
    refine ⟨w3, ?_, i3⟩
    rw [xh_l, c437, Option.bind_some]
    try dsimp only
    rw [show ixa 0 1 = some 0 from rfl, Option.bind_some, Option.bind_some, Option.bind_some, Option.bind_some, c11, Option.bind_some]
    try dsimp only
    rw [e3, Option.bind_some]
    unfold f_X13_thrown
    rw [Option.bind_some]
    try dsimp only
    rw [rs2, if_pos rfl, if_pos rfl, Option.bind_some]
    try dsimp only
    rw [show ixa 0 1 = some 0 from rfl, Option.bind_some, j3, tJ_self, rs1, if_pos (lgc_eq.mpr rfl)]
  | inr e =>
    obtain ⟨v, w3, e3, i3, j3, rs⟩ := kk w1 Fr.rf
    refine ⟨w3, ?_, i3⟩
    rw [xh_r]
    rcases rs with ⟨q1, q2⟩
    · subst q1
      rw [if_pos rfl, Option.bind_some, Option.bind_some, c11, Option.bind_some]
      try dsimp only
      rw [e3, Option.bind_some]
      unfold f_X13_thrown
      rw [Option.bind_some]
      try dsimp only
      rw [q2, if_pos rfl, if_neg (show ¬ (1 : Int32) = 0 by decide)]
theorem case_7 {w : Wd} (h : Inv w) {L i : Nat} {xs : Nat → Int32} (hi : 6 * i + 5 < L) (hL : L ≤ 3072) : ∃ w', f_law_c7 Kc L xs (some 0) (some 415) (some 437) (some 438) (nI (6 * i)) w = some w' ∧ Inv w' := by
  obtain ⟨r, w1, e1, kk⟩ := b_isWorkingDay h (xs (6 * i + 1))
  unfold f_law_c7 f_L_isWorkingDay
  rw [show ixa (nI (6 * i) + 1) L = some (6 * i + 1) from ixL hi hL (k := 1) (by omega), Option.bind_some, c10, Option.bind_some, e1, Option.bind_some]
  cases r with
  | inl a =>
    have fin : ∀ z : Int64, z = (if a = true then 1 else 0) → ∀ w2, w2 = tJ w1 437 0 z → ∃ w3, (∃ v, f_X13_isWorkingDay Kc 415 (xs (6 * i + 1)) w2 = some (v, w3) ∧ a = v) ∧ Inv w3 ∧ aJ w3 437 0 = z ∧ wI w3 1300 415 = 0 := fun z hz w2 hw => by
      obtain ⟨v, w3, e3, i3, j3, rs1, rs2⟩ := kk (tJ w1 437 0 z) (fr_tJ rfl)
      exact ⟨w3, ⟨v, by rw [hw]; exact e3, rs1⟩, i3, by rw [j3, aJ_tJ, if_pos ⟨rfl, rfl⟩], rs2⟩
    cases a with
    | false =>
      obtain ⟨w3, ⟨v, e3, rs1⟩, i3, j3, rs2⟩ := fin 0 rfl _ rfl
      refine ⟨w3, ?_, i3⟩
      subst rs1
      rw [xh_l, ib_f, c437, Option.bind_some]
      try dsimp only
      rw [show ixa 0 1 = some 0 from rfl, Option.bind_some, Option.bind_some, Option.bind_some, Option.bind_some, c11, Option.bind_some]
      try dsimp only
      rw [e3, Option.bind_some]
      unfold f_X13_thrown
      rw [Option.bind_some]
      try dsimp only
      rw [rs2, if_pos rfl, if_pos rfl, Option.bind_some]
      try dsimp only
      rw [show ixa 0 1 = some 0 from rfl, Option.bind_some, ib_f, j3, if_pos (lgc_eq.mpr rfl)]
    | true =>
      obtain ⟨w3, ⟨v, e3, rs1⟩, i3, j3, rs2⟩ := fin 1 rfl _ rfl
      refine ⟨w3, ?_, i3⟩
      subst rs1
      rw [xh_l, ib_t, c437, Option.bind_some]
      try dsimp only
      rw [show ixa 0 1 = some 0 from rfl, Option.bind_some, Option.bind_some, Option.bind_some, Option.bind_some, c11, Option.bind_some]
      try dsimp only
      rw [e3, Option.bind_some]
      unfold f_X13_thrown
      rw [Option.bind_some]
      try dsimp only
      rw [rs2, if_pos rfl, if_pos rfl, Option.bind_some]
      try dsimp only
      rw [show ixa 0 1 = some 0 from rfl, Option.bind_some, ib_t, j3, if_pos (lgc_eq.mpr rfl)]
  | inr e =>
    obtain ⟨v, w3, e3, i3, j3, rs⟩ := kk w1 Fr.rf
    refine ⟨w3, ?_, i3⟩
    rw [xh_r]
    rcases rs with ⟨q1, q2⟩
    · subst q1
      rw [if_pos rfl, Option.bind_some, Option.bind_some, c11, Option.bind_some]
      try dsimp only
      rw [e3, Option.bind_some]
      unfold f_X13_thrown
      rw [Option.bind_some]
      try dsimp only
      rw [q2, if_pos rfl, if_neg (show ¬ (1 : Int32) = 0 by decide)]
theorem case_8 {w : Wd} (h : Inv w) {L i : Nat} {xs : Nat → Int32} (hi : 6 * i + 5 < L) (hL : L ≤ 3072) : ∃ w', f_law_c8 Kc L xs (some 0) (some 415) (some 437) (some 438) (nI (6 * i)) w = some w' ∧ Inv w' := by
  obtain ⟨r, w1, e1, kk⟩ := b_workingDays h (xs (6 * i + 1)) (xs (6 * i + 2))
  unfold f_law_c8 f_L_workingDays
  rw [show ixa (nI (6 * i) + 1) L = some (6 * i + 1) from ixL hi hL (k := 1) (by omega), Option.bind_some, show ixa (nI (6 * i) + 2) L = some (6 * i + 2) from ixL hi hL (k := 2) (by omega), Option.bind_some, c10, Option.bind_some, e1, Option.bind_some]
  cases r with
  | inl a =>
    obtain ⟨v, w3, e3, i3, j3, rs1, rs2⟩ := kk (tJ w1 437 0 a.toInt64) (fr_tJ rfl)
    refine ⟨w3, ?_, i3⟩
    rw [xh_l, c437, Option.bind_some]
    try dsimp only
    rw [show ixa 0 1 = some 0 from rfl, Option.bind_some, Option.bind_some, Option.bind_some, Option.bind_some, Option.bind_some, c11, Option.bind_some]
    try dsimp only
    rw [e3, Option.bind_some]
    unfold f_X13_thrown
    rw [Option.bind_some]
    try dsimp only
    rw [rs2, if_pos rfl, if_pos rfl, Option.bind_some]
    try dsimp only
    rw [show ixa 0 1 = some 0 from rfl, Option.bind_some, j3, tJ_self, rs1, if_pos (lgc_eq.mpr rfl)]
  | inr e =>
    obtain ⟨v, w3, e3, i3, j3, rs⟩ := kk w1 Fr.rf
    refine ⟨w3, ?_, i3⟩
    rw [xh_r]
    rcases rs with ⟨q1, q2⟩
    · subst q1
      rw [if_pos rfl, Option.bind_some, Option.bind_some, Option.bind_some, c11, Option.bind_some]
      try dsimp only
      rw [e3, Option.bind_some]
      unfold f_X13_thrown
      rw [Option.bind_some]
      try dsimp only
      rw [q2, if_pos rfl, if_neg (show ¬ (1 : Int32) = 0 by decide)]
theorem case_9 {w : Wd} (h : Inv w) {L i : Nat} {xs : Nat → Int32} (hi : 6 * i + 5 < L) (hL : L ≤ 3072) : ∃ w', f_law_c9 Kc L xs (some 0) (some 415) (some 437) (some 438) (nI (6 * i)) w = some w' ∧ Inv w' := by
  obtain ⟨r, w1, e1, kk⟩ := b_lengthening h (xs (6 * i + 1))
  unfold f_law_c9 f_L_lengthening
  rw [show ixa (nI (6 * i) + 1) L = some (6 * i + 1) from ixL hi hL (k := 1) (by omega), Option.bind_some, c10, Option.bind_some, e1, Option.bind_some]
  cases r with
  | inl a =>
    obtain ⟨v, w3, e3, i3, j3, rs1, rs2⟩ := kk (tJ w1 437 0 a.toInt64) (fr_tJ rfl)
    refine ⟨w3, ?_, i3⟩
    rw [xh_l, c437, Option.bind_some]
    try dsimp only
    rw [show ixa 0 1 = some 0 from rfl, Option.bind_some, Option.bind_some, Option.bind_some, Option.bind_some, c11, Option.bind_some]
    try dsimp only
    rw [e3, Option.bind_some]
    unfold f_X13_thrown
    rw [Option.bind_some]
    try dsimp only
    rw [rs2, if_pos rfl, if_pos rfl, Option.bind_some]
    try dsimp only
    rw [show ixa 0 1 = some 0 from rfl, Option.bind_some, j3, tJ_self, rs1, if_pos (lgc_eq.mpr rfl)]
  | inr e =>
    obtain ⟨v, w3, e3, i3, j3, rs⟩ := kk w1 Fr.rf
    refine ⟨w3, ?_, i3⟩
    rw [xh_r]
    rcases rs with ⟨q1, q2⟩
    · subst q1
      rw [if_pos rfl, Option.bind_some, Option.bind_some, c11, Option.bind_some]
      try dsimp only
      rw [e3, Option.bind_some]
      unfold f_X13_thrown
      rw [Option.bind_some]
      try dsimp only
      rw [q2, if_pos rfl, if_neg (show ¬ (1 : Int32) = 0 by decide)]
theorem case_10 {w : Wd} (h : Inv w) {L i : Nat} {xs : Nat → Int32} (hi : 6 * i + 5 < L) (hL : L ≤ 3072) : ∃ w', f_law_c10 Kc L xs (some 0) (some 415) (some 437) (some 438) (nI (6 * i)) w = some w' ∧ Inv w' := by
  obtain ⟨r, w1, e1, kk⟩ := b_witness h (xs (6 * i + 1)) (xs (6 * i + 2))
  unfold f_law_c10 f_L_witness
  rw [show ixa (nI (6 * i) + 1) L = some (6 * i + 1) from ixL hi hL (k := 1) (by omega), Option.bind_some, show ixa (nI (6 * i) + 2) L = some (6 * i + 2) from ixL hi hL (k := 2) (by omega), Option.bind_some, c10, Option.bind_some, e1, Option.bind_some]
  cases r with
  | inl a =>
    obtain ⟨v, w3, e3, i3, j3, rs1, rs2⟩ := kk (tJ w1 437 0 a.toInt64) (fr_tJ rfl)
    refine ⟨w3, ?_, i3⟩
    rw [xh_l, c437, Option.bind_some]
    try dsimp only
    rw [show ixa 0 1 = some 0 from rfl, Option.bind_some, Option.bind_some, Option.bind_some, Option.bind_some, Option.bind_some, c11, Option.bind_some]
    try dsimp only
    rw [e3, Option.bind_some]
    unfold f_X13_thrown
    rw [Option.bind_some]
    try dsimp only
    rw [rs2, if_pos rfl, if_pos rfl, Option.bind_some]
    try dsimp only
    rw [show ixa 0 1 = some 0 from rfl, Option.bind_some, j3, tJ_self, rs1, if_pos (lgc_eq.mpr rfl)]
  | inr e =>
    obtain ⟨v, w3, e3, i3, j3, rs⟩ := kk w1 Fr.rf
    refine ⟨w3, ?_, i3⟩
    rw [xh_r]
    rcases rs with ⟨q1, q2⟩
    · subst q1
      rw [if_pos rfl, Option.bind_some, Option.bind_some, Option.bind_some, c11, Option.bind_some]
      try dsimp only
      rw [e3, Option.bind_some]
      unfold f_X13_thrown
      rw [Option.bind_some]
      try dsimp only
      rw [q2, if_pos rfl, if_neg (show ¬ (1 : Int32) = 0 by decide)]
theorem case_11 {w : Wd} (h : Inv w) {L i : Nat} {xs : Nat → Int32} (hi : 6 * i + 5 < L) (hL : L ≤ 3072) : ∃ w', f_law_c11 Kc L xs (some 0) (some 415) (some 437) (some 438) (nI (6 * i)) w = some w' ∧ Inv w' := by
  obtain ⟨r, w1, e1, kk⟩ := b_isOff h (xs (6 * i + 1)) (xs (6 * i + 2))
  unfold f_law_c11 f_L_isOff
  rw [show ixa (nI (6 * i) + 1) L = some (6 * i + 1) from ixL hi hL (k := 1) (by omega), Option.bind_some, show ixa (nI (6 * i) + 2) L = some (6 * i + 2) from ixL hi hL (k := 2) (by omega), Option.bind_some, c10, Option.bind_some, e1, Option.bind_some]
  cases r with
  | inl a =>
    have fin : ∀ z : Int64, z = (if a = true then 1 else 0) → ∀ w2, w2 = tJ w1 437 0 z → ∃ w3, (∃ v, f_X13_isOff Kc 415 (xs (6 * i + 1)) (xs (6 * i + 2)) w2 = some (v, w3) ∧ a = v) ∧ Inv w3 ∧ aJ w3 437 0 = z ∧ wI w3 1300 415 = 0 := fun z hz w2 hw => by
      obtain ⟨v, w3, e3, i3, j3, rs1, rs2⟩ := kk (tJ w1 437 0 z) (fr_tJ rfl)
      exact ⟨w3, ⟨v, by rw [hw]; exact e3, rs1⟩, i3, by rw [j3, aJ_tJ, if_pos ⟨rfl, rfl⟩], rs2⟩
    cases a with
    | false =>
      obtain ⟨w3, ⟨v, e3, rs1⟩, i3, j3, rs2⟩ := fin 0 rfl _ rfl
      refine ⟨w3, ?_, i3⟩
      subst rs1
      rw [xh_l, ib_f, c437, Option.bind_some]
      try dsimp only
      rw [show ixa 0 1 = some 0 from rfl, Option.bind_some, Option.bind_some, Option.bind_some, Option.bind_some, Option.bind_some, c11, Option.bind_some]
      try dsimp only
      rw [e3, Option.bind_some]
      unfold f_X13_thrown
      rw [Option.bind_some]
      try dsimp only
      rw [rs2, if_pos rfl, if_pos rfl, Option.bind_some]
      try dsimp only
      rw [show ixa 0 1 = some 0 from rfl, Option.bind_some, ib_f, j3, if_pos (lgc_eq.mpr rfl)]
    | true =>
      obtain ⟨w3, ⟨v, e3, rs1⟩, i3, j3, rs2⟩ := fin 1 rfl _ rfl
      refine ⟨w3, ?_, i3⟩
      subst rs1
      rw [xh_l, ib_t, c437, Option.bind_some]
      try dsimp only
      rw [show ixa 0 1 = some 0 from rfl, Option.bind_some, Option.bind_some, Option.bind_some, Option.bind_some, Option.bind_some, c11, Option.bind_some]
      try dsimp only
      rw [e3, Option.bind_some]
      unfold f_X13_thrown
      rw [Option.bind_some]
      try dsimp only
      rw [rs2, if_pos rfl, if_pos rfl, Option.bind_some]
      try dsimp only
      rw [show ixa 0 1 = some 0 from rfl, Option.bind_some, ib_t, j3, if_pos (lgc_eq.mpr rfl)]
  | inr e =>
    obtain ⟨v, w3, e3, i3, j3, rs⟩ := kk w1 Fr.rf
    refine ⟨w3, ?_, i3⟩
    rw [xh_r]
    rcases rs with ⟨q1, q2⟩ | ⟨q1, q2⟩
    · subst q1
      rw [if_pos rfl, Option.bind_some, Option.bind_some, Option.bind_some, c11, Option.bind_some]
      try dsimp only
      rw [e3, Option.bind_some]
      unfold f_X13_thrown
      rw [Option.bind_some]
      try dsimp only
      rw [q2, if_pos rfl, if_neg (show ¬ (1 : Int32) = 0 by decide)]
    · subst q1
      rw [if_neg (show ¬ 2 = 1 by decide), if_pos rfl, Option.bind_some, Option.bind_some, Option.bind_some, c11, Option.bind_some]
      try dsimp only
      rw [e3, Option.bind_some]
      unfold f_X13_thrown
      rw [Option.bind_some]
      try dsimp only
      rw [q2, if_pos rfl, if_neg (show ¬ (2 : Int32) = 0 by decide)]
theorem case_12 {w : Wd} (h : Inv w) {L i : Nat} {xs : Nat → Int32} (hi : 6 * i + 5 < L) (hL : L ≤ 3072) : ∃ w', f_law_c12 Kc L xs (some 0) (some 415) (some 437) (some 438) (nI (6 * i)) w = some w' ∧ Inv w' := by
  obtain ⟨r, w1, e1, kk⟩ := b_isBarred h (xs (6 * i + 1)) (xs (6 * i + 2))
  unfold f_law_c12 f_L_isBarred
  rw [show ixa (nI (6 * i) + 1) L = some (6 * i + 1) from ixL hi hL (k := 1) (by omega), Option.bind_some, show ixa (nI (6 * i) + 2) L = some (6 * i + 2) from ixL hi hL (k := 2) (by omega), Option.bind_some, c10, Option.bind_some, e1, Option.bind_some]
  cases r with
  | inl a =>
    have fin : ∀ z : Int64, z = (if a = true then 1 else 0) → ∀ w2, w2 = tJ w1 437 0 z → ∃ w3, (∃ v, f_X13_isBarred Kc 415 (xs (6 * i + 1)) (xs (6 * i + 2)) w2 = some (v, w3) ∧ a = v) ∧ Inv w3 ∧ aJ w3 437 0 = z ∧ wI w3 1300 415 = 0 := fun z hz w2 hw => by
      obtain ⟨v, w3, e3, i3, j3, rs1, rs2⟩ := kk (tJ w1 437 0 z) (fr_tJ rfl)
      exact ⟨w3, ⟨v, by rw [hw]; exact e3, rs1⟩, i3, by rw [j3, aJ_tJ, if_pos ⟨rfl, rfl⟩], rs2⟩
    cases a with
    | false =>
      obtain ⟨w3, ⟨v, e3, rs1⟩, i3, j3, rs2⟩ := fin 0 rfl _ rfl
      refine ⟨w3, ?_, i3⟩
      subst rs1
      rw [xh_l, ib_f, c437, Option.bind_some]
      try dsimp only
      rw [show ixa 0 1 = some 0 from rfl, Option.bind_some, Option.bind_some, Option.bind_some, Option.bind_some, Option.bind_some, c11, Option.bind_some]
      try dsimp only
      rw [e3, Option.bind_some]
      unfold f_X13_thrown
      rw [Option.bind_some]
      try dsimp only
      rw [rs2, if_pos rfl, if_pos rfl, Option.bind_some]
      try dsimp only
      rw [show ixa 0 1 = some 0 from rfl, Option.bind_some, ib_f, j3, if_pos (lgc_eq.mpr rfl)]
    | true =>
      obtain ⟨w3, ⟨v, e3, rs1⟩, i3, j3, rs2⟩ := fin 1 rfl _ rfl
      refine ⟨w3, ?_, i3⟩
      subst rs1
      rw [xh_l, ib_t, c437, Option.bind_some]
      try dsimp only
      rw [show ixa 0 1 = some 0 from rfl, Option.bind_some, Option.bind_some, Option.bind_some, Option.bind_some, Option.bind_some, c11, Option.bind_some]
      try dsimp only
      rw [e3, Option.bind_some]
      unfold f_X13_thrown
      rw [Option.bind_some]
      try dsimp only
      rw [rs2, if_pos rfl, if_pos rfl, Option.bind_some]
      try dsimp only
      rw [show ixa 0 1 = some 0 from rfl, Option.bind_some, ib_t, j3, if_pos (lgc_eq.mpr rfl)]
  | inr e =>
    obtain ⟨v, w3, e3, i3, j3, rs⟩ := kk w1 Fr.rf
    refine ⟨w3, ?_, i3⟩
    rw [xh_r]
    rcases rs with ⟨q1, q2⟩
    · subst q1
      rw [if_pos rfl, Option.bind_some, Option.bind_some, Option.bind_some, c11, Option.bind_some]
      try dsimp only
      rw [e3, Option.bind_some]
      unfold f_X13_thrown
      rw [Option.bind_some]
      try dsimp only
      rw [q2, if_pos rfl, if_neg (show ¬ (1 : Int32) = 0 by decide)]
theorem case_13 {w : Wd} (h : Inv w) {L i : Nat} {xs : Nat → Int32} (hi : 6 * i + 5 < L) (hL : L ≤ 3072) : ∃ w', f_law_c13 Kc L xs (some 0) (some 415) (some 437) (some 438) (nI (6 * i)) w = some w' ∧ Inv w' := by
  obtain ⟨r, w1, e1, kk⟩ := b_load h (xs (6 * i + 1))
  unfold f_law_c13 f_L_load
  rw [show ixa (nI (6 * i) + 1) L = some (6 * i + 1) from ixL hi hL (k := 1) (by omega), Option.bind_some, c10, Option.bind_some, e1, Option.bind_some]
  cases r with
  | inl a =>
    obtain ⟨v, w3, e3, i3, j3, rs1, rs2⟩ := kk (tJ w1 437 0 a.toInt64) (fr_tJ rfl)
    refine ⟨w3, ?_, i3⟩
    rw [xh_l, c437, Option.bind_some]
    try dsimp only
    rw [show ixa 0 1 = some 0 from rfl, Option.bind_some, Option.bind_some, Option.bind_some, Option.bind_some, c11, Option.bind_some]
    try dsimp only
    rw [e3, Option.bind_some]
    unfold f_X13_thrown
    rw [Option.bind_some]
    try dsimp only
    rw [rs2, if_pos rfl, if_pos rfl, Option.bind_some]
    try dsimp only
    rw [show ixa 0 1 = some 0 from rfl, Option.bind_some, j3, tJ_self, rs1, if_pos (lgc_eq.mpr rfl)]
  | inr e =>
    obtain ⟨v, w3, e3, i3, j3, rs⟩ := kk w1 Fr.rf
    refine ⟨w3, ?_, i3⟩
    rw [xh_r]
    rcases rs with ⟨q1, q2⟩
    · subst q1
      rw [if_pos rfl, Option.bind_some, Option.bind_some, c11, Option.bind_some]
      try dsimp only
      rw [e3, Option.bind_some]
      unfold f_X13_thrown
      rw [Option.bind_some]
      try dsimp only
      rw [q2, if_pos rfl, if_neg (show ¬ (1 : Int32) = 0 by decide)]
theorem case_14 {w : Wd} (h : Inv w) {L i : Nat} {xs : Nat → Int32} (hi : 6 * i + 5 < L) (hL : L ≤ 3072) : ∃ w', f_law_c14 Kc L xs (some 0) (some 415) (some 437) (some 438) (nI (6 * i)) w = some w' ∧ Inv w' := by
  obtain ⟨r, w1, e1, kk⟩ := b_matter h (xs (6 * i + 1)) (xs (6 * i + 2))
  unfold f_law_c14 f_L_matter
  rw [show ixa (nI (6 * i) + 1) L = some (6 * i + 1) from ixL hi hL (k := 1) (by omega), Option.bind_some, show ixa (nI (6 * i) + 2) L = some (6 * i + 2) from ixL hi hL (k := 2) (by omega), Option.bind_some, c10, Option.bind_some, e1, Option.bind_some]
  cases r with
  | inl a =>
    obtain ⟨v, w3, e3, i3, j3, rs1, rs2⟩ := kk (tJ w1 437 0 a.toInt64) (fr_tJ rfl)
    refine ⟨w3, ?_, i3⟩
    rw [xh_l, c437, Option.bind_some]
    try dsimp only
    rw [show ixa 0 1 = some 0 from rfl, Option.bind_some, Option.bind_some, Option.bind_some, Option.bind_some, Option.bind_some, c11, Option.bind_some]
    try dsimp only
    rw [e3, Option.bind_some]
    unfold f_X13_thrown
    rw [Option.bind_some]
    try dsimp only
    rw [rs2, if_pos rfl, if_pos rfl, Option.bind_some]
    try dsimp only
    rw [show ixa 0 1 = some 0 from rfl, Option.bind_some, j3, tJ_self, rs1, if_pos (lgc_eq.mpr rfl)]
  | inr e =>
    obtain ⟨v, w3, e3, i3, j3, rs⟩ := kk w1 Fr.rf
    refine ⟨w3, ?_, i3⟩
    rw [xh_r]
    rcases rs with ⟨q1, q2⟩
    · subst q1
      rw [if_pos rfl, Option.bind_some, Option.bind_some, Option.bind_some, c11, Option.bind_some]
      try dsimp only
      rw [e3, Option.bind_some]
      unfold f_X13_thrown
      rw [Option.bind_some]
      try dsimp only
      rw [q2, if_pos rfl, if_neg (show ¬ (1 : Int32) = 0 by decide)]
theorem case_15 {w : Wd} (h : Inv w) {L i : Nat} {xs : Nat → Int32} (hi : 6 * i + 5 < L) (hL : L ≤ 3072) : ∃ w', f_law_c15 Kc L xs (some 0) (some 415) (some 437) (some 438) (nI (6 * i)) w = some w' ∧ Inv w' := by
  obtain ⟨r, w1, e1, kk⟩ := b_hearing h (xs (6 * i + 1)) (xs (6 * i + 2))
  unfold f_law_c15 f_L_hearing
  rw [show ixa (nI (6 * i) + 1) L = some (6 * i + 1) from ixL hi hL (k := 1) (by omega), Option.bind_some, show ixa (nI (6 * i) + 2) L = some (6 * i + 2) from ixL hi hL (k := 2) (by omega), Option.bind_some, c10, Option.bind_some, e1, Option.bind_some]
  cases r with
  | inl a =>
    obtain ⟨v, w3, e3, i3, j3, rs1, rs2⟩ := kk (tJ w1 437 0 a.toInt64) (fr_tJ rfl)
    refine ⟨w3, ?_, i3⟩
    rw [xh_l, c437, Option.bind_some]
    try dsimp only
    rw [show ixa 0 1 = some 0 from rfl, Option.bind_some, Option.bind_some, Option.bind_some, Option.bind_some, Option.bind_some, c11, Option.bind_some]
    try dsimp only
    rw [e3, Option.bind_some]
    unfold f_X13_thrown
    rw [Option.bind_some]
    try dsimp only
    rw [rs2, if_pos rfl, if_pos rfl, Option.bind_some]
    try dsimp only
    rw [show ixa 0 1 = some 0 from rfl, Option.bind_some, j3, tJ_self, rs1, if_pos (lgc_eq.mpr rfl)]
  | inr e =>
    obtain ⟨v, w3, e3, i3, j3, rs⟩ := kk w1 Fr.rf
    refine ⟨w3, ?_, i3⟩
    rw [xh_r]
    rcases rs with ⟨q1, q2⟩
    · subst q1
      rw [if_pos rfl, Option.bind_some, Option.bind_some, Option.bind_some, c11, Option.bind_some]
      try dsimp only
      rw [e3, Option.bind_some]
      unfold f_X13_thrown
      rw [Option.bind_some]
      try dsimp only
      rw [q2, if_pos rfl, if_neg (show ¬ (1 : Int32) = 0 by decide)]
theorem case_16 {w : Wd} (h : Inv w) {L i : Nat} {xs : Nat → Int32} (hi : 6 * i + 5 < L) (hL : L ≤ 3072) : ∃ w', f_law_c16 Kc L xs (some 0) (some 415) (some 437) (some 438) (nI (6 * i)) w = some w' ∧ Inv w' := by
  obtain ⟨r, w1, e1, kk⟩ := b_adjournment h (xs (6 * i + 1)) (xs (6 * i + 2)) (xs (6 * i + 3))
  unfold f_law_c16 f_L_adjournment
  rw [show ixa (nI (6 * i) + 1) L = some (6 * i + 1) from ixL hi hL (k := 1) (by omega), Option.bind_some, show ixa (nI (6 * i) + 2) L = some (6 * i + 2) from ixL hi hL (k := 2) (by omega), Option.bind_some, show ixa (nI (6 * i) + 3) L = some (6 * i + 3) from ixL hi hL (k := 3) (by omega), Option.bind_some, c10, Option.bind_some, e1, Option.bind_some]
  cases r with
  | inl a =>
    obtain ⟨v, w3, e3, i3, j3, rs1, rs2⟩ := kk (tJ w1 437 0 a.toInt64) (fr_tJ rfl)
    refine ⟨w3, ?_, i3⟩
    rw [xh_l, c437, Option.bind_some]
    try dsimp only
    rw [show ixa 0 1 = some 0 from rfl, Option.bind_some, Option.bind_some, Option.bind_some, Option.bind_some, Option.bind_some, Option.bind_some, c11, Option.bind_some]
    try dsimp only
    rw [e3, Option.bind_some]
    unfold f_X13_thrown
    rw [Option.bind_some]
    try dsimp only
    rw [rs2, if_pos rfl, if_pos rfl, Option.bind_some]
    try dsimp only
    rw [show ixa 0 1 = some 0 from rfl, Option.bind_some, j3, tJ_self, rs1, if_pos (lgc_eq.mpr rfl)]
  | inr e =>
    obtain ⟨v, w3, e3, i3, j3, rs⟩ := kk w1 Fr.rf
    refine ⟨w3, ?_, i3⟩
    rw [xh_r]
    rcases rs with ⟨q1, q2⟩
    · subst q1
      rw [if_pos rfl, Option.bind_some, Option.bind_some, Option.bind_some, Option.bind_some, c11, Option.bind_some]
      try dsimp only
      rw [e3, Option.bind_some]
      unfold f_X13_thrown
      rw [Option.bind_some]
      try dsimp only
      rw [q2, if_pos rfl, if_neg (show ¬ (1 : Int32) = 0 by decide)]
theorem case_17 {w : Wd} (h : Inv w) {L i : Nat} {xs : Nat → Int32} (hi : 6 * i + 5 < L) (hL : L ≤ 3072) : ∃ w', f_law_c17 Kc L xs (some 0) (some 415) (some 437) (some 438) (nI (6 * i)) w = some w' ∧ Inv w' := by
  obtain ⟨r, w1, e1, kk⟩ := b_caseAt h (xs (6 * i + 1)) (xs (6 * i + 2)) (xs (6 * i + 3))
  unfold f_law_c17 f_L_caseAt
  rw [show ixa (nI (6 * i) + 1) L = some (6 * i + 1) from ixL hi hL (k := 1) (by omega), Option.bind_some, show ixa (nI (6 * i) + 2) L = some (6 * i + 2) from ixL hi hL (k := 2) (by omega), Option.bind_some, show ixa (nI (6 * i) + 3) L = some (6 * i + 3) from ixL hi hL (k := 3) (by omega), Option.bind_some, c10, Option.bind_some, e1, Option.bind_some]
  cases r with
  | inl a =>
    obtain ⟨v, w3, e3, i3, j3, rs1, rs2⟩ := kk (tJ w1 437 0 a.toInt64) (fr_tJ rfl)
    refine ⟨w3, ?_, i3⟩
    rw [xh_l, c437, Option.bind_some]
    try dsimp only
    rw [show ixa 0 1 = some 0 from rfl, Option.bind_some, Option.bind_some, Option.bind_some, Option.bind_some, Option.bind_some, Option.bind_some, c11, Option.bind_some]
    try dsimp only
    rw [e3, Option.bind_some]
    unfold f_X13_thrown
    rw [Option.bind_some]
    try dsimp only
    rw [rs2, if_pos rfl, if_pos rfl, Option.bind_some]
    try dsimp only
    rw [show ixa 0 1 = some 0 from rfl, Option.bind_some, j3, tJ_self, rs1, if_pos (lgc_eq.mpr rfl)]
  | inr e =>
    obtain ⟨v, w3, e3, i3, j3, rs⟩ := kk w1 Fr.rf
    refine ⟨w3, ?_, i3⟩
    rw [xh_r]
    rcases rs with ⟨q1, q2⟩ | ⟨q1, q2⟩
    · subst q1
      rw [if_pos rfl, Option.bind_some, Option.bind_some, Option.bind_some, Option.bind_some, c11, Option.bind_some]
      try dsimp only
      rw [e3, Option.bind_some]
      unfold f_X13_thrown
      rw [Option.bind_some]
      try dsimp only
      rw [q2, if_pos rfl, if_neg (show ¬ (1 : Int32) = 0 by decide)]
    · subst q1
      rw [if_neg (show ¬ 2 = 1 by decide), if_pos rfl, Option.bind_some, Option.bind_some, Option.bind_some, Option.bind_some, c11, Option.bind_some]
      try dsimp only
      rw [e3, Option.bind_some]
      unfold f_X13_thrown
      rw [Option.bind_some]
      try dsimp only
      rw [q2, if_pos rfl, if_neg (show ¬ (2 : Int32) = 0 by decide)]
theorem case_18 {w : Wd} (h : Inv w) {L i : Nat} {xs : Nat → Int32} (hi : 6 * i + 5 < L) (hL : L ≤ 3072) : ∃ w', f_law_c18 Kc L xs (some 0) (some 415) (some 437) (some 438) (nI (6 * i)) w = some w' ∧ Inv w' := by
  obtain ⟨r, w1, e1, kk⟩ := b_problem h (xs (6 * i + 1)) (xs (6 * i + 2)) (xs (6 * i + 3)) (xs (6 * i + 4)) (xs (6 * i + 5))
  unfold f_law_c18 f_L_problem
  rw [show ixa (nI (6 * i) + 1) L = some (6 * i + 1) from ixL hi hL (k := 1) (by omega), Option.bind_some, show ixa (nI (6 * i) + 2) L = some (6 * i + 2) from ixL hi hL (k := 2) (by omega), Option.bind_some, show ixa (nI (6 * i) + 3) L = some (6 * i + 3) from ixL hi hL (k := 3) (by omega), Option.bind_some, show ixa (nI (6 * i) + 4) L = some (6 * i + 4) from ixL hi hL (k := 4) (by omega), Option.bind_some, show ixa (nI (6 * i) + 5) L = some (6 * i + 5) from ixL hi hL (k := 5) (by omega), Option.bind_some, c10, Option.bind_some, e1, Option.bind_some]
  cases r with
  | inl a =>
    obtain ⟨v, w3, e3, i3, j3, rs1, rs2⟩ := kk (tJ w1 437 0 a.toInt64) (fr_tJ rfl)
    refine ⟨w3, ?_, i3⟩
    rw [xh_l, c437, Option.bind_some]
    try dsimp only
    rw [show ixa 0 1 = some 0 from rfl, Option.bind_some, Option.bind_some, Option.bind_some, Option.bind_some, Option.bind_some, Option.bind_some, Option.bind_some, Option.bind_some, c11, Option.bind_some]
    try dsimp only
    rw [e3, Option.bind_some]
    unfold f_X13_thrown
    rw [Option.bind_some]
    try dsimp only
    rw [rs2, if_pos rfl, if_pos rfl, Option.bind_some]
    try dsimp only
    rw [show ixa 0 1 = some 0 from rfl, Option.bind_some, j3, tJ_self, rs1, if_pos (lgc_eq.mpr rfl)]
  | inr e =>
    obtain ⟨v, w3, e3, i3, j3, rs⟩ := kk w1 Fr.rf
    refine ⟨w3, ?_, i3⟩
    rw [xh_r]
    rcases rs with ⟨q1, q2⟩ | ⟨q1, q2⟩ | ⟨q1, q2⟩
    · subst q1
      rw [if_pos rfl, Option.bind_some, Option.bind_some, Option.bind_some, Option.bind_some, Option.bind_some, Option.bind_some, c11, Option.bind_some]
      try dsimp only
      rw [e3, Option.bind_some]
      unfold f_X13_thrown
      rw [Option.bind_some]
      try dsimp only
      rw [q2, if_pos rfl, if_neg (show ¬ (1 : Int32) = 0 by decide)]
    · subst q1
      rw [if_neg (show ¬ 2 = 1 by decide), if_pos rfl, Option.bind_some, Option.bind_some, Option.bind_some, Option.bind_some, Option.bind_some, Option.bind_some, c11, Option.bind_some]
      try dsimp only
      rw [e3, Option.bind_some]
      unfold f_X13_thrown
      rw [Option.bind_some]
      try dsimp only
      rw [q2, if_pos rfl, if_neg (show ¬ (2 : Int32) = 0 by decide)]
    · subst q1
      rw [if_neg (show ¬ 3 = 1 by decide), if_neg (show ¬ 3 = 2 by decide), if_pos rfl, Option.bind_some, Option.bind_some, Option.bind_some, Option.bind_some, Option.bind_some, Option.bind_some, c11, Option.bind_some]
      try dsimp only
      rw [e3, Option.bind_some]
      unfold f_X13_thrown
      rw [Option.bind_some]
      try dsimp only
      rw [q2, if_pos rfl, if_neg (show ¬ (3 : Int32) = 0 by decide)]
theorem case_19 {w : Wd} (h : Inv w) {L i : Nat} {xs : Nat → Int32} (hi : 6 * i + 5 < L) (hL : L ≤ 3072) : ∃ w', f_law_c19 Kc L xs (some 0) (some 415) (some 437) (some 438) (nI (6 * i)) w = some w' ∧ Inv w' := by
  obtain ⟨r, w1, e1, kk⟩ := b_opening h (xs (6 * i + 1)) (xs (6 * i + 2))
  unfold f_law_c19 f_L_opening
  rw [show ixa (nI (6 * i) + 1) L = some (6 * i + 1) from ixL hi hL (k := 1) (by omega), Option.bind_some, show ixa (nI (6 * i) + 2) L = some (6 * i + 2) from ixL hi hL (k := 2) (by omega), Option.bind_some, c10, Option.bind_some, e1, Option.bind_some]
  cases r with
  | inl a =>
    obtain ⟨v, w3, e3, i3, j3, rs1, rs2⟩ := kk (tJ w1 437 0 a.toInt64) (fr_tJ rfl)
    refine ⟨w3, ?_, i3⟩
    rw [xh_l, c437, Option.bind_some]
    try dsimp only
    rw [show ixa 0 1 = some 0 from rfl, Option.bind_some, Option.bind_some, Option.bind_some, Option.bind_some, Option.bind_some, c11, Option.bind_some]
    try dsimp only
    rw [e3, Option.bind_some]
    unfold f_X13_thrown
    rw [Option.bind_some]
    try dsimp only
    rw [rs2, if_pos rfl, if_pos rfl, Option.bind_some]
    try dsimp only
    rw [show ixa 0 1 = some 0 from rfl, Option.bind_some, j3, tJ_self, rs1, if_pos (lgc_eq.mpr rfl)]
  | inr e =>
    obtain ⟨v, w3, e3, i3, j3, rs⟩ := kk w1 Fr.rf
    refine ⟨w3, ?_, i3⟩
    rw [xh_r]
    rcases rs with ⟨q1, q2⟩ | ⟨q1, q2⟩
    · subst q1
      rw [if_pos rfl, Option.bind_some, Option.bind_some, Option.bind_some, c11, Option.bind_some]
      try dsimp only
      rw [e3, Option.bind_some]
      unfold f_X13_thrown
      rw [Option.bind_some]
      try dsimp only
      rw [q2, if_pos rfl, if_neg (show ¬ (1 : Int32) = 0 by decide)]
    · subst q1
      rw [if_neg (show ¬ 3 = 1 by decide), if_pos rfl, Option.bind_some, Option.bind_some, Option.bind_some, c11, Option.bind_some]
      try dsimp only
      rw [e3, Option.bind_some]
      unfold f_X13_thrown
      rw [Option.bind_some]
      try dsimp only
      rw [q2, if_pos rfl, if_neg (show ¬ (2 : Int32) = 0 by decide)]
theorem case_20 {w : Wd} (h : Inv w) {L i : Nat} {xs : Nat → Int32} (hi : 6 * i + 5 < L) (hL : L ≤ 3072) : ∃ w', f_law_c20 Kc L xs (some 0) (some 415) (some 437) (some 438) (nI (6 * i)) w = some w' ∧ Inv w' := by
  obtain ⟨r, w1, e1, kk⟩ := b_openDays h (xs (6 * i + 1))
  unfold f_law_c20 f_L_openDays
  rw [show ixa (nI (6 * i) + 1) L = some (6 * i + 1) from ixL hi hL (k := 1) (by omega), Option.bind_some, c10, Option.bind_some, e1, Option.bind_some]
  cases r with
  | inl a =>
    obtain ⟨v, w3, e3, i3, j3, rs1, rs2⟩ := kk (tJ w1 437 0 a.toInt64) (fr_tJ rfl)
    refine ⟨w3, ?_, i3⟩
    rw [xh_l, c437, Option.bind_some]
    try dsimp only
    rw [show ixa 0 1 = some 0 from rfl, Option.bind_some, Option.bind_some, Option.bind_some, Option.bind_some, c11, Option.bind_some]
    try dsimp only
    rw [e3, Option.bind_some]
    unfold f_X13_thrown
    rw [Option.bind_some]
    try dsimp only
    rw [rs2, if_pos rfl, if_pos rfl, Option.bind_some]
    try dsimp only
    rw [show ixa 0 1 = some 0 from rfl, Option.bind_some, j3, tJ_self, rs1, if_pos (lgc_eq.mpr rfl)]
  | inr e =>
    obtain ⟨v, w3, e3, i3, j3, rs⟩ := kk w1 Fr.rf
    refine ⟨w3, ?_, i3⟩
    rw [xh_r]
    rcases rs with ⟨q1, q2⟩ | ⟨q1, q2⟩
    · subst q1
      rw [if_pos rfl, Option.bind_some, Option.bind_some, c11, Option.bind_some]
      try dsimp only
      rw [e3, Option.bind_some]
      unfold f_X13_thrown
      rw [Option.bind_some]
      try dsimp only
      rw [q2, if_pos rfl, if_neg (show ¬ (1 : Int32) = 0 by decide)]
    · subst q1
      rw [if_neg (show ¬ 3 = 1 by decide), if_pos rfl, Option.bind_some, Option.bind_some, c11, Option.bind_some]
      try dsimp only
      rw [e3, Option.bind_some]
      unfold f_X13_thrown
      rw [Option.bind_some]
      try dsimp only
      rw [q2, if_pos rfl, if_neg (show ¬ (2 : Int32) = 0 by decide)]
theorem case_21 {w : Wd} (h : Inv w) {L i : Nat} {xs : Nat → Int32} (hi : 6 * i + 5 < L) (hL : L ≤ 3072) : ∃ w', f_law_c21 Kc L xs (some 0) (some 415) (some 437) (some 438) (nI (6 * i)) w = some w' ∧ Inv w' := by
  obtain ⟨r, w1, e1, kk⟩ := b_urgent h (xs (6 * i + 1))
  unfold f_law_c21 f_L_urgent
  rw [show ixa (nI (6 * i) + 1) L = some (6 * i + 1) from ixL hi hL (k := 1) (by omega), Option.bind_some, c10, Option.bind_some, e1, Option.bind_some]
  cases r with
  | inl a =>
    obtain ⟨v, w3, e3, i3, j3, rs1, rs2⟩ := kk (tJ w1 437 0 a.toInt64) (fr_tJ rfl)
    refine ⟨w3, ?_, i3⟩
    rw [xh_l, c437, Option.bind_some]
    try dsimp only
    rw [show ixa 0 1 = some 0 from rfl, Option.bind_some, Option.bind_some, Option.bind_some, Option.bind_some, c11, Option.bind_some]
    try dsimp only
    rw [e3, Option.bind_some]
    unfold f_X13_thrown
    rw [Option.bind_some]
    try dsimp only
    rw [rs2, if_pos rfl, if_pos rfl, Option.bind_some]
    try dsimp only
    rw [show ixa 0 1 = some 0 from rfl, Option.bind_some, j3, tJ_self, rs1, if_pos (lgc_eq.mpr rfl)]
  | inr e =>
    obtain ⟨v, w3, e3, i3, j3, rs⟩ := kk w1 Fr.rf
    refine ⟨w3, ?_, i3⟩
    rw [xh_r]
    rcases rs with ⟨q1, q2⟩
    · subst q1
      rw [if_pos rfl, Option.bind_some, Option.bind_some, c11, Option.bind_some]
      try dsimp only
      rw [e3, Option.bind_some]
      unfold f_X13_thrown
      rw [Option.bind_some]
      try dsimp only
      rw [q2, if_pos rfl, if_neg (show ¬ (1 : Int32) = 0 by decide)]
theorem case_22 {w : Wd} (h : Inv w) {L i : Nat} {xs : Nat → Int32} (hi : 6 * i + 5 < L) (hL : L ≤ 3072) : ∃ w', f_law_c22 Kc L xs (some 0) (some 415) (some 437) (some 438) (nI (6 * i)) w = some w' ∧ Inv w' := by
  obtain ⟨r, w1, e1, kk⟩ := b_slack h (xs (6 * i + 1))
  unfold f_law_c22 f_L_slack
  rw [show ixa (nI (6 * i) + 1) L = some (6 * i + 1) from ixL hi hL (k := 1) (by omega), Option.bind_some, c10, Option.bind_some, e1, Option.bind_some]
  cases r with
  | inl a =>
    obtain ⟨v, w3, e3, i3, j3, rs1, rs2⟩ := kk (tJ w1 437 0 a.toInt64) (fr_tJ rfl)
    refine ⟨w3, ?_, i3⟩
    rw [xh_l, c437, Option.bind_some]
    try dsimp only
    rw [show ixa 0 1 = some 0 from rfl, Option.bind_some, Option.bind_some, Option.bind_some, Option.bind_some, c11, Option.bind_some]
    try dsimp only
    rw [e3, Option.bind_some]
    unfold f_X13_thrown
    rw [Option.bind_some]
    try dsimp only
    rw [rs2, if_pos rfl, if_pos rfl, Option.bind_some]
    try dsimp only
    rw [show ixa 0 1 = some 0 from rfl, Option.bind_some, j3, tJ_self, rs1, if_pos (lgc_eq.mpr rfl)]
  | inr e =>
    obtain ⟨v, w3, e3, i3, j3, rs⟩ := kk w1 Fr.rf
    refine ⟨w3, ?_, i3⟩
    rw [xh_r]
    rcases rs with ⟨q1, q2⟩
    · subst q1
      rw [if_pos rfl, Option.bind_some, Option.bind_some, c11, Option.bind_some]
      try dsimp only
      rw [e3, Option.bind_some]
      unfold f_X13_thrown
      rw [Option.bind_some]
      try dsimp only
      rw [q2, if_pos rfl, if_neg (show ¬ (1 : Int32) = 0 by decide)]
theorem case_23 {w : Wd} (h : Inv w) {L i : Nat} {xs : Nat → Int32} (hi : 6 * i + 5 < L) (hL : L ≤ 3072) : ∃ w', f_law_c23 Kc L xs (some 0) (some 415) (some 437) (some 438) (nI (6 * i)) w = some w' ∧ Inv w' := by
  obtain ⟨r, w1, e1, kk⟩ := b_eligible h (xs (6 * i + 1))
  unfold f_law_c23 f_L_eligible
  rw [show ixa (nI (6 * i) + 1) L = some (6 * i + 1) from ixL hi hL (k := 1) (by omega), Option.bind_some, c10, Option.bind_some, e1, Option.bind_some]
  cases r with
  | inl a =>
    obtain ⟨v, w3, e3, i3, j3, rs1, rs2⟩ := kk (tJ w1 437 0 a.toInt64) (fr_tJ rfl)
    refine ⟨w3, ?_, i3⟩
    rw [xh_l, c437, Option.bind_some]
    try dsimp only
    rw [show ixa 0 1 = some 0 from rfl, Option.bind_some, Option.bind_some, Option.bind_some, Option.bind_some, c11, Option.bind_some]
    try dsimp only
    rw [e3, Option.bind_some]
    unfold f_X13_thrown
    rw [Option.bind_some]
    try dsimp only
    rw [rs2, if_pos rfl, if_pos rfl, Option.bind_some]
    try dsimp only
    rw [show ixa 0 1 = some 0 from rfl, Option.bind_some, j3, tJ_self, rs1, if_pos (lgc_eq.mpr rfl)]
  | inr e =>
    obtain ⟨v, w3, e3, i3, j3, rs⟩ := kk w1 Fr.rf
    refine ⟨w3, ?_, i3⟩
    rw [xh_r]
    rcases rs with ⟨q1, q2⟩
    · subst q1
      rw [if_pos rfl, Option.bind_some, Option.bind_some, c11, Option.bind_some]
      try dsimp only
      rw [e3, Option.bind_some]
      unfold f_X13_thrown
      rw [Option.bind_some]
      try dsimp only
      rw [q2, if_pos rfl, if_neg (show ¬ (1 : Int32) = 0 by decide)]
theorem case_27 {w : Wd} (h : Inv w) {L i : Nat} {xs : Nat → Int32} (hi : 6 * i + 5 < L) (hL : L ≤ 3072) : ∃ w', f_law_c27 Kc L xs (some 0) (some 415) (some 437) (some 438) (nI (6 * i)) w = some w' ∧ Inv w' := by
  obtain ⟨r, w1, e1, kk⟩ := b_pass h (xs (6 * i + 1))
  unfold f_law_c27 f_L_pass
  rw [show ixa (nI (6 * i) + 1) L = some (6 * i + 1) from ixL hi hL (k := 1) (by omega), Option.bind_some, c10, Option.bind_some, e1, Option.bind_some]
  cases r with
  | inl a =>
    obtain ⟨v, w3, e3, i3, j3, rs1, rs2⟩ := kk (tJ w1 437 0 a.toInt64) (fr_tJ rfl)
    refine ⟨w3, ?_, i3⟩
    rw [xh_l, c437, Option.bind_some]
    try dsimp only
    rw [show ixa 0 1 = some 0 from rfl, Option.bind_some, Option.bind_some, Option.bind_some, Option.bind_some, c11, Option.bind_some]
    try dsimp only
    rw [e3, Option.bind_some]
    unfold f_X13_thrown
    rw [Option.bind_some]
    try dsimp only
    rw [rs2, if_pos rfl, if_pos rfl, Option.bind_some]
    try dsimp only
    rw [show ixa 0 1 = some 0 from rfl, Option.bind_some, j3, tJ_self, rs1, if_pos (lgc_eq.mpr rfl)]
  | inr e =>
    obtain ⟨v, w3, e3, i3, j3, rs⟩ := kk w1 Fr.rf
    refine ⟨w3, ?_, i3⟩
    rw [xh_r]
    rcases rs with ⟨q1, q2⟩
    · subst q1
      rw [if_pos rfl, Option.bind_some, Option.bind_some, c11, Option.bind_some]
      try dsimp only
      rw [e3, Option.bind_some]
      unfold f_X13_thrown
      rw [Option.bind_some]
      try dsimp only
      rw [q2, if_pos rfl, if_neg (show ¬ (1 : Int32) = 0 by decide)]
theorem case_28 {w : Wd} (h : Inv w) {L i : Nat} {xs : Nat → Int32} (hi : 6 * i + 5 < L) (hL : L ≤ 3072) : ∃ w', f_law_c28 Kc L xs (some 0) (some 415) (some 437) (some 438) (nI (6 * i)) w = some w' ∧ Inv w' := by
  obtain ⟨r, w1, e1, kk⟩ := b_plan h (xs (6 * i + 1)) (xs (6 * i + 2)) (xs (6 * i + 3)) (xs (6 * i + 4)) (xs (6 * i + 5))
  unfold f_law_c28 f_L_plan
  rw [show ixa (nI (6 * i) + 1) L = some (6 * i + 1) from ixL hi hL (k := 1) (by omega), Option.bind_some, show ixa (nI (6 * i) + 2) L = some (6 * i + 2) from ixL hi hL (k := 2) (by omega), Option.bind_some, show ixa (nI (6 * i) + 3) L = some (6 * i + 3) from ixL hi hL (k := 3) (by omega), Option.bind_some, show ixa (nI (6 * i) + 4) L = some (6 * i + 4) from ixL hi hL (k := 4) (by omega), Option.bind_some, show ixa (nI (6 * i) + 5) L = some (6 * i + 5) from ixL hi hL (k := 5) (by omega), Option.bind_some, c10, Option.bind_some, e1, Option.bind_some]
  cases r with
  | inl a =>
    obtain ⟨v, w3, e3, i3, j3, rs1, rs2⟩ := kk (tJ w1 437 0 a.toInt64) (fr_tJ rfl)
    refine ⟨w3, ?_, i3⟩
    rw [xh_l, c437, Option.bind_some]
    try dsimp only
    rw [show ixa 0 1 = some 0 from rfl, Option.bind_some, Option.bind_some, Option.bind_some, Option.bind_some, Option.bind_some, Option.bind_some, Option.bind_some, Option.bind_some, c11, Option.bind_some]
    try dsimp only
    rw [e3, Option.bind_some]
    unfold f_X13_thrown
    rw [Option.bind_some]
    try dsimp only
    rw [rs2, if_pos rfl, if_pos rfl, Option.bind_some]
    try dsimp only
    rw [show ixa 0 1 = some 0 from rfl, Option.bind_some, j3, tJ_self, rs1, if_pos (lgc_eq.mpr rfl)]
  | inr e =>
    obtain ⟨v, w3, e3, i3, j3, rs⟩ := kk w1 Fr.rf
    refine ⟨w3, ?_, i3⟩
    rw [xh_r]
    rcases rs with ⟨q1, q2⟩ | ⟨q1, q2⟩ | ⟨q1, q2⟩
    · subst q1
      rw [if_pos rfl, Option.bind_some, Option.bind_some, Option.bind_some, Option.bind_some, Option.bind_some, Option.bind_some, c11, Option.bind_some]
      try dsimp only
      rw [e3, Option.bind_some]
      unfold f_X13_thrown
      rw [Option.bind_some]
      try dsimp only
      rw [q2, if_pos rfl, if_neg (show ¬ (1 : Int32) = 0 by decide)]
    · subst q1
      rw [if_neg (show ¬ 2 = 1 by decide), if_pos rfl, Option.bind_some, Option.bind_some, Option.bind_some, Option.bind_some, Option.bind_some, Option.bind_some, c11, Option.bind_some]
      try dsimp only
      rw [e3, Option.bind_some]
      unfold f_X13_thrown
      rw [Option.bind_some]
      try dsimp only
      rw [q2, if_pos rfl, if_neg (show ¬ (2 : Int32) = 0 by decide)]
    · subst q1
      rw [if_neg (show ¬ 3 = 1 by decide), if_neg (show ¬ 3 = 2 by decide), if_pos rfl, Option.bind_some, Option.bind_some, Option.bind_some, Option.bind_some, Option.bind_some, Option.bind_some, c11, Option.bind_some]
      try dsimp only
      rw [e3, Option.bind_some]
      unfold f_X13_thrown
      rw [Option.bind_some]
      try dsimp only
      rw [q2, if_pos rfl, if_neg (show ¬ (3 : Int32) = 0 by decide)]
theorem case_29 {w : Wd} (h : Inv w) {L i : Nat} {xs : Nat → Int32} (hi : 6 * i + 5 < L) (hL : L ≤ 3072) : ∃ w', f_law_c29 Kc L xs (some 0) (some 415) (some 437) (some 438) (nI (6 * i)) w = some w' ∧ Inv w' := by
  obtain ⟨r, w1, e1, kk⟩ := b_planNext h (xs (6 * i + 1))
  unfold f_law_c29 f_L_planNext
  rw [show ixa (nI (6 * i) + 1) L = some (6 * i + 1) from ixL hi hL (k := 1) (by omega), Option.bind_some, c10, Option.bind_some, e1, Option.bind_some]
  cases r with
  | inl a =>
    obtain ⟨v, w3, e3, i3, j3, rs1, rs2⟩ := kk (tJ w1 437 0 a.toInt64) (fr_tJ rfl)
    refine ⟨w3, ?_, i3⟩
    rw [xh_l, c437, Option.bind_some]
    try dsimp only
    rw [show ixa 0 1 = some 0 from rfl, Option.bind_some, Option.bind_some, Option.bind_some, Option.bind_some, c11, Option.bind_some]
    try dsimp only
    rw [e3, Option.bind_some]
    unfold f_X13_thrown
    rw [Option.bind_some]
    try dsimp only
    rw [rs2, if_pos rfl, if_pos rfl, Option.bind_some]
    try dsimp only
    rw [show ixa 0 1 = some 0 from rfl, Option.bind_some, j3, tJ_self, rs1, if_pos (lgc_eq.mpr rfl)]
  | inr e =>
    obtain ⟨v, w3, e3, i3, j3, rs⟩ := kk w1 Fr.rf
    refine ⟨w3, ?_, i3⟩
    rw [xh_r]
    rcases rs with ⟨q1, q2⟩ | ⟨q1, q2⟩ | ⟨q1, q2⟩
    · subst q1
      rw [if_pos rfl, Option.bind_some, Option.bind_some, c11, Option.bind_some]
      try dsimp only
      rw [e3, Option.bind_some]
      unfold f_X13_thrown
      rw [Option.bind_some]
      try dsimp only
      rw [q2, if_pos rfl, if_neg (show ¬ (1 : Int32) = 0 by decide)]
    · subst q1
      rw [if_neg (show ¬ 3 = 1 by decide), if_pos rfl, Option.bind_some, Option.bind_some, c11, Option.bind_some]
      try dsimp only
      rw [e3, Option.bind_some]
      unfold f_X13_thrown
      rw [Option.bind_some]
      try dsimp only
      rw [q2, if_pos rfl, if_neg (show ¬ (2 : Int32) = 0 by decide)]
    · subst q1
      rw [if_neg (show ¬ 4 = 1 by decide), if_neg (show ¬ 4 = 3 by decide), if_pos rfl, Option.bind_some, Option.bind_some, c11, Option.bind_some]
      try dsimp only
      rw [e3, Option.bind_some]
      unfold f_X13_thrown
      rw [Option.bind_some]
      try dsimp only
      rw [q2, if_pos rfl, if_neg (show ¬ (3 : Int32) = 0 by decide)]
theorem case_31 {w : Wd} (h : Inv w) {L i : Nat} {xs : Nat → Int32} (hi : 6 * i + 5 < L) (hL : L ≤ 3072) : ∃ w', f_law_c31 Kc L xs (some 0) (some 415) (some 437) (some 438) (nI (6 * i)) w = some w' ∧ Inv w' := by
  obtain ⟨r, w1, e1, kk⟩ := b_adjourn h (xs (6 * i + 1)) (xs (6 * i + 2))
  unfold f_law_c31 f_L_adjourn
  rw [show ixa (nI (6 * i) + 1) L = some (6 * i + 1) from ixL hi hL (k := 1) (by omega), Option.bind_some, show ixa (nI (6 * i) + 2) L = some (6 * i + 2) from ixL hi hL (k := 2) (by omega), Option.bind_some, c10, Option.bind_some, e1, Option.bind_some]
  cases r with
  | inl a =>
    obtain ⟨v, w3, e3, i3, j3, rs1, rs2⟩ := kk (tJ w1 437 0 a.toInt64) (fr_tJ rfl)
    refine ⟨w3, ?_, i3⟩
    rw [xh_l, c437, Option.bind_some]
    try dsimp only
    rw [show ixa 0 1 = some 0 from rfl, Option.bind_some, Option.bind_some, Option.bind_some, Option.bind_some, Option.bind_some, c11, Option.bind_some]
    try dsimp only
    rw [e3, Option.bind_some]
    unfold f_X13_thrown
    rw [Option.bind_some]
    try dsimp only
    rw [rs2, if_pos rfl, if_pos rfl, Option.bind_some]
    try dsimp only
    rw [show ixa 0 1 = some 0 from rfl, Option.bind_some, j3, tJ_self, rs1, if_pos (lgc_eq.mpr rfl)]
  | inr e =>
    obtain ⟨v, w3, e3, i3, j3, rs⟩ := kk w1 Fr.rf
    refine ⟨w3, ?_, i3⟩
    rw [xh_r]
    rcases rs with ⟨q1, q2⟩ | ⟨q1, q2⟩ | ⟨q1, q2⟩
    · subst q1
      rw [if_pos rfl, Option.bind_some, Option.bind_some, Option.bind_some, c11, Option.bind_some]
      try dsimp only
      rw [e3, Option.bind_some]
      unfold f_X13_thrown
      rw [Option.bind_some]
      try dsimp only
      rw [q2, if_pos rfl, if_neg (show ¬ (1 : Int32) = 0 by decide)]
    · subst q1
      rw [if_neg (show ¬ 2 = 1 by decide), if_pos rfl, Option.bind_some, Option.bind_some, Option.bind_some, c11, Option.bind_some]
      try dsimp only
      rw [e3, Option.bind_some]
      unfold f_X13_thrown
      rw [Option.bind_some]
      try dsimp only
      rw [q2, if_pos rfl, if_neg (show ¬ (2 : Int32) = 0 by decide)]
    · subst q1
      rw [if_neg (show ¬ 3 = 1 by decide), if_neg (show ¬ 3 = 2 by decide), if_pos rfl, Option.bind_some, Option.bind_some, Option.bind_some, c11, Option.bind_some]
      try dsimp only
      rw [e3, Option.bind_some]
      unfold f_X13_thrown
      rw [Option.bind_some]
      try dsimp only
      rw [q2, if_pos rfl, if_neg (show ¬ (3 : Int32) = 0 by decide)]
theorem case_32 {w : Wd} (h : Inv w) {L i : Nat} {xs : Nat → Int32} (hi : 6 * i + 5 < L) (hL : L ≤ 3072) : ∃ w', f_law_c32 Kc L xs (some 0) (some 415) (some 437) (some 438) (nI (6 * i)) w = some w' ∧ Inv w' := by
  obtain ⟨r, w1, e1, kk⟩ := b_withdraw h (xs (6 * i + 1)) (xs (6 * i + 2))
  unfold f_law_c32 f_L_withdraw
  rw [show ixa (nI (6 * i) + 1) L = some (6 * i + 1) from ixL hi hL (k := 1) (by omega), Option.bind_some, show ixa (nI (6 * i) + 2) L = some (6 * i + 2) from ixL hi hL (k := 2) (by omega), Option.bind_some, c10, Option.bind_some, e1, Option.bind_some]
  cases r with
  | inl a =>
    obtain ⟨v, w3, e3, i3, j3, rs1, rs2⟩ := kk (tJ w1 437 0 a.toInt64) (fr_tJ rfl)
    refine ⟨w3, ?_, i3⟩
    rw [xh_l, c437, Option.bind_some]
    try dsimp only
    rw [show ixa 0 1 = some 0 from rfl, Option.bind_some, Option.bind_some, Option.bind_some, Option.bind_some, Option.bind_some, c11, Option.bind_some]
    try dsimp only
    rw [e3, Option.bind_some]
    unfold f_X13_thrown
    rw [Option.bind_some]
    try dsimp only
    rw [rs2, if_pos rfl, if_pos rfl, Option.bind_some]
    try dsimp only
    rw [show ixa 0 1 = some 0 from rfl, Option.bind_some, j3, tJ_self, rs1, if_pos (lgc_eq.mpr rfl)]
  | inr e =>
    obtain ⟨v, w3, e3, i3, j3, rs⟩ := kk w1 Fr.rf
    refine ⟨w3, ?_, i3⟩
    rw [xh_r]
    rcases rs with ⟨q1, q2⟩ | ⟨q1, q2⟩
    · subst q1
      rw [if_pos rfl, Option.bind_some, Option.bind_some, Option.bind_some, c11, Option.bind_some]
      try dsimp only
      rw [e3, Option.bind_some]
      unfold f_X13_thrown
      rw [Option.bind_some]
      try dsimp only
      rw [q2, if_pos rfl, if_neg (show ¬ (1 : Int32) = 0 by decide)]
    · subst q1
      rw [if_neg (show ¬ 2 = 1 by decide), if_pos rfl, Option.bind_some, Option.bind_some, Option.bind_some, c11, Option.bind_some]
      try dsimp only
      rw [e3, Option.bind_some]
      unfold f_X13_thrown
      rw [Option.bind_some]
      try dsimp only
      rw [q2, if_pos rfl, if_neg (show ¬ (2 : Int32) = 0 by decide)]
theorem case_33 {w : Wd} (h : Inv w) {L i : Nat} {xs : Nat → Int32} (hi : 6 * i + 5 < L) (hL : L ≤ 3072) : ∃ w', f_law_c33 Kc L xs (some 0) (some 415) (some 437) (some 438) (nI (6 * i)) w = some w' ∧ Inv w' := by
  obtain ⟨r, w1, e1, kk⟩ := b_addHoliday h (xs (6 * i + 1))
  unfold f_law_c33 f_L_addHoliday
  rw [show ixa (nI (6 * i) + 1) L = some (6 * i + 1) from ixL hi hL (k := 1) (by omega), Option.bind_some, c10, Option.bind_some, e1, Option.bind_some]
  cases r with
  | inl a =>
    obtain ⟨v, w3, e3, i3, j3, rs1, rs2⟩ := kk (tJ w1 437 0 a.toInt64) (fr_tJ rfl)
    refine ⟨w3, ?_, i3⟩
    rw [xh_l, c437, Option.bind_some]
    try dsimp only
    rw [show ixa 0 1 = some 0 from rfl, Option.bind_some, Option.bind_some, Option.bind_some, Option.bind_some, c11, Option.bind_some]
    try dsimp only
    rw [e3, Option.bind_some]
    unfold f_X13_thrown
    rw [Option.bind_some]
    try dsimp only
    rw [rs2, if_pos rfl, if_pos rfl, Option.bind_some]
    try dsimp only
    rw [show ixa 0 1 = some 0 from rfl, Option.bind_some, j3, tJ_self, rs1, if_pos (lgc_eq.mpr rfl)]
  | inr e =>
    obtain ⟨v, w3, e3, i3, j3, rs⟩ := kk w1 Fr.rf
    refine ⟨w3, ?_, i3⟩
    rw [xh_r]
    rcases rs with ⟨q1, q2⟩ | ⟨q1, q2⟩
    · subst q1
      rw [if_pos rfl, Option.bind_some, Option.bind_some, c11, Option.bind_some]
      try dsimp only
      rw [e3, Option.bind_some]
      unfold f_X13_thrown
      rw [Option.bind_some]
      try dsimp only
      rw [q2, if_pos rfl, if_neg (show ¬ (1 : Int32) = 0 by decide)]
    · subst q1
      rw [if_neg (show ¬ 3 = 2 by decide), if_pos rfl, Option.bind_some, Option.bind_some, c11, Option.bind_some]
      try dsimp only
      rw [e3, Option.bind_some]
      unfold f_X13_thrown
      rw [Option.bind_some]
      try dsimp only
      rw [q2, if_pos rfl, if_neg (show ¬ (2 : Int32) = 0 by decide)]
theorem case_34 {w : Wd} (h : Inv w) {L i : Nat} {xs : Nat → Int32} (hi : 6 * i + 5 < L) (hL : L ≤ 3072) : ∃ w', f_law_c34 Kc L xs (some 0) (some 415) (some 437) (some 438) (nI (6 * i)) w = some w' ∧ Inv w' := by
  obtain ⟨r, w1, e1, kk⟩ := b_addBar h (xs (6 * i + 1)) (xs (6 * i + 2))
  unfold f_law_c34 f_L_addBar
  rw [show ixa (nI (6 * i) + 1) L = some (6 * i + 1) from ixL hi hL (k := 1) (by omega), Option.bind_some, show ixa (nI (6 * i) + 2) L = some (6 * i + 2) from ixL hi hL (k := 2) (by omega), Option.bind_some, c10, Option.bind_some, e1, Option.bind_some]
  cases r with
  | inl a =>
    have fin : ∀ z : Int64, z = (if a = true then 1 else 0) → ∀ w2, w2 = tJ w1 437 0 z → ∃ w3, (∃ v, f_X13_addBar Kc 415 (xs (6 * i + 1)) (xs (6 * i + 2)) w2 = some (v, w3) ∧ a = v) ∧ Inv w3 ∧ aJ w3 437 0 = z ∧ wI w3 1300 415 = 0 := fun z hz w2 hw => by
      obtain ⟨v, w3, e3, i3, j3, rs1, rs2⟩ := kk (tJ w1 437 0 z) (fr_tJ rfl)
      exact ⟨w3, ⟨v, by rw [hw]; exact e3, rs1⟩, i3, by rw [j3, aJ_tJ, if_pos ⟨rfl, rfl⟩], rs2⟩
    cases a with
    | false =>
      obtain ⟨w3, ⟨v, e3, rs1⟩, i3, j3, rs2⟩ := fin 0 rfl _ rfl
      refine ⟨w3, ?_, i3⟩
      subst rs1
      rw [xh_l, ib_f, c437, Option.bind_some]
      try dsimp only
      rw [show ixa 0 1 = some 0 from rfl, Option.bind_some, Option.bind_some, Option.bind_some, Option.bind_some, Option.bind_some, c11, Option.bind_some]
      try dsimp only
      rw [e3, Option.bind_some]
      unfold f_X13_thrown
      rw [Option.bind_some]
      try dsimp only
      rw [rs2, if_pos rfl, if_pos rfl, Option.bind_some]
      try dsimp only
      rw [show ixa 0 1 = some 0 from rfl, Option.bind_some, ib_f, j3, if_pos (lgc_eq.mpr rfl)]
    | true =>
      obtain ⟨w3, ⟨v, e3, rs1⟩, i3, j3, rs2⟩ := fin 1 rfl _ rfl
      refine ⟨w3, ?_, i3⟩
      subst rs1
      rw [xh_l, ib_t, c437, Option.bind_some]
      try dsimp only
      rw [show ixa 0 1 = some 0 from rfl, Option.bind_some, Option.bind_some, Option.bind_some, Option.bind_some, Option.bind_some, c11, Option.bind_some]
      try dsimp only
      rw [e3, Option.bind_some]
      unfold f_X13_thrown
      rw [Option.bind_some]
      try dsimp only
      rw [rs2, if_pos rfl, if_pos rfl, Option.bind_some]
      try dsimp only
      rw [show ixa 0 1 = some 0 from rfl, Option.bind_some, ib_t, j3, if_pos (lgc_eq.mpr rfl)]
  | inr e =>
    obtain ⟨v, w3, e3, i3, j3, rs⟩ := kk w1 Fr.rf
    refine ⟨w3, ?_, i3⟩
    rw [xh_r]
    rcases rs with ⟨q1, q2⟩ | ⟨q1, q2⟩
    · subst q1
      rw [if_pos rfl, Option.bind_some, Option.bind_some, Option.bind_some, c11, Option.bind_some]
      try dsimp only
      rw [e3, Option.bind_some]
      unfold f_X13_thrown
      rw [Option.bind_some]
      try dsimp only
      rw [q2, if_pos rfl, if_neg (show ¬ (1 : Int32) = 0 by decide)]
    · subst q1
      rw [if_neg (show ¬ 3 = 1 by decide), if_pos rfl, Option.bind_some, Option.bind_some, Option.bind_some, c11, Option.bind_some]
      try dsimp only
      rw [e3, Option.bind_some]
      unfold f_X13_thrown
      rw [Option.bind_some]
      try dsimp only
      rw [q2, if_pos rfl, if_neg (show ¬ (2 : Int32) = 0 by decide)]
theorem case_35 {w : Wd} (h : Inv w) {L i : Nat} {xs : Nat → Int32} (hi : 6 * i + 5 < L) (hL : L ≤ 3072) : ∃ w', f_law_c35 Kc L xs (some 0) (some 415) (some 437) (some 438) (nI (6 * i)) w = some w' ∧ Inv w' := by
  obtain ⟨r, w1, e1, kk⟩ := b_undo h
  unfold f_law_c35 f_L_undo
  rw [c10, Option.bind_some, e1, Option.bind_some]
  cases r with
  | inl a =>
    obtain ⟨v, w3, e3, i3, j3, rs1, rs2⟩ := kk (tJ w1 437 0 a.toInt64) (fr_tJ rfl)
    refine ⟨w3, ?_, i3⟩
    rw [xh_l, c437, Option.bind_some]
    try dsimp only
    rw [show ixa 0 1 = some 0 from rfl, Option.bind_some, Option.bind_some, Option.bind_some, c11, Option.bind_some]
    try dsimp only
    rw [e3, Option.bind_some]
    unfold f_X13_thrown
    rw [Option.bind_some]
    try dsimp only
    rw [rs2, if_pos rfl, if_pos rfl, Option.bind_some]
    try dsimp only
    rw [show ixa 0 1 = some 0 from rfl, Option.bind_some, j3, tJ_self, rs1, if_pos (lgc_eq.mpr rfl)]
  | inr e =>
    obtain ⟨v, w3, e3, i3, j3, rs⟩ := kk w1 Fr.rf
    refine ⟨w3, ?_, i3⟩
    rw [xh_r]
    rcases rs with ⟨q1, q2⟩
    · subst q1
      rw [if_pos rfl, Option.bind_some, c11, Option.bind_some]
      try dsimp only
      rw [e3, Option.bind_some]
      unfold f_X13_thrown
      rw [Option.bind_some]
      try dsimp only
      rw [q2, if_pos rfl, if_neg (show ¬ (1 : Int32) = 0 by decide)]
theorem case_36 {w : Wd} (h : Inv w) {L i : Nat} {xs : Nat → Int32} (hi : 6 * i + 5 < L) (hL : L ≤ 3072) : ∃ w', f_law_c36 Kc L xs (some 0) (some 415) (some 437) (some 438) (nI (6 * i)) w = some w' ∧ Inv w' := by
  obtain ⟨r, w1, e1, kk⟩ := b_lapsesIn h (xs (6 * i + 1))
  unfold f_law_c36 f_L_lapsesIn
  rw [show ixa (nI (6 * i) + 1) L = some (6 * i + 1) from ixL hi hL (k := 1) (by omega), Option.bind_some, c10, Option.bind_some, e1, Option.bind_some]
  cases r with
  | inl a =>
    obtain ⟨v, w3, e3, i3, j3, rs1, rs2⟩ := kk (tJ w1 437 0 a.toInt64) (fr_tJ rfl)
    refine ⟨w3, ?_, i3⟩
    rw [xh_l, c437, Option.bind_some]
    try dsimp only
    rw [show ixa 0 1 = some 0 from rfl, Option.bind_some, Option.bind_some, Option.bind_some, Option.bind_some, c11, Option.bind_some]
    try dsimp only
    rw [e3, Option.bind_some]
    unfold f_X13_thrown
    rw [Option.bind_some]
    try dsimp only
    rw [rs2, if_pos rfl, if_pos rfl, Option.bind_some]
    try dsimp only
    rw [show ixa 0 1 = some 0 from rfl, Option.bind_some, j3, tJ_self, rs1, if_pos (lgc_eq.mpr rfl)]
  | inr e =>
    obtain ⟨v, w3, e3, i3, j3, rs⟩ := kk w1 Fr.rf
    refine ⟨w3, ?_, i3⟩
    rw [xh_r]
    rcases rs with ⟨q1, q2⟩
    · subst q1
      rw [if_pos rfl, Option.bind_some, Option.bind_some, c11, Option.bind_some]
      try dsimp only
      rw [e3, Option.bind_some]
      unfold f_X13_thrown
      rw [Option.bind_some]
      try dsimp only
      rw [q2, if_pos rfl, if_neg (show ¬ (1 : Int32) = 0 by decide)]
theorem case_39 {w : Wd} (h : Inv w) {L i : Nat} {xs : Nat → Int32} (hi : 6 * i + 5 < L) (hL : L ≤ 3072) : ∃ w', f_law_c39 Kc L xs (some 0) (some 415) (some 437) (some 438) (nI (6 * i)) w = some w' ∧ Inv w' := by
  obtain ⟨r, w1, e1, kk⟩ := b_printDay h (xs (6 * i + 1))
  unfold f_law_c39 f_L_printDay
  rw [show ixa (nI (6 * i) + 1) L = some (6 * i + 1) from ixL hi hL (k := 1) (by omega), Option.bind_some, c10, Option.bind_some, e1, Option.bind_some]
  cases r with
  | inl a =>
    obtain ⟨v, w3, e3, i3, j3, rs1, rs2⟩ := kk (tJ w1 437 0 a.toInt64) (fr_tJ rfl)
    refine ⟨w3, ?_, i3⟩
    rw [xh_l, c437, Option.bind_some]
    try dsimp only
    rw [show ixa 0 1 = some 0 from rfl, Option.bind_some, Option.bind_some, Option.bind_some, Option.bind_some, c11, Option.bind_some]
    try dsimp only
    rw [e3, Option.bind_some]
    unfold f_X13_thrown
    rw [Option.bind_some]
    try dsimp only
    rw [rs2, if_pos rfl, if_pos rfl, Option.bind_some]
    try dsimp only
    rw [show ixa 0 1 = some 0 from rfl, Option.bind_some, j3, tJ_self, rs1, if_pos (lgc_eq.mpr rfl)]
  | inr e =>
    obtain ⟨v, w3, e3, i3, j3, rs⟩ := kk w1 Fr.rf
    refine ⟨w3, ?_, i3⟩
    rw [xh_r]
    rcases rs with ⟨q1, q2⟩
    · subst q1
      rw [if_pos rfl, Option.bind_some, Option.bind_some, c11, Option.bind_some]
      try dsimp only
      rw [e3, Option.bind_some]
      unfold f_X13_thrown
      rw [Option.bind_some]
      try dsimp only
      rw [q2, if_pos rfl, if_neg (show ¬ (1 : Int32) = 0 by decide)]
theorem case_42 {w : Wd} (h : Inv w) {L i : Nat} {xs : Nat → Int32} (hi : 6 * i + 5 < L) (hL : L ≤ 3072) : ∃ w', f_law_c42 Kc L xs (some 0) (some 415) (some 437) (some 438) (nI (6 * i)) w = some w' ∧ Inv w' := by
  obtain ⟨r, w1, e1, kk⟩ := b_restoreState h
  unfold f_law_c42 f_L_restoreState
  rw [c10, Option.bind_some, e1, Option.bind_some]
  cases r with
  | inl a =>
    obtain ⟨v, w3, e3, i3, j3, rs1, rs2⟩ := kk (tJ w1 437 0 a.toInt64) (fr_tJ rfl)
    refine ⟨w3, ?_, i3⟩
    rw [xh_l, c437, Option.bind_some]
    try dsimp only
    rw [show ixa 0 1 = some 0 from rfl, Option.bind_some, Option.bind_some, Option.bind_some, c11, Option.bind_some]
    try dsimp only
    rw [e3, Option.bind_some]
    unfold f_X13_thrown
    rw [Option.bind_some]
    try dsimp only
    rw [rs2, if_pos rfl, if_pos rfl, Option.bind_some]
    try dsimp only
    rw [show ixa 0 1 = some 0 from rfl, Option.bind_some, j3, tJ_self, rs1, if_pos (lgc_eq.mpr rfl)]
  | inr e =>
    obtain ⟨v, w3, e3, i3, j3, rs⟩ := kk w1 Fr.rf
    refine ⟨w3, ?_, i3⟩
    rw [xh_r]
    rcases rs with ⟨q1, q2⟩
    · subst q1
      rw [if_pos rfl, Option.bind_some, c11, Option.bind_some]
      try dsimp only
      rw [e3, Option.bind_some]
      unfold f_X13_thrown
      rw [Option.bind_some]
      try dsimp only
      rw [q2, if_pos rfl, if_neg (show ¬ (1 : Int32) = 0 by decide)]
theorem case_2 {w : Wd} (h : Inv w) {L i : Nat} {xs : Nat → Int32} (hi : 6 * i + 5 < L) (hL : L ≤ 3072) : ∃ w', f_law_c2 Kc L xs (some 0) (some 415) (some 437) (some 438) (nI (6 * i)) w = some w' ∧ Inv w' := by
  obtain ⟨a, w1, w2, e1, e2, i2⟩ := b_parse h
  refine ⟨w2, ?_, i2⟩
  unfold f_law_c2
  rw [c10, Option.bind_some, e1, Option.bind_some, c11, Option.bind_some]
  try dsimp only
  rw [e2, Option.bind_some]
  try dsimp only
  rw [if_pos rfl]
theorem case_24 {w : Wd} (h : Inv w) {L i : Nat} {xs : Nat → Int32} (hi : 6 * i + 5 < L) (hL : L ≤ 3072) : ∃ w', f_law_c24 Kc L xs (some 0) (some 415) (some 437) (some 438) (nI (6 * i)) w = some w' ∧ Inv w' := by
  obtain ⟨a, w1, w2, e1, e2, i2⟩ := b_fewestOfficers h
  refine ⟨w2, ?_, i2⟩
  unfold f_law_c24
  rw [c10, Option.bind_some, e1, Option.bind_some, c11, Option.bind_some]
  try dsimp only
  rw [e2, Option.bind_some]
  try dsimp only
  rw [if_pos rfl]
theorem case_0 {w : Wd} (h : Inv w) {L i : Nat} {xs : Nat → Int32} (hi : 6 * i + 5 < L) (hL : L ≤ 3072) : ∃ w', f_law_c0 Kc L xs (some 0) (some 415) (some 437) (some 438) (nI (6 * i)) w = some w' ∧ Inv w' := by
  obtain ⟨a, w1, w2, e1, e2, i2⟩ := b_feed h (xs (6 * i + 1)) (xs (6 * i + 2)) (xs (6 * i + 3)) (xs (6 * i + 4)) (xs (6 * i + 5))
  refine ⟨w2, ?_, i2⟩
  unfold f_law_c0
  rw [show ixa (nI (6 * i) + 1) L = some (6 * i + 1) from ixL hi hL (k := 1) (by omega), Option.bind_some, show ixa (nI (6 * i) + 2) L = some (6 * i + 2) from ixL hi hL (k := 2) (by omega), Option.bind_some, show ixa (nI (6 * i) + 3) L = some (6 * i + 3) from ixL hi hL (k := 3) (by omega), Option.bind_some, show ixa (nI (6 * i) + 4) L = some (6 * i + 4) from ixL hi hL (k := 4) (by omega), Option.bind_some, show ixa (nI (6 * i) + 5) L = some (6 * i + 5) from ixL hi hL (k := 5) (by omega), Option.bind_some, c10, Option.bind_some, e1, Option.bind_some, Option.bind_some, Option.bind_some, Option.bind_some, Option.bind_some, Option.bind_some, c11, Option.bind_some]
  try dsimp only
  rw [e2, Option.bind_some]
  try dsimp only
  rw [if_pos rfl]
theorem case_1 {w : Wd} (h : Inv w) {L i : Nat} {xs : Nat → Int32} (hi : 6 * i + 5 < L) (hL : L ≤ 3072) : ∃ w', f_law_c1 Kc L xs (some 0) (some 415) (some 437) (some 438) (nI (6 * i)) w = some w' ∧ Inv w' := by
  obtain ⟨a, w1, w2, e1, e2, i2⟩ := b_truncate h (xs (6 * i + 1))
  refine ⟨w2, ?_, i2⟩
  unfold f_law_c1
  rw [show ixa (nI (6 * i) + 1) L = some (6 * i + 1) from ixL hi hL (k := 1) (by omega), Option.bind_some, c10, Option.bind_some, e1, Option.bind_some, Option.bind_some, c11, Option.bind_some]
  try dsimp only
  rw [e2, Option.bind_some]
  try dsimp only
  rw [if_pos rfl]
theorem case_3 {w : Wd} (h : Inv w) {L i : Nat} {xs : Nat → Int32} (hi : 6 * i + 5 < L) (hL : L ≤ 3072) : ∃ w', f_law_c3 Kc L xs (some 0) (some 415) (some 437) (some 438) (nI (6 * i)) w = some w' ∧ Inv w' := by
  obtain ⟨a, w1, w2, e1, e2, i2⟩ := b_errorCode h
  refine ⟨w2, ?_, i2⟩
  unfold f_law_c3
  rw [c10, Option.bind_some, e1, Option.bind_some, c11, Option.bind_some]
  try dsimp only
  rw [e2, Option.bind_some]
  try dsimp only
  rw [if_pos rfl]
theorem case_4 {w : Wd} (h : Inv w) {L i : Nat} {xs : Nat → Int32} (hi : 6 * i + 5 < L) (hL : L ≤ 3072) : ∃ w', f_law_c4 Kc L xs (some 0) (some 415) (some 437) (some 438) (nI (6 * i)) w = some w' ∧ Inv w' := by
  obtain ⟨a, w1, w2, e1, e2, i2⟩ := b_errorOffset h
  refine ⟨w2, ?_, i2⟩
  unfold f_law_c4
  rw [c10, Option.bind_some, e1, Option.bind_some, c11, Option.bind_some]
  try dsimp only
  rw [e2, Option.bind_some]
  try dsimp only
  rw [if_pos rfl]
theorem case_5 {w : Wd} (h : Inv w) {L i : Nat} {xs : Nat → Int32} (hi : 6 * i + 5 < L) (hL : L ≤ 3072) : ∃ w', f_law_c5 Kc L xs (some 0) (some 415) (some 437) (some 438) (nI (6 * i)) w = some w' ∧ Inv w' := by
  obtain ⟨a, w1, w2, e1, e2, i2⟩ := b_count h (xs (6 * i + 1))
  refine ⟨w2, ?_, i2⟩
  unfold f_law_c5
  rw [show ixa (nI (6 * i) + 1) L = some (6 * i + 1) from ixL hi hL (k := 1) (by omega), Option.bind_some, c10, Option.bind_some, e1, Option.bind_some, Option.bind_some, c11, Option.bind_some]
  try dsimp only
  rw [e2, Option.bind_some]
  try dsimp only
  rw [if_pos rfl]
theorem case_30 {w : Wd} (h : Inv w) {L i : Nat} {xs : Nat → Int32} (hi : 6 * i + 5 < L) (hL : L ≤ 3072) : ∃ w', f_law_c30 Kc L xs (some 0) (some 415) (some 437) (some 438) (nI (6 * i)) w = some w' ∧ Inv w' := by
  obtain ⟨a, w1, w2, e1, e2, i2⟩ := b_planAll h
  refine ⟨w2, ?_, i2⟩
  unfold f_law_c30
  rw [c10, Option.bind_some, e1, Option.bind_some, c11, Option.bind_some]
  try dsimp only
  rw [e2, Option.bind_some]
  try dsimp only
  rw [if_pos rfl]
theorem case_37 {w : Wd} (h : Inv w) {L i : Nat} {xs : Nat → Int32} (hi : 6 * i + 5 < L) (hL : L ≤ 3072) : ∃ w', f_law_c37 Kc L xs (some 0) (some 415) (some 437) (some 438) (nI (6 * i)) w = some w' ∧ Inv w' := by
  obtain ⟨a, w1, w2, e1, e2, i2⟩ := b_plannable h
  refine ⟨w2, ?_, i2⟩
  unfold f_law_c37
  rw [c10, Option.bind_some, e1, Option.bind_some, c11, Option.bind_some]
  try dsimp only
  rw [e2, Option.bind_some]
  try dsimp only
  rw [if_pos rfl]
theorem case_38 {w : Wd} (h : Inv w) {L i : Nat} {xs : Nat → Int32} (hi : 6 * i + 5 < L) (hL : L ≤ 3072) : ∃ w', f_law_c38 Kc L xs (some 0) (some 415) (some 437) (some 438) (nI (6 * i)) w = some w' ∧ Inv w' := by
  obtain ⟨a, w1, w2, e1, e2, i2⟩ := b_keyOfficer h
  refine ⟨w2, ?_, i2⟩
  unfold f_law_c38
  rw [c10, Option.bind_some, e1, Option.bind_some, c11, Option.bind_some]
  try dsimp only
  rw [e2, Option.bind_some]
  try dsimp only
  rw [if_pos rfl]
theorem case_40 {w : Wd} (h : Inv w) {L i : Nat} {xs : Nat → Int32} (hi : 6 * i + 5 < L) (hL : L ≤ 3072) : ∃ w', f_law_c40 Kc L xs (some 0) (some 415) (some 437) (some 438) (nI (6 * i)) w = some w' ∧ Inv w' := by
  obtain ⟨a, w1, w2, e1, e2, i2⟩ := b_outputByte h (xs (6 * i + 1))
  refine ⟨w2, ?_, i2⟩
  unfold f_law_c40
  rw [show ixa (nI (6 * i) + 1) L = some (6 * i + 1) from ixL hi hL (k := 1) (by omega), Option.bind_some, c10, Option.bind_some, e1, Option.bind_some, Option.bind_some, c11, Option.bind_some]
  try dsimp only
  rw [e2, Option.bind_some]
  try dsimp only
  rw [if_pos rfl]
theorem case_41 {w : Wd} (h : Inv w) {L i : Nat} {xs : Nat → Int32} (hi : 6 * i + 5 < L) (hL : L ≤ 3072) : ∃ w', f_law_c41 Kc L xs (some 0) (some 415) (some 437) (some 438) (nI (6 * i)) w = some w' ∧ Inv w' := by
  obtain ⟨a, w1, w2, e1, e2, i2⟩ := b_saveState h
  refine ⟨w2, ?_, i2⟩
  unfold f_law_c41
  rw [c10, Option.bind_some, e1, Option.bind_some, c11, Option.bind_some]
  try dsimp only
  rw [e2, Option.bind_some]
  try dsimp only
  rw [if_pos rfl]
theorem case_25 {w : Wd} (h : Inv w) {L i : Nat} {xs : Nat → Int32} (hi : 6 * i + 5 < L) (hL : L ≤ 3072) : ∃ w', f_law_c25 Kc L xs (some 0) (some 415) (some 437) (some 438) (nI (6 * i)) w = some w' ∧ Inv w' := by
  obtain ⟨a, w1, w2, e1, e2, i2, nn⟩ := b_meanSlack h
  refine ⟨w2, ?_, i2⟩
  unfold f_law_c25
  rw [c10, Option.bind_some, e1, Option.bind_some, c11, Option.bind_some]
  try dsimp only
  rw [e2, Option.bind_some]
  try dsimp only
  rw [dcmp_ok nn]
  rfl
theorem case_26 {w : Wd} (h : Inv w) {L i : Nat} {xs : Nat → Int32} (hi : 6 * i + 5 < L) (hL : L ≤ 3072) : ∃ w', f_law_c26 Kc L xs (some 0) (some 415) (some 437) (some 438) (nI (6 * i)) w = some w' ∧ Inv w' := by
  obtain ⟨r, w1, e1, f1, nn, kk⟩ := b_usage h (xs (6 * i + 1)) (xs (6 * i + 2)) (xs (6 * i + 3))
  unfold f_law_c26 f_L_usage
  rw [show ixa (nI (6 * i) + 1) L = some (6 * i + 1) from ixL hi hL (k := 1) (by omega), Option.bind_some, show ixa (nI (6 * i) + 2) L = some (6 * i + 2) from ixL hi hL (k := 2) (by omega), Option.bind_some, show ixa (nI (6 * i) + 3) L = some (6 * i + 3) from ixL hi hL (k := 3) (by omega), Option.bind_some, c10, Option.bind_some, e1, Option.bind_some]
  cases r with
  | inl a =>
    have na := f2d_ok (nn a rfl)
    obtain ⟨v, w3, e3, i3, j3, rs1, rs2⟩ := kk (tD w1 438 0 (FP.f2d a)) fr_tD f1.tD
    refine ⟨w3, ?_, i3⟩
    rw [xh_l, show grd (n64 (FP.f2d a) = true) = some () from if_pos (n64_nn na), Option.bind_some, c438, Option.bind_some]
    try dsimp only
    rw [show ixa 0 1 = some 0 from rfl, Option.bind_some, Option.bind_some, Option.bind_some, Option.bind_some, Option.bind_some, Option.bind_some, c11, Option.bind_some]
    try dsimp only
    rw [e3, Option.bind_some]
    unfold f_X13_thrown
    rw [Option.bind_some]
    try dsimp only
    have ej : aD w3 438 0 = FP.f2d a := by rw [j3]; exact tD_self
    rw [rs2, if_pos rfl, if_pos rfl, Option.bind_some]
    try dsimp only
    rw [show ixa 0 1 = some 0 from rfl, Option.bind_some, ← rs1, show grd (n64 (FP.f2d a) = true) = some () from if_pos (n64_nn na), Option.bind_some, ej, dcmp_ok na]
    rfl
  | inr e =>
    obtain ⟨v, w3, e3, i3, j3, rs⟩ := kk w1 Fr.rf f1
    refine ⟨w3, ?_, i3⟩
    rw [xh_r]
    rcases rs with ⟨q1, q2⟩ | ⟨q1, q2⟩
    · subst q1
      rw [if_pos rfl, Option.bind_some, Option.bind_some, Option.bind_some, Option.bind_some, c11, Option.bind_some]
      try dsimp only
      rw [e3, Option.bind_some]
      unfold f_X13_thrown
      rw [Option.bind_some]
      try dsimp only
      rw [q2, if_pos rfl, if_neg (show ¬ (1 : Int32) = 0 by decide)]
    · subst q1
      rw [if_neg (show ¬ 2 = 1 by decide), if_pos rfl, Option.bind_some, Option.bind_some, Option.bind_some, Option.bind_some, c11, Option.bind_some]
      try dsimp only
      rw [e3, Option.bind_some]
      unfold f_X13_thrown
      rw [Option.bind_some]
      try dsimp only
      rw [q2, if_pos rfl, if_neg (show ¬ (2 : Int32) = 0 by decide)]
