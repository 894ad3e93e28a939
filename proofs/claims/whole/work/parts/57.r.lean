/-! What is asked for ahead of an answer. -/
theorem lt0 {x : Int32} : x < 0 ↔ x.toInt < 0 := by
  rw [Int32.lt_iff_toInt_lt]
  exact Iff.rfl
theorem ltn {x : Int32} {n : Nat} (hn : n < 2 ^ 31) : x < nI n ↔ x.toInt < (n : Int) := by
  rw [Int32.lt_iff_toInt_lt, nI_toInt hn]
theorem nlt {x : Int32} {n : Nat} (hn : n < 2 ^ 31) : nI n < x ↔ (n : Int) < x.toInt := by
  rw [Int32.lt_iff_toInt_lt, nI_toInt hn]
theorem len {x : Int32} {n : Nat} (hn : n < 2 ^ 31) : x ≤ nI n ↔ x.toInt ≤ (n : Int) := by
  rw [Int32.le_iff_toInt_le, nI_toInt hn]
theorem nle {x : Int32} {n : Nat} (hn : n < 2 ^ 31) : nI n ≤ x ↔ (n : Int) ≤ x.toInt := by
  rw [Int32.le_iff_toInt_le, nI_toInt hn]
theorem pm1 {n : Nat} (h : n < 2 ^ 31) : (nI n - 1).toInt64.toInt = (n : Int) - 1 := by
  cases n with
  | zero => decide
  | succ k => rw [show nI (k + 1) - 1 = nI k from sub_nI (a := k + 1) (b := 1) (by omega), i64_nI (by omega)]; omega
/-- in a range from 0 on -/
abbrev inR (x : Int32) (n : Nat) : Prop := 0 ≤ x.toInt ∧ x.toInt < (n : Int)
theorem inR_nI {x : Int32} {n : Nat} (h : inR x n) : ∃ d, d < n ∧ x = nI d := nI_rg h.1 h.2
theorem isIn_n {K : Kd} {x : Int32} {c : Int64} {n : Nat} {w : Wd} (hc : c.toInt = (n : Int) - 1) : f_X13_isIn K x.toInt64 0 c w = some (decide (inR x n), w) := by
  rw [isIn_sp, Int32.toInt_toInt64, hc, show (0 : Int64).toInt = 0 from rfl]
  refine congrArg some (congrArg (fun b => (b, w)) ?_)
  exact decide_eq_decide.mpr ⟨fun q => ⟨q.1, by omega⟩, fun q => ⟨q.1, by have := q.2; omega⟩⟩
theorem x_reqE {w : Wd} {b : Nat} {s t : Nat → Nat} (h : HX w 73 b s t) {k : Nat} (hk : k < 4) {x : Int32} : f_X12_requireExisting Kc 0 (nI k) x w = some (if inR x (s k) then .inl () else .inr 1, w) := by
  have hs := h.gs.1
  have hb : s k < 2 ^ 31 := by
    rcases (by omega : k = 0 ∨ k = 1 ∨ k = 2 ∨ k = 3) with e | e | e | e <;> subst e <;> omega
  unfold f_X12_requireExisting
  by_cases e : x < 0
  · have := lt0.mp e
    rw [if_pos e, if_neg (fun q => by have := q.1; omega)]
  · have e1 : ¬ x.toInt < 0 := fun q => e (lt0.mpr q)
    rw [if_neg e, x1205 h.1, Option.bind_some, h.su, Option.bind_some, x_size h hk, Option.bind_some]
    try dsimp only
    by_cases e2 : x < nI (s k)
    · have := (ltn hb).mp e2
      rw [if_pos e2, if_pos ⟨by omega, this⟩]
    · have e3 : ¬ x.toInt < (s k : Int) := fun q => e2 ((ltn hb).mpr q)
      rw [if_neg e2, if_neg (fun q => e3 q.2)]
theorem x_rng {w : Wd} {x : Int32} {n : Nat} (hn : n < 2 ^ 31) : (if x < 0 then some ((.inr 2 : Unit ⊕ Nat), w) else if x < nI n then some (.inl (), w) else some (.inr 2, w)) = some (if inR x n then .inl () else .inr 2, w) := by
  by_cases e : x < 0
  · have := lt0.mp e
    rw [if_pos e, if_neg (fun q => by have := q.1; omega)]
  · have e1 : ¬ x.toInt < 0 := fun q => e (lt0.mpr q)
    rw [if_neg e]
    by_cases e2 : x < nI n
    · have := (ltn hn).mp e2
      rw [if_pos e2, if_pos ⟨by omega, this⟩]
    · have e3 : ¬ x.toInt < (n : Int) := fun q => e2 ((ltn hn).mpr q)
      rw [if_neg e2, if_neg (fun q => e3 q.2)]
theorem x_reqD {w : Wd} {x : Int32} : f_X12_requireDay Kc 0 x w = some (if inR x 600 then .inl () else .inr 2, w) := x_rng (n := 600) (by omega)
theorem x_reqS {w : Wd} {x : Int32} : f_X12_requireSlot Kc 0 x w = some (if inR x 8 then .inl () else .inr 2, w) := x_rng (n := 8) (by omega)
theorem x_reqR {w : Wd} {x : Int32} : f_X12_requireReason Kc 0 x w = some (if inR x 4 then .inl () else .inr 2, w) := x_rng (n := 4) (by omega)
abbrev inD (x : Int32) (d : Nat) : Prop := (d : Int) ≤ x.toInt ∧ x.toInt < 600
theorem x_reqC {w : Wd} {b : Nat} {s t : Nat → Nat} (h : HX w 73 b s t) {x : Int32} : f_X12_requireComingDay Kc 0 x w = some (if inD x (t 0) then .inl () else .inr 2, w) := by
  have h0 := h.gt.1
  unfold f_X12_requireComingDay
  rw [x1205 h.1, Option.bind_some, h.dy]
  by_cases e : x < nI (t 0)
  · have := (ltn (by omega)).mp e
    rw [if_pos e, if_neg (fun q => by have := q.1; omega)]
  · have e1 : ¬ x.toInt < (t 0 : Int) := fun q => e ((ltn (by omega)).mpr q)
    rw [if_neg e]
    by_cases e2 : x < 600
    · have := (ltn (n := 600) (by omega)).mp e2
      rw [if_pos e2, if_pos ⟨by omega, by omega⟩]
    · have e3 : ¬ x.toInt < ((600 : Nat) : Int) := fun q => e2 ((ltn (n := 600) (by omega)).mpr q)
      rw [if_neg e2, if_neg (fun q => by have := q.2; omega)]
abbrev inS (x y : Int32) : Prop := 0 ≤ x.toInt ∧ x.toInt ≤ y.toInt ∧ y.toInt < 600
theorem x_reqP {w : Wd} {x y : Int32} : f_X12_requireSpan Kc 0 x y w = some (if inS x y then .inl () else .inr 2, w) := by
  unfold f_X12_requireSpan
  by_cases e : x < 0
  · have := lt0.mp e
    rw [if_pos e, if_neg (fun q => by have := q.1; omega)]
  · have e1 : ¬ x.toInt < 0 := fun q => e (lt0.mpr q)
    rw [if_neg e]
    by_cases e2 : y < x
    · have := Int32.lt_iff_toInt_lt.mp e2
      rw [if_pos e2, if_neg (fun q => by have := q.2.1; omega)]
    · have e3 : ¬ y.toInt < x.toInt := fun q => e2 (Int32.lt_iff_toInt_lt.mpr q)
      rw [if_neg e2]
      by_cases e4 : y < 600
      · have := (ltn (n := 600) (by omega)).mp e4
        rw [if_pos e4, if_pos ⟨by omega, by omega, by omega⟩]
      · have e5 : ¬ y.toInt < ((600 : Nat) : Int) := fun q => e4 ((ltn (n := 600) (by omega)).mpr q)
        rw [if_neg e4, if_neg (fun q => by have := q.2.2; omega)]
abbrev inP (x : Int32) (d : Nat) : Prop := 1 ≤ x.toInt ∧ x.toInt ≤ 99 ∧ (d : Int) + x.toInt < 600
theorem inP_nI {x : Int32} {d : Nat} (h : inP x d) : ∃ n, 0 < n ∧ d + n < 600 ∧ n ≤ 99 ∧ x = nI n := by
  obtain ⟨h1, h2, h3⟩ := h
  obtain ⟨n, hn, rfl⟩ := nI_rg (x := x) (n := 100) (by omega) (by omega)
  rw [nI_toInt (by omega)] at h1 h2 h3
  exact ⟨n, by omega, by omega, by omega, rfl⟩
theorem x_reqN {w : Wd} {b : Nat} {s t : Nat → Nat} (h : HX w 73 b s t) {x : Int32} : f_X12_requirePassable Kc 0 x w = some (if inP x (t 0) then .inl () else .inr 2, w) := by
  have h0 := h.gt.1
  unfold f_X12_requirePassable
  by_cases e : x < 1
  · have := (ltn (n := 1) (by omega)).mp e
    rw [if_pos e, if_neg (fun q => by have := q.1; omega)]
  · have e1 : ¬ x.toInt < ((1 : Nat) : Int) := fun q => e ((ltn (n := 1) (by omega)).mpr q)
    rw [if_neg e]
    by_cases e2 : 99 < x
    · have := (nlt (n := 99) (by omega)).mp e2
      rw [if_pos e2, if_neg (fun q => by have := q.2.1; omega)]
    · have e3 : ¬ ((99 : Nat) : Int) < x.toInt := fun q => e2 ((nlt (n := 99) (by omega)).mpr q)
      obtain ⟨n, hn, rfl⟩ := nI_rg (x := x) (n := 100) (by omega) (by omega)
      have i1 : (nI n).toInt = (n : Int) := nI_toInt (by omega)
      rw [if_neg e2, x1205 h.1, Option.bind_some, h.dy, nI_add]
      by_cases e4 : t 0 + n < 600
      · rw [show (600 : Int32) = nI 600 from rfl, if_lt_t (by omega) (by omega) e4, if_pos ⟨by omega, by omega, by omega⟩]
      · rw [show (600 : Int32) = nI 600 from rfl, if_lt_f (by omega) (by omega) (by omega), if_neg (fun q => by have := q.2.2; omega)]
theorem x_reqU {w : Wd} {b : Nat} {s t : Nat → Nat} (h : HX w 73 b s t) {i : Nat} (hi : i < 12) : f_X12_requireUnfinished Kc 0 (nI i) w = some (if cs t i 0 ≤ 1 then .inl () else .inr 3, w) := by
  have h3 := (h.gt.c3 hi).1
  unfold f_X12_requireUnfinished
  rw [x1205 h.1, Option.bind_some, h.pg, Option.bind_some]
  try dsimp only
  rw [ixa_n hi (by omega), Option.bind_some, h.pe hi, Option.bind_some, h.p0 hi, show (0 : Int32) = nI 0 from rfl, show (1 : Int32) = nI 1 from rfl]
  by_cases e0 : cs t i 0 = 0
  · rw [if_eq_t e0, if_pos (by omega)]
  · rw [if_eq_f (by omega) (by omega) e0]
    by_cases e1 : cs t i 0 = 1
    · rw [if_eq_t e1, if_pos (by omega)]
    · rw [if_eq_f (by omega) (by omega) e1, if_neg (by omega)]
/-! the reference's -/
theorem m_isCase {w : Wd} {s t : Nat → Nat} (h : HM w s t) {x : Int32} : f_X13_isCase Kc 415 x w = some (decide (inR x (s 3)), w) := by
  have hs := h.gs.1
  unfold f_X13_isCase
  rw [x1301 h.1, Option.bind_some]
  try dsimp only
  rw [show ixa 3 170 = some 3 from rfl, Option.bind_some, h.S (by omega), isIn_n (pm1 (by omega)), Option.bind_some]
theorem m_isRoom {w : Wd} {s t : Nat → Nat} (h : HM w s t) {x : Int32} : f_X13_isRoom Kc 415 x w = some (decide (inR x (s 0)), w) := by
  have hs := h.gs.1
  unfold f_X13_isRoom
  rw [x1301 h.1, Option.bind_some]
  try dsimp only
  rw [show ixa 0 170 = some 0 from rfl, Option.bind_some, h.S (by omega), isIn_n (pm1 (by omega)), Option.bind_some]
theorem m_isOfficer {w : Wd} {s t : Nat → Nat} (h : HM w s t) {x : Int32} : f_X13_isOfficer Kc 415 x w = some (decide (inR x (s 1)), w) := by
  have hs := h.gs.1
  unfold f_X13_isOfficer
  rw [x1301 h.1, Option.bind_some]
  try dsimp only
  rw [show ixa 1 170 = some 1 from rfl, Option.bind_some, h.S (by omega), isIn_n (pm1 (by omega)), Option.bind_some]
theorem m_isWitness {w : Wd} {s t : Nat → Nat} (h : HM w s t) {x : Int32} : f_X13_isWitness Kc 415 x w = some (decide (inR x (s 2)), w) := by
  have hs := h.gs.1
  unfold f_X13_isWitness
  rw [x1301 h.1, Option.bind_some]
  try dsimp only
  rw [show ixa 2 170 = some 2 from rfl, Option.bind_some, h.S (by omega), isIn_n (pm1 (by omega)), Option.bind_some]
theorem dT {p : Prop} [Decidable p] {w : Wd} (h : p) : some (true, w) = some (decide p, w) := by rw [decide_eq_true h]
theorem dF' {p : Prop} [Decidable p] {w : Wd} (h : ¬ p) : some (false, w) = some (decide p, w) := by rw [decide_eq_false h]
theorem m_isDay {w : Wd} {x : Int32} : f_X13_isDay Kc x w = some (decide (inR x 600), w) := by
  unfold f_X13_isDay
  rw [isIn_n (n := 600) rfl, Option.bind_some]
theorem m_isReason {w : Wd} {x : Int32} : f_X13_isReason Kc x w = some (decide (inR x 4), w) := by
  unfold f_X13_isReason
  rw [isIn_n (n := 4) rfl, Option.bind_some]
theorem m_isTime {w : Wd} {x y : Int32} : f_X13_isTime Kc x y w = some (decide (inR x 600 ∧ inR y 8), w) := by
  unfold f_X13_isTime
  rw [m_isDay, Option.bind_some, ifb]
  try dsimp only
  rw [isIn_n (n := 8) rfl, Option.bind_some, ifb]
  by_cases e1 : inR x 600
  · by_cases e2 : inR y 8
    · rw [if_pos (decide_eq_true e1), if_pos (decide_eq_true e2)]; exact dT ⟨e1, e2⟩
    · rw [if_pos (decide_eq_true e1), if_neg (by simp only [decide_eq_true_eq]; exact e2)]; exact dF' (fun q => e2 q.2)
  · rw [if_neg (by simp only [decide_eq_true_eq]; exact e1)]; exact dF' (fun q => e1 q.1)
theorem m_isSpan {w : Wd} {x y : Int32} : f_X13_isSpan Kc x y w = some (decide (inS x y), w) := by
  unfold f_X13_isSpan
  rw [m_isDay, Option.bind_some, ifb]
  try dsimp only
  rw [isIn_sp, Option.bind_some, ifb, Int32.toInt_toInt64, Int32.toInt_toInt64, show (599 : Int64).toInt = 599 from rfl]
  by_cases e1 : inR x 600
  · by_cases e2 : x.toInt ≤ y.toInt ∧ y.toInt ≤ 599
    · rw [if_pos (decide_eq_true e1), if_pos (decide_eq_true e2)]; exact dT ⟨e1.1, e2.1, by omega⟩
    · rw [if_pos (decide_eq_true e1), if_neg (by simp only [decide_eq_true_eq]; exact e2)]; exact dF' (fun q => e2 ⟨q.2.1, by have := q.2.2; omega⟩)
  · rw [if_neg (by simp only [decide_eq_true_eq]; exact e1)]; exact dF' (fun q => e1 ⟨q.1, by have := q.2; omega⟩)
theorem m_isOpen {w : Wd} {s t : Nat → Nat} (h : HM w s t) {i : Nat} (hi : i < 12) : f_X13_isOpen Kc 415 (nI i) w = some (decide (cs t i 0 ≤ 1), w) := by
  have h3 := (h.gt.c3 hi).1
  unfold f_X13_isOpen
  rw [show (0 : Int32) = nI 0 from rfl, show (1 : Int32) = nI 1 from rfl, m_of h hi (by omega), Option.bind_some]
  try dsimp only
  by_cases e : cs t i 0 ≤ 1
  · rw [if_lt_f (by omega) (by omega) e]; exact dT e
  · rw [if_lt_t (by omega) (by omega) (by omega)]; exact dF' e
theorem m_areThere {w : Wd} {s t : Nat → Nat} (h : HM w s t) {x y z : Int32} : f_X13_areThere Kc 415 x y z w = some (decide (inR x (s 3) ∧ inR y (s 0) ∧ inR z (s 1)), w) := by
  unfold f_X13_areThere
  rw [m_isCase h, Option.bind_some, ifb]
  try dsimp only
  rw [m_isRoom h, Option.bind_some, ifb]
  try dsimp only
  rw [m_isOfficer h, Option.bind_some, ifb]
  by_cases e1 : inR x (s 3)
  · rw [if_pos (decide_eq_true e1)]
    by_cases e2 : inR y (s 0)
    · rw [if_pos (decide_eq_true e2)]
      by_cases e3 : inR z (s 1)
      · rw [if_pos (decide_eq_true e3)]; exact dT ⟨e1, e2, e3⟩
      · rw [if_neg (by simp only [decide_eq_true_eq]; exact e3)]; exact dF' (fun q => e3 q.2.2)
    · rw [if_neg (by simp only [decide_eq_true_eq]; exact e2)]; exact dF' (fun q => e2 q.2.1)
  · rw [if_neg (by simp only [decide_eq_true_eq]; exact e1)]; exact dF' (fun q => e1 q.1)
theorem m_canPass {w : Wd} {s t : Nat → Nat} (h : HM w s t) {x : Int32} : f_X13_canPass Kc 415 x w = some (decide (inP x (t 0)), w) := by
  have h0 := h.gt.1
  unfold f_X13_canPass
  rw [isIn_sp, Option.bind_some, ifb, Int32.toInt_toInt64, show (1 : Int64).toInt = 1 from rfl, show (99 : Int64).toInt = 99 from rfl]
  try dsimp only
  by_cases e : 1 ≤ x.toInt ∧ x.toInt ≤ 99
  · obtain ⟨n, hn, rfl⟩ := nI_rg (x := x) (n := 100) (by omega) (by omega)
    have i1 : (nI n).toInt = (n : Int) := nI_toInt (by omega)
    rw [if_pos (decide_eq_true e), x1303 h.1, Option.bind_some]
    try dsimp only
    rw [show ixa 0 370 = some 0 from rfl, Option.bind_some, h.T (by omega) (by omega), nI_add, show (600 : Int32) = nI 600 from rfl]
    by_cases e4 : t 0 + n < 600
    · rw [if_le_f (by omega) (by omega) e4]; exact dT ⟨by omega, by omega, by omega⟩
    · rw [if_le_t (by omega) (by omega) (by omega)]; exact dF' (fun q => by have := q.2.2; omega)
  · rw [if_neg (by simp only [decide_eq_true_eq]; exact e)]; exact dF' (fun q => e ⟨q.1, q.2.1⟩)
