/-! What stands against a hearing; the reference's search. -/
theorem m1_i64 {n : Nat} (h : n < 2 ^ 31) : (nI n - nI 1).toInt64.toInt = (n : Int) - 1 := by
  rw [Int32.toInt_toInt64]
  by_cases e : n = 0
  · subst e; decide
  · rw [sub_nI (by omega), nI_toInt (by omega)]
    omega
def mts (s t : Nat → Nat) (i d q c : Nat) : Bool := !(c == i) && (hrg t c && ((cs t c 3 == d) && decide (cs t c 4 < q + s (100 + i) ∧ q < cs t c 4 + s (100 + c))))
theorem mts_hr {s t : Nat → Nat} {i d q c : Nat} (h : mts s t i d q c = true) : hrg t c = true := by
  simp only [mts, Bool.and_eq_true] at h
  exact h.2.1
theorem m_meets {w : Wd} {s t : Nat → Nat} (h : HM w s t) {i d q c : Nat} (hi : i < s 3) (hc : c < s 3) (hd : d < 2 ^ 31) (hq : q < 2000) : f_X13_meets Kc 415 (nI c) (nI i) (nI d) (nI q) w = some (mts s t i d q c, w) := by
  have h12 := h.gs.1.2.2.2
  have l1 := h.gs.ln hi
  have l2 := h.gs.ln hc
  unfold f_X13_meets mts
  by_cases e : c = i
  · simp (disch := first | omega | assumption) only [il, Option.bind_some, ixa_n, nI_add, pk_mul, if_le_t, if_le_f, if_lt_t, if_lt_f, if_eq_t, if_eq_f, ↓ifb', x1301 h.1, x1303 h.1, h.S, h.T, m_of h, m_hasHearing h]
    simp [e]
  · cases e1 : hrg t c
    · simp (disch := first | omega | assumption) only [il, Option.bind_some, ixa_n, nI_add, pk_mul, if_le_t, if_le_f, if_lt_t, if_lt_f, if_eq_t, if_eq_f, ↓ifb', x1301 h.1, x1303 h.1, h.S, h.T, m_of h, m_hasHearing h, e1, Bool.false_eq_true, if_false]
      simp
    · have e2 := h.gt.hr (by omega) e1
      by_cases e3 : cs t c 3 = d
      · by_cases e4 : cs t c 4 < q + s (100 + i)
        · by_cases e5 : q < cs t c 4 + s (100 + c)
          · simp (disch := first | omega | assumption) only [il, Option.bind_some, ixa_n, nI_add, pk_mul, if_le_t, if_le_f, if_lt_t, if_lt_f, if_eq_t, if_eq_f, ↓ifb', x1301 h.1, x1303 h.1, h.S, h.T, m_of h, m_hasHearing h, e1, if_true]
            simp [e, e3, e4, e5]
          · simp (disch := first | omega | assumption) only [il, Option.bind_some, ixa_n, nI_add, pk_mul, if_le_t, if_le_f, if_lt_t, if_lt_f, if_eq_t, if_eq_f, ↓ifb', x1301 h.1, x1303 h.1, h.S, h.T, m_of h, m_hasHearing h, e1, if_true]
            simp [e, e3, e4, e5]
        · simp (disch := first | omega | assumption) only [il, Option.bind_some, ixa_n, nI_add, pk_mul, if_le_t, if_le_f, if_lt_t, if_lt_f, if_eq_t, if_eq_f, ↓ifb', x1301 h.1, x1303 h.1, h.S, h.T, m_of h, m_hasHearing h, e1, if_true]
          simp [e, e3, e4]
      · simp (disch := first | omega | assumption) only [il, Option.bind_some, ixa_n, nI_add, pk_mul, if_le_t, if_le_f, if_lt_t, if_lt_f, if_eq_t, if_eq_f, ↓ifb', x1301 h.1, x1303 h.1, h.S, h.T, m_of h, m_hasHearing h, e1, if_true]
        simp [e, e3]
def rmT (s t : Nat → Nat) (i d q r : Nat) : Bool := anyF (fun c => mts s t i d q c && cs t c 5 == r) 0 (s 3)
def ofT (s t : Nat → Nat) (i d q o : Nat) : Bool := anyF (fun c => mts s t i d q c && cs t c 6 == o) 0 (s 3)
def wiT (s t : Nat → Nat) (i d q : Nat) : Bool := anyF (fun c => mts s t i d q c && !(s (136 + c) &&& s (136 + i) == 0)) 0 (s 3)
def inW (s t : Nat → Nat) (i d q v : Nat) : Bool := decide (s (52 + v) ≤ d ∧ d < t (22 + v)) && decide (s (64 + v) ≤ q ∧ q + s (100 + i) - 1 ≤ s (76 + v))
def ouT (s t : Nat → Nat) (i d q : Nat) : Bool := anyF (fun v => (s (136 + i)).testBit v && !inW s t i d q v) 0 (s 2)
def offS (s : Nat → Nat) (G : Int32) (o d : Nat) : Bool := awayS s o d || decide (nI o = G)

theorem m_isRoomTaken {w : Wd} {s t : Nat → Nat} (h : HM w s t) {i d q r : Nat} (hi : i < s 3) (hd : d < 2 ^ 31) (hq : q < 2000) (hr : r < 2 ^ 31) : f_X13_isRoomTaken Kc 415 (nI i) (nI d) (nI q) (nI r) w = some (rmT s t i d q r, w) := by
  have h12 := h.gs.1.2.2.2
  have h3 := h.gs.1.1
  have h6 := h.gs.1.2.1
  unfold f_X13_isRoomTaken
  simp only [il]
  refine (loop_any (fun f c => f_X13_isRoomTaken_L3 Kc 415 (fun v1_3 v2_3 v3_3 v4_3 v5_3 w1 => some (false, w1)) f (nI i) (nI d) (nI q) (nI r) (nI c) w) (fun c => mts s t i d q c && cs t c 5 == r) (s 3) (some (true, w)) (some (false, w)) (fun f => ?_) (fun f c hc hp => ?_) (fun f c hc hp => ?_) (s 3) 0 fu (by omega) (fu_lt (by omega))).trans ?_
  · try dsimp only
    rw [f_X13_isRoomTaken_L3]
    simp (disch := first | omega | assumption) only [il, Option.bind_some, ixa_n, nI_add, pk_mul, if_le_t, if_le_f, if_lt_t, if_lt_f, if_eq_t, if_eq_f, ↓ifb', x1301 h.1, x1303 h.1, h.S, h.T, m_of h, m_hasHearing h]
  · try dsimp only
    simp only [Bool.and_eq_true, beq_iff_eq] at hp
    have e1 := mts_hr hp.1
    have e2 := h.gt.hr (by omega) e1
    rw [f_X13_isRoomTaken_L3]
    simp (disch := first | omega | assumption) only [il, Option.bind_some, ixa_n, nI_add, pk_mul, if_le_t, if_le_f, if_lt_t, if_lt_f, if_eq_t, if_eq_f, ↓ifb', x1301 h.1, x1303 h.1, h.S, h.T, m_of h, m_hasHearing h, m_meets h, hp.1, if_true]
  · try dsimp only
    rw [f_X13_isRoomTaken_L3]
    cases e0 : mts s t i d q c
    · simp (disch := first | omega | assumption) only [il, Option.bind_some, ixa_n, nI_add, pk_mul, if_le_t, if_le_f, if_lt_t, if_lt_f, if_eq_t, if_eq_f, ↓ifb', x1301 h.1, x1303 h.1, h.S, h.T, m_of h, m_hasHearing h, m_meets h, e0, Bool.false_eq_true, if_false]
    · have e1 := mts_hr e0
      have e2 := h.gt.hr (by omega) e1
      have e3 : cs t c 5 ≠ r := by
        intro q
        simp [e0, q] at hp
      simp (disch := first | omega | assumption) only [il, Option.bind_some, ixa_n, nI_add, pk_mul, if_le_t, if_le_f, if_lt_t, if_lt_f, if_eq_t, if_eq_f, ↓ifb', x1301 h.1, x1303 h.1, h.S, h.T, m_of h, m_hasHearing h, m_meets h, e0, if_true]
  · unfold rmT
    cases anyF (fun c => mts s t i d q c && cs t c 5 == r) 0 (s 3) <;> rfl

theorem m_isOfficerTaken {w : Wd} {s t : Nat → Nat} (h : HM w s t) {i d q r : Nat} (hi : i < s 3) (hd : d < 2 ^ 31) (hq : q < 2000) (hr : r < 2 ^ 31) : f_X13_isOfficerTaken Kc 415 (nI i) (nI d) (nI q) (nI r) w = some (ofT s t i d q r, w) := by
  have h12 := h.gs.1.2.2.2
  have h3 := h.gs.1.1
  have h6 := h.gs.1.2.1
  unfold f_X13_isOfficerTaken
  simp only [il]
  refine (loop_any (fun f c => f_X13_isOfficerTaken_L3 Kc 415 (fun v1_3 v2_3 v3_3 v4_3 v5_3 w1 => some (false, w1)) f (nI i) (nI d) (nI q) (nI r) (nI c) w) (fun c => mts s t i d q c && cs t c 6 == r) (s 3) (some (true, w)) (some (false, w)) (fun f => ?_) (fun f c hc hp => ?_) (fun f c hc hp => ?_) (s 3) 0 fu (by omega) (fu_lt (by omega))).trans ?_
  · try dsimp only
    rw [f_X13_isOfficerTaken_L3]
    simp (disch := first | omega | assumption) only [il, Option.bind_some, ixa_n, nI_add, pk_mul, if_le_t, if_le_f, if_lt_t, if_lt_f, if_eq_t, if_eq_f, ↓ifb', x1301 h.1, x1303 h.1, h.S, h.T, m_of h, m_hasHearing h]
  · try dsimp only
    simp only [Bool.and_eq_true, beq_iff_eq] at hp
    have e1 := mts_hr hp.1
    have e2 := h.gt.hr (by omega) e1
    rw [f_X13_isOfficerTaken_L3]
    simp (disch := first | omega | assumption) only [il, Option.bind_some, ixa_n, nI_add, pk_mul, if_le_t, if_le_f, if_lt_t, if_lt_f, if_eq_t, if_eq_f, ↓ifb', x1301 h.1, x1303 h.1, h.S, h.T, m_of h, m_hasHearing h, m_meets h, hp.1, if_true]
  · try dsimp only
    rw [f_X13_isOfficerTaken_L3]
    cases e0 : mts s t i d q c
    · simp (disch := first | omega | assumption) only [il, Option.bind_some, ixa_n, nI_add, pk_mul, if_le_t, if_le_f, if_lt_t, if_lt_f, if_eq_t, if_eq_f, ↓ifb', x1301 h.1, x1303 h.1, h.S, h.T, m_of h, m_hasHearing h, m_meets h, e0, Bool.false_eq_true, if_false]
    · have e1 := mts_hr e0
      have e2 := h.gt.hr (by omega) e1
      have e3 : cs t c 6 ≠ r := by
        intro q
        simp [e0, q] at hp
      simp (disch := first | omega | assumption) only [il, Option.bind_some, ixa_n, nI_add, pk_mul, if_le_t, if_le_f, if_lt_t, if_lt_f, if_eq_t, if_eq_f, ↓ifb', x1301 h.1, x1303 h.1, h.S, h.T, m_of h, m_hasHearing h, m_meets h, e0, if_true]
  · unfold ofT
    cases anyF (fun c => mts s t i d q c && cs t c 6 == r) 0 (s 3) <;> rfl

theorem m_isWitnessTaken {w : Wd} {s t : Nat → Nat} (h : HM w s t) {i d q : Nat} (hi : i < s 3) (hd : d < 2 ^ 31) (hq : q < 2000) : f_X13_isWitnessTaken Kc 415 (nI i) (nI d) (nI q) w = some (wiT s t i d q, w) := by
  have h12 := h.gs.1.2.2.2
  have n1 := h.gs.nd hi
  unfold f_X13_isWitnessTaken
  simp only [il]
  refine (loop_any (fun f c => f_X13_isWitnessTaken_L3 Kc 415 (fun v1_3 v2_3 v3_3 v4_3 w1 => some (false, w1)) f (nI i) (nI d) (nI q) (nI c) w) (fun c => mts s t i d q c && !(s (136 + c) &&& s (136 + i) == 0)) (s 3) (some (true, w)) (some (false, w)) (fun f => ?_) (fun f c hc hp => ?_) (fun f c hc hp => ?_) (s 3) 0 fu (by omega) (fu_lt (by omega))).trans ?_
  · try dsimp only
    rw [f_X13_isWitnessTaken_L3]
    simp (disch := first | omega | assumption) only [il, Option.bind_some, ixa_n, nI_add, pk_mul, if_le_t, if_le_f, if_lt_t, if_lt_f, if_eq_t, if_eq_f, ↓ifb', x1301 h.1, x1303 h.1, h.S, h.T, m_of h, m_hasHearing h]
  · try dsimp only
    have n2 := h.gs.nd hc
    simp only [Bool.and_eq_true, Bool.not_eq_true', beq_eq_false_iff_ne, ne_eq] at hp
    rw [f_X13_isWitnessTaken_L3]
    simp (disch := first | omega | assumption) only [il, Option.bind_some, ixa_n, nI_add, pk_mul, if_le_t, if_le_f, if_lt_t, if_lt_f, if_eq_t, if_eq_f, ↓ifb', x1301 h.1, x1303 h.1, h.S, h.T, m_of h, m_hasHearing h, m_meets h, hp.1, if_true, z32]
    rw [if_neg hp.2]
  · try dsimp only
    have n2 := h.gs.nd hc
    rw [f_X13_isWitnessTaken_L3]
    cases e0 : mts s t i d q c
    · simp (disch := first | omega | assumption) only [il, Option.bind_some, ixa_n, nI_add, pk_mul, if_le_t, if_le_f, if_lt_t, if_lt_f, if_eq_t, if_eq_f, ↓ifb', x1301 h.1, x1303 h.1, h.S, h.T, m_of h, m_hasHearing h, m_meets h, e0, Bool.false_eq_true, if_false]
    · have e3 : s (136 + c) &&& s (136 + i) = 0 := by
        simpa [e0] using hp
      simp (disch := first | omega | assumption) only [il, Option.bind_some, ixa_n, nI_add, pk_mul, if_le_t, if_le_f, if_lt_t, if_lt_f, if_eq_t, if_eq_f, ↓ifb', x1301 h.1, x1303 h.1, h.S, h.T, m_of h, m_hasHearing h, m_meets h, e0, if_true, z32]
      rw [if_pos e3]
  · unfold wiT
    cases anyF (fun c => mts s t i d q c && !(s (136 + c) &&& s (136 + i) == 0)) 0 (s 3) <;> rfl
theorem m_isOutOfWindows {w : Wd} {s t : Nat → Nat} (h : HM w s t) {i d q : Nat} (hi : i < s 3) (hd : d < 2 ^ 31) (hq : q < 2000) : f_X13_isOutOfWindows Kc 415 (nI i) (nI d) (nI q) w = some (ouT s t i d q, w) := by
  have h12 := h.gs.1.2.2.2
  have h11 := h.gs.1.2.2.1
  have n1 := h.gs.nd hi
  have l1 := h.gs.ln hi
  unfold f_X13_isOutOfWindows
  simp (disch := first | omega | assumption) only [il, Option.bind_some, ixa_n, nI_add, pk_mul, if_le_t, if_le_f, if_lt_t, if_lt_f, if_eq_t, if_eq_f, ↓ifb', x1301 h.1, x1303 h.1, h.S, h.T, m_of h, m_hasHearing h, sub_nI]
  refine (loop_any (fun f c => f_X13_isOutOfWindows_L18 Kc 415 (fun v1_18 v2_18 v3_18 v4_18 v5_18 w3 => some (false, w3)) f (nI i) (nI d) (nI q) (nI (q + s (100 + i) - 1)) (nI c) w) (fun v => (s (136 + i)).testBit v && !inW s t i d q v) (s 2) (some (true, w)) (some (false, w)) (fun f => ?_) (fun f c hc hp => ?_) (fun f c hc hp => ?_) (s 2) 0 fu (by omega) (fu_lt (by omega))).trans ?_
  · try dsimp only
    rw [f_X13_isOutOfWindows_L18]
    simp (disch := first | omega | assumption) only [il, Option.bind_some, ixa_n, nI_add, pk_mul, if_le_t, if_le_f, if_lt_t, if_lt_f, if_eq_t, if_eq_f, ↓ifb', x1301 h.1, x1303 h.1, h.S, h.T, m_of h, m_hasHearing h]
  · try dsimp only
    have g1 := h.gs.2.2.2.1 c hc
    have g2 := h.gt.2.2.2.2.1 c (by omega)
    simp only [Bool.and_eq_true, Bool.not_eq_true'] at hp
    rw [f_X13_isOutOfWindows_L18]
    by_cases e1 : s (52 + c) ≤ d ∧ d < t (22 + c)
    · have e5 : decide ((s (52 + c) : Int) ≤ (d : Int) ∧ (d : Int) ≤ (t (22 + c) : Int) - 1) = true := by simp; omega
      have e6 : ¬ (s (64 + c) ≤ q ∧ q + s (100 + i) - 1 ≤ s (76 + c)) := by
        intro q
        simp [inW, e1, q] at hp
      by_cases e7 : s (64 + c) ≤ q
      · simp (disch := first | omega | assumption) only [il, Option.bind_some, ixa_n, nI_add, pk_mul, if_le_t, if_le_f, if_lt_t, if_lt_f, if_eq_t, if_eq_f, ↓ifb', x1301 h.1, x1303 h.1, h.S, h.T, m_of h, m_hasHearing h, m_has, hp.1, if_true, h.To, isIn_sp, i64_nI, m1_i64, e5]
      · simp (disch := first | omega | assumption) only [il, Option.bind_some, ixa_n, nI_add, pk_mul, if_le_t, if_le_f, if_lt_t, if_lt_f, if_eq_t, if_eq_f, ↓ifb', x1301 h.1, x1303 h.1, h.S, h.T, m_of h, m_hasHearing h, m_has, hp.1, if_true, h.To, isIn_sp, i64_nI, m1_i64, e5]
    · have e5 : decide ((s (52 + c) : Int) ≤ (d : Int) ∧ (d : Int) ≤ (t (22 + c) : Int) - 1) = false := by simp; omega
      simp (disch := first | omega | assumption) only [il, Option.bind_some, ixa_n, nI_add, pk_mul, if_le_t, if_le_f, if_lt_t, if_lt_f, if_eq_t, if_eq_f, ↓ifb', x1301 h.1, x1303 h.1, h.S, h.T, m_of h, m_hasHearing h, m_has, hp.1, if_true, h.To, isIn_sp, i64_nI, m1_i64, e5, Bool.false_eq_true, if_false]
  · try dsimp only
    have g1 := h.gs.2.2.2.1 c hc
    have g2 := h.gt.2.2.2.2.1 c (by omega)
    rw [f_X13_isOutOfWindows_L18]
    cases e0 : (s (136 + i)).testBit c
    · simp (disch := first | omega | assumption) only [il, Option.bind_some, ixa_n, nI_add, pk_mul, if_le_t, if_le_f, if_lt_t, if_lt_f, if_eq_t, if_eq_f, ↓ifb', x1301 h.1, x1303 h.1, h.S, h.T, m_of h, m_hasHearing h, m_has, e0, Bool.false_eq_true, if_false]
    · have e1 : inW s t i d q c = true := by simpa [e0] using hp
      simp only [inW, Bool.and_eq_true, decide_eq_true_eq] at e1
      have e5 : decide ((s (52 + c) : Int) ≤ (d : Int) ∧ (d : Int) ≤ (t (22 + c) : Int) - 1) = true := by simp; omega
      simp (disch := first | omega | assumption) only [il, Option.bind_some, ixa_n, nI_add, pk_mul, if_le_t, if_le_f, if_lt_t, if_lt_f, if_eq_t, if_eq_f, ↓ifb', x1301 h.1, x1303 h.1, h.S, h.T, m_of h, m_hasHearing h, m_has, e0, if_true, h.To, isIn_sp, i64_nI, m1_i64, e5]
  · unfold ouT
    cases anyF (fun v => (s (136 + i)).testBit v && !inW s t i d q v) 0 (s 2) <;> rfl
def okR (s t : Nat → Nat) (i d q r : Nat) : Bool := decide (s (4 + r) ≤ q ∧ q + s (100 + i) - 1 ≤ s (7 + r)) && !rmT s t i d q r
def okO (s t : Nat → Nat) (G : Int32) (i d q o : Nat) : Bool := !offS s G o d && (!ofT s t i d q o && !brd s t o i)
def okW (s t : Nat → Nat) (i d q : Nat) : Bool := !ouT s t i d q && !wiT s t i d q
def pbN (s t : Nat → Nat) (G : Int32) (i d q r o : Nat) : Nat :=
  if ¬ (s (4 + r) ≤ q ∧ q + s (100 + i) - 1 ≤ s (7 + r)) then 3 else if rmT s t i d q r = true then 4 else if offS s G o d = true then 5 else if ofT s t i d q o = true then 6 else
  if brd s t o i = true then 7 else if ouT s t i d q = true then 8 else if wiT s t i d q = true then 9 else 0
theorem pbN_0 {s t : Nat → Nat} {G : Int32} {i d q r o : Nat} : pbN s t G i d q r o = 0 ↔ (okR s t i d q r && okW s t i d q && okO s t G i d q o) = true := by
  unfold pbN okR okO okW
  by_cases e1 : s (4 + r) ≤ q ∧ q + s (100 + i) - 1 ≤ s (7 + r)
  · cases e2 : rmT s t i d q r <;> cases e3 : offS s G o d <;> cases e4 : ofT s t i d q o <;> cases e5 : brd s t o i <;> cases e6 : ouT s t i d q <;> cases e7 : wiT s t i d q <;> simp [e1]
  · rw [if_pos e1, decide_eq_false e1]
    simp
theorem pbN_le {s t : Nat → Nat} {G : Int32} {i d q r o : Nat} : pbN s t G i d q r o ≤ 9 := by
  unfold pbN
  repeat' split
  all_goals omega
theorem obd {α β : Type} {o : Option α} {x : α} {k : α → Option β} {r : Option β} (h : o = some x) (h2 : k x = r) : o.bind k = r := by subst h; exact h2
theorem obb {β : Type} {b : Bool} {w : Wd} {o : Option (Bool × Wd)} {f g : Bool × Wd → Option β} {r : Option β} (h : o = some (b, w)) (h0 : b = false → f (b, w) = r) (h1 : b = true → g (b, w) = r) : (o.bind fun q => if b2i q.1 = 0 then f q else g q) = r := by
  subst h
  cases b
  · exact h0 rfl
  · exact h1 rfl
theorem ixc (c : Nat) {n N : Nat} (h : c + n < N) (hN : N < 2 ^ 31) : ixa (@OfNat.ofNat Int32 c _ + nI n) N = some (c + n) := by
  rw [il, nI_add]
  exact ixa_n h hN
theorem m_problemOn {w : Wd} {s t : Nat → Nat} (h : HM w s t) {G : Int32} (hg : wI w 1315 415 = G) {i d q r o : Nat} (hi : i < s 3) (hd : d < 2 ^ 31) (hq : q < 2000) (hr : r < s 0) (ho : o < s 1) : f_X13_problemOn Kc 415 (nI i) (nI d) (nI q) (nI r) (nI o) w = some (nI (pbN s t G i d q r o), w) := by
  have h12 := h.gs.1.2.2.2
  have h3 := h.gs.1.1
  have h6 := h.gs.1.2.1
  have l1 := h.gs.ln hi
  have l2 := h.gs.2.1 r hr
  unfold f_X13_problemOn
  refine obd (x1301 h.1) (obd (ixc 4 (by omega) (by omega)) ?_)
  dsimp only
  rw [h.S (by omega)]
  by_cases e1 : s (4 + r) ≤ q
  · rw [if_lt_f (by omega) (by omega) e1]
    refine obd (ixc 100 (by omega) (by omega)) (obd (ixc 7 (by omega) (by omega)) ?_)
    rw [h.S (by omega), h.S (by omega), nI_add, show (1 : Int32) = nI 1 from rfl, sub_nI (by omega)]
    by_cases e2 : q + s (100 + i) - 1 ≤ s (7 + r)
    · rw [if_le_t (by omega) (by omega) e2]
      have hh : ¬ ¬ (s (4 + r) ≤ q ∧ q + s (100 + i) - 1 ≤ s (7 + r)) := not_not_intro ⟨e1, e2⟩
      refine obb (m_isRoomTaken h hi hd hq (by omega)) (fun a1 => ?_) (fun a1 => ?_)
      · refine obb (m_isOffOn h ho hd hg) (fun a2 => ?_) (fun a2 => ?_)
        · refine obb (m_isOfficerTaken h hi hd hq (by omega)) (fun a3 => ?_) (fun a3 => ?_)
          · refine obb (m_isBarredFrom h (by omega) hi) (fun a4 => ?_) (fun a4 => ?_)
            · refine obb (m_isOutOfWindows h hi hd hq) (fun a5 => ?_) (fun a5 => ?_)
              · refine obb (m_isWitnessTaken h hi hd hq) (fun a6 => ?_) (fun a6 => ?_)
                · have e : pbN s t G i d q r o = 0 := by unfold pbN offS; rw [if_neg hh]; simp only [a1, a2, a3, a4, a5, a6, Bool.false_eq_true, if_false]
                  rw [e]; rfl
                · have e : pbN s t G i d q r o = 9 := by unfold pbN offS; rw [if_neg hh]; simp only [a1, a2, a3, a4, a5, a6, Bool.false_eq_true, if_false, if_true]
                  rw [e]; rfl
              · have e : pbN s t G i d q r o = 8 := by unfold pbN offS; rw [if_neg hh]; simp only [a1, a2, a3, a4, a5, Bool.false_eq_true, if_false, if_true]
                rw [e]; rfl
            · have e : pbN s t G i d q r o = 7 := by unfold pbN offS; rw [if_neg hh]; simp only [a1, a2, a3, a4, Bool.false_eq_true, if_false, if_true]
              rw [e]; rfl
          · have e : pbN s t G i d q r o = 6 := by unfold pbN offS; rw [if_neg hh]; simp only [a1, a2, a3, Bool.false_eq_true, if_false, if_true]
            rw [e]; rfl
        · have e : pbN s t G i d q r o = 5 := by unfold pbN offS; rw [if_neg hh]; simp only [a1, a2, Bool.false_eq_true, if_false, if_true]
          rw [e]; rfl
      · have e : pbN s t G i d q r o = 4 := by unfold pbN; rw [if_neg hh]; simp only [a1, if_true]
        rw [e]; rfl
    · rw [if_le_f (by omega) (by omega) (by omega)]
      have e : pbN s t G i d q r o = 3 := by unfold pbN; rw [if_pos (fun x => e2 x.2)]
      rw [e]; rfl
  · rw [if_lt_t (by omega) (by omega) (by omega)]
    have e : pbN s t G i d q r o = 3 := by unfold pbN; rw [if_pos (fun x => e1 x.1)]
    rw [e]; rfl
def dyO (s t : Nat → Nat) (i d : Nat) : Bool := decide (d < t 0) || (decide (d < s (88 + i)) || !wkg t d)
theorem m_isDayOut {w : Wd} {s t : Nat → Nat} (h : HM w s t) {i d : Nat} (hi : i < s 3) (hd : d < 2 ^ 31) : f_X13_isDayOut Kc 415 (nI i) (nI d) w = some (dyO s t i d, w) := by
  have h12 := h.gs.1.2.2.2
  have g1 := (h.gs.2.2.2.2.1 i hi).1
  have g0 := h.gt.1
  unfold f_X13_isDayOut dyO
  by_cases e1 : d < t 0
  · simp (disch := first | omega | assumption) only [il, Option.bind_some, ixa_n, nI_add, pk_mul, if_le_t, if_le_f, if_lt_t, if_lt_f, if_eq_t, if_eq_f, ↓ifb', x1301 h.1, x1303 h.1, h.S, h.T, m_of h, m_hasHearing h]
    simp [e1]
  · by_cases e2 : d < s (88 + i)
    · simp (disch := first | omega | assumption) only [il, Option.bind_some, ixa_n, nI_add, pk_mul, if_le_t, if_le_f, if_lt_t, if_lt_f, if_eq_t, if_eq_f, ↓ifb', x1301 h.1, x1303 h.1, h.S, h.T, m_of h, m_hasHearing h]
      simp [e2]
    · simp (disch := first | omega | assumption) only [il, Option.bind_some, ixa_n, nI_add, pk_mul, if_le_t, if_le_f, if_lt_t, if_lt_f, if_eq_t, if_eq_f, ↓ifb', x1301 h.1, x1303 h.1, h.S, h.T, m_of h, m_hasHearing h, m_isWorking h]
      cases wkg t d <;> simp [e1, e2]
def flN (s t : Nat → Nat) (G : Int32) (i d q r o : Nat) : Nat := if dyO s t i d = true then 1 else if limD s t i < d then 2 else pbN s t G i d q r o
theorem m_problemOf {w : Wd} {s t : Nat → Nat} (h : HM w s t) {G : Int32} (hg : wI w 1315 415 = G) {i d q r o : Nat} (hi : i < s 3) (hd : d < 2 ^ 31) (hq : q < 2000) (hr : r < s 0) (ho : o < s 1) : f_X13_problemOf Kc 415 (nI i) (nI d) (nI q) (nI r) (nI o) w = some (nI (flN s t G i d q r o), w) := by
  have l3 := limD_le h.gs h.gt hi
  unfold f_X13_problemOf flN
  cases e : dyO s t i d
  · by_cases e2 : limD s t i < d
    · simp (disch := first | omega | assumption) only [il, Option.bind_some, ixa_n, nI_add, pk_mul, if_le_t, if_le_f, if_lt_t, if_lt_f, if_eq_t, if_eq_f, ↓ifb', x1301 h.1, x1303 h.1, h.S, h.T, m_of h, m_hasHearing h, m_isDayOut h, m_limitDay h hi, e, Bool.false_eq_true, if_false, if_pos e2]
    · simp (disch := first | omega | assumption) only [il, Option.bind_some, ixa_n, nI_add, pk_mul, if_le_t, if_le_f, if_lt_t, if_lt_f, if_eq_t, if_eq_f, ↓ifb', x1301 h.1, x1303 h.1, h.S, h.T, m_of h, m_hasHearing h, m_isDayOut h, m_limitDay h hi, m_problemOn h hg, e, Bool.false_eq_true, if_false, if_neg e2]
  · simp (disch := first | omega | assumption) only [il, Option.bind_some, ixa_n, nI_add, pk_mul, if_le_t, if_le_f, if_lt_t, if_lt_f, if_eq_t, if_eq_f, ↓ifb', x1301 h.1, x1303 h.1, h.S, h.T, m_of h, m_hasHearing h, m_isDayOut h, e, if_true]
