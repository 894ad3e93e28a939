variable {X : Kd}
def setG (w : Wd) (d q r o : Nat) : Wd := sI (sI (sI (sI w 610 404 (nI r)) 611 404 (nI o)) 608 404 (nI d)) 609 404 (nI q)
theorem setG_off {w : Wd} {d q r o : Nat} : Off PL w (setG w d q r o) := (((off_sI ⟨by omega, by omega⟩).trans (off_sI ⟨by omega, by omega⟩)).trans (off_sI ⟨by omega, by omega⟩)).trans (off_sI ⟨by omega, by omega⟩)
theorem setG_608 {w : Wd} {d q r o : Nat} : wI (setG w d q r o) 608 404 = nI d := by simp [setG, wI_sI]
theorem setG_609 {w : Wd} {d q r o : Nat} : wI (setG w d q r o) 609 404 = nI q := by simp [setG, wI_sI]
theorem setG_610 {w : Wd} {d q r o : Nat} : wI (setG w d q r o) 610 404 = nI r := by simp [setG, wI_sI]
theorem setG_611 {w : Wd} {d q r o : Nat} : wI (setG w d q r o) 611 404 = nI o := by simp [setG, wI_sI]
theorem setG_LO {w : Wd} {d q r o i : Nat} {s t : Nat → Nat} (h : LO w s t i) : LO (setG w d q r o) s t i := ⟨by simp [setG, wI_sI]; exact h.1, h.2⟩
def goR (w : Wd) (d : Nat) : Option (Nat × Nat × Nat) → Option (Bool × Wd)
  | some (q, r, o) => some (true, setG w d q r o)
  | none => some (false, w)
theorem x_findOn {w : Wd} {a b : Nat} {s t : Nat → Nat} (h : HX w a b s t) {G : Int32} {i d ab : Nat} (hi : i < s 3) (hd : d < 2 ^ 31) (hab : AB s G ab) (hO : LO w s t i) (hw : wkg t d = true) : ∃ w1, f_X6_findOn (Kx X) 404 (some a) (nI i) (nI d) (nI ab) w = goR w1 d (fo s t G i d) ∧ Off PL w w1 ∧ LO w1 s t i := by
  have h6 := h.gs.1.2.1
  have h12 := h.gs.1.2.2.2
  have l1 := h.gs.ln hi
  obtain ⟨w1, e1, o1, LK1, LD1⟩ := x_lookAtDay (X := X) h hi hd hab.1
  have k1 := o1.HX h PL_ge
  have hO1 : LO w1 s t i := ⟨LK1.1.trans hO.1, fun o ho => by rw [LK1.2]; exact hO.2 o ho⟩
  refine ⟨w1, ?_, o1, hO1⟩
  unfold f_X6_findOn
  rw [h.ca, Option.bind_some]
  try dsimp only
  rw [x_works h hd, Option.bind_some, hw]
  try dsimp only
  rw [if_neg (by decide)]
  try dsimp only
  rw [e1, Option.bind_some, k1.su, Option.bind_some]
  try dsimp only
  rw [k1.mt, Option.bind_some]
  try dsimp only
  rw [ixa_n (by omega) (by omega), Option.bind_some, k1.me (by omega), Option.bind_some, k1.f1 hi]
  refine (loop_fst (fun f c => f_X6_findOn_L36 (Kx X) 404 (fun v1_36 v2_36 v3_36 v4_36 v5_36 v6_36 w9 => some (false, w9)) f (some a) (nI i) (nI d) (nI ab) (nI (s (100 + i))) (nI c) w1) (fun q => (rmF s t G i d q).isSome) (9 - s (100 + i)) (fun q => match rmF s t G i d q with
    | some r => some (true, setG w1 d q r ((bst s t G i d q r (s 1)).getD 0))
    | none => none) (some (false, w1)) (fun f => ?_) (fun f c hc hp => ?_) (fun f c hc hp => ?_) (9 - s (100 + i)) 0 fu (by omega) (fu_lt (by omega))).trans ?_
  · try dsimp only
    rw [f_X6_findOn_L36]
    simp (disch := first | omega | assumption) only [il, Option.bind_some, ixa_n, nI_add, pk_mul, if_le_t, if_le_f, if_lt_t, if_lt_f, if_eq_t, if_eq_f, ↓ifb']
  · try dsimp only
    have bs : sset c (s (100 + i)) < 4096 := sset_lt (by omega)
    have bW : wiN s t i d (s 3) < 2 ^ 12 := tkG_lt h.gs h.gt (by omega)
    have bU := ouN_lt (t := t) h.gs (u := s (136 + i)) (d := d) (n := s 2) (by omega)
    have zo : ouN s t (s (136 + i)) d (s 2) ||| wiN s t i d (s 3) < 2 ^ 32 := Nat.or_lt_two_pow (n := 32) bU (by omega)
    have z0 : (nI (sset c (s (100 + i))) &&& nI (ouN s t (s (136 + i)) d (s 2) ||| wiN s t i d (s 3)) = nI 0) ↔ okW s t i d c = true := by
      rw [zN (by omega) zo, or_z, ouN_z h.gs hi (by omega), wiN, tkG_z h.gs hi]
      unfold okW wiT
      rw [Bool.and_eq_true, Bool.not_eq_true', Bool.not_eq_true']
    obtain ⟨r, er⟩ := Option.isSome_iff_exists.mp hp
    have er2 := er
    rw [rmF_okl] at er2
    by_cases ek : (okW s t i d c && (okl s t G i d c (s 1)).isSome) = true
    · rw [if_pos ek] at er2
      have hr := fstF_p _ _ _ er2
      simp only [Bool.and_eq_true] at ek
      obtain ⟨o, eo⟩ := Option.isSome_iff_exists.mp ek.2
      rw [f_X6_findOn_L36]
      have eb : bst s t G i d c r (s 1) = some o := by rw [bst_okl, hr.2.2, ek.1]; exact eo
      simp (disch := first | omega | assumption) only [il, Option.bind_some, ixa_n, nI_add, pk_mul, if_le_t, if_le_f, if_lt_t, if_lt_f, if_eq_t, if_eq_f, ↓ifb', x_slotSet, LD1.2.1, LD1.2.2.1, or_nI, z0, if_pos ek.1, k1.ca, x_findIn k1 hi hd (show c + s (100 + i) < 9 by omega) hab hO1 LD1, eo, er2, er, eb, if_true]
      rfl
    · rw [if_neg ek] at er2
      cases er2
  · try dsimp only
    have bs : sset c (s (100 + i)) < 4096 := sset_lt (by omega)
    have bW : wiN s t i d (s 3) < 2 ^ 12 := tkG_lt h.gs h.gt (by omega)
    have bU := ouN_lt (t := t) h.gs (u := s (136 + i)) (d := d) (n := s 2) (by omega)
    have zo : ouN s t (s (136 + i)) d (s 2) ||| wiN s t i d (s 3) < 2 ^ 32 := Nat.or_lt_two_pow (n := 32) bU (by omega)
    have z0 : (nI (sset c (s (100 + i))) &&& nI (ouN s t (s (136 + i)) d (s 2) ||| wiN s t i d (s 3)) = nI 0) ↔ okW s t i d c = true := by
      rw [zN (by omega) zo, or_z, ouN_z h.gs hi (by omega), wiN, tkG_z h.gs hi]
      unfold okW wiT
      rw [Bool.and_eq_true, Bool.not_eq_true', Bool.not_eq_true']
    have er : rmF s t G i d c = none := by simpa using hp
    rw [rmF_okl] at er
    rw [f_X6_findOn_L36]
    cases ew : okW s t i d c
    · have ew2 : ¬ (okW s t i d c = true) := by rw [ew]; decide
      simp (disch := first | omega | assumption) only [il, Option.bind_some, ixa_n, nI_add, pk_mul, if_le_t, if_le_f, if_lt_t, if_lt_f, if_eq_t, if_eq_f, ↓ifb', x_slotSet, LD1.2.1, LD1.2.2.1, or_nI, z0, if_neg ew2]
    · cases eo : okl s t G i d c (s 1) with
      | none =>
        simp (disch := first | omega | assumption) only [il, Option.bind_some, ixa_n, nI_add, pk_mul, if_le_t, if_le_f, if_lt_t, if_lt_f, if_eq_t, if_eq_f, ↓ifb', x_slotSet, LD1.2.1, LD1.2.2.1, or_nI, z0, if_pos ew, k1.ca, x_findIn k1 hi hd (show c + s (100 + i) < 9 by omega) hab hO1 LD1, eo, Bool.false_eq_true, if_false]
      | some o =>
        rw [ew, eo] at er
        have er2 : fstF (okR s t i d c) 0 (s 0) = none := er
        simp (disch := first | omega | assumption) only [il, Option.bind_some, ixa_n, nI_add, pk_mul, if_le_t, if_le_f, if_lt_t, if_lt_f, if_eq_t, if_eq_f, ↓ifb', x_slotSet, LD1.2.1, LD1.2.2.1, or_nI, z0, if_pos ew, k1.ca, x_findIn k1 hi hd (show c + s (100 + i) < 9 by omega) hab hO1 LD1, eo, er2, Bool.false_eq_true, if_false]
  · unfold fo qF
    cases e : fstF (fun q => (rmF s t G i d q).isSome) 0 (9 - s (100 + i)) with
    | none => rfl
    | some q =>
      obtain ⟨r, er⟩ := Option.isSome_iff_exists.mp (fstF_p _ _ _ e).2.2
      simp [er, goR]
theorem x_findOn0 {w : Wd} {a b : Nat} {s t : Nat → Nat} (h : HX w a b s t) {i d ab : Nat} (hd : d < 2 ^ 31) (hw : wkg t d = false) : f_X6_findOn (Kx X) 404 (some a) (nI i) (nI d) (nI ab) w = some (false, w) := by
  unfold f_X6_findOn
  rw [h.ca, Option.bind_some]
  try dsimp only
  rw [x_works h hd, Option.bind_some, hw]
  rfl
theorem dyO_m {s t : Nat → Nat} {i c : Nat} (h1 : t 0 ≤ c) (h2 : s (88 + i) ≤ c) : dyO s t i c = !wkg t c := by
  unfold dyO
  rw [decide_eq_false (by omega), decide_eq_false (by omega)]
  rfl
theorem dyO_l {s t : Nat → Nat} {i c : Nat} (h : c < t 0 ∨ c < s (88 + i)) : dyO s t i c = true := by
  unfold dyO
  rcases h with h | h
  · rw [decide_eq_true h]; rfl
  · rw [decide_eq_true h]; simp
def mxN (a b : Nat) : Nat := if a < b then b else a
theorem imax_nI {a b : Nat} (ha : a < 2 ^ 31) (hb : b < 2 ^ 31) : imax (nI a) (nI b) = nI (mxN a b) := by
  unfold imax mxN
  by_cases e : a < b
  · rw [if_lt_t ha hb e, if_pos e]
  · rw [if_lt_f ha hb (by omega), if_neg e]
theorem imin_nI {a b : Nat} (ha : a < 2 ^ 31) (hb : b < 2 ^ 31) : imin (nI a) (nI b) = nI (if b < a then b else a) := by
  unfold imin
  by_cases e : b < a
  · rw [if_lt_t hb ha e, if_pos e]
  · rw [if_lt_f hb ha (by omega), if_neg e]
def faQ (w : Wd) : Option (Nat × Nat × Nat × Nat) → Option (Bool × Wd) → Prop
  | some (d, q, r, o), x => ∃ w1, x = some (true, setG w1 d q r o) ∧ Off PL w w1
  | none, x => ∃ w1, x = some (false, w1) ∧ Off PL w w1
theorem x_firstDay {w : Wd} {a b : Nat} {s t : Nat → Nat} (h : HX w a b s t) {i : Nat} (hi : i < s 3) : f_X6_firstDay (Kx X) (some a) (nI i) w = some (nI (mxN (t 0) (s (88 + i))), w) := by
  have h12 := h.gs.1.2.2.2
  have g0 := h.gt.1
  have g1 := (h.gs.2.2.2.2.1 i hi).1
  unfold f_X6_firstDay
  simp (disch := first | omega | assumption) only [il, Option.bind_some, ixa_n, nI_add, pk_mul, if_le_t, if_le_f, if_lt_t, if_lt_f, if_eq_t, if_eq_f, ↓ifb', h.su, x_size h, h.pg, h.pe, h.mt, h.me, h.p0, h.p1, h.p6, h.p2, h.p3, h.p4, h.p5, h.n2, h.n3, h.n4, h.n5, h.f0, h.f1, h.f2, h.f4, h.f5, h.dy, h.ca, imax_nI]
theorem x_lastDay {w : Wd} {a b : Nat} {s t : Nat → Nat} (h : HX w a b s t) {i : Nat} (hi : i < s 3) : f_X6_lastDay (Kx X) (some a) (nI i) w = some (nI (limD s t i), w) := by
  have l3 := limD_le h.gs h.gt hi
  have e := x_limitDay (X := X) h hi
  unfold f_X6_lastDay
  generalize limD s t i = L at *
  rw [h.ca, Option.bind_some, e, Option.bind_some, show (599 : Int32) = nI 599 from rfl, imin_nI (by omega) (by omega), if_neg (by omega)]
theorem x_findFirstL {w : Wd} {a b : Nat} {s t : Nat → Nat} (h : HX w a b s t) {G : Int32} {i ab L : Nat} (hi : i < s 3) (hL : L ≤ 421) (hab : AB s G ab) (hO : LO w s t i) : faQ w (faL s t G i L) (f_X6_findFirst_L20 (Kx X) 404 (fun v1_20 v2_20 v3_20 v4_20 v5_20 w4 => some (false, w4)) fu (some a) (nI i) (nI ab) (nI L) (nI (mxN (t 0) (s (88 + i)))) w) := by
  have g0 := h.gt.1
  have g1 := (h.gs.2.2.2.2.1 i hi).1
  have hm : t 0 ≤ mxN (t 0) (s (88 + i)) ∧ s (88 + i) ≤ mxN (t 0) (s (88 + i)) ∧ mxN (t 0) (s (88 + i)) < 700 ∧ ∀ j, j < mxN (t 0) (s (88 + i)) → j < t 0 ∨ j < s (88 + i) := by
    unfold mxN
    split
    · exact ⟨by omega, by omega, by omega, fun j hj => by omega⟩
    · exact ⟨by omega, by omega, by omega, fun j hj => by omega⟩
  generalize mxN (t 0) (s (88 + i)) = m at *
  have hpre : ∀ j, j < m → opn s t G i j = false := fun j hj => by
    unfold opn
    rw [dyO_l (hm.2.2.2 j hj)]
    rfl
  have hend : ∀ n, L + 1 ≤ n → (∀ j, j < n → opn s t G i j = false) → faL s t G i L = none := fun n hn hj => by
    unfold faL
    rw [fstF_none _ _ (fun k k1 k2 => hj k (by omega))]
  by_cases e0 : m ≤ L + 1
  · refine loop_q (fun f c w1 => f_X6_findFirst_L20 (Kx X) 404 (fun v1_20 v2_20 v3_20 v4_20 v5_20 w4 => some (false, w4)) f (some a) (nI i) (nI ab) (nI L) (nI c) w1) (fun c w1 => m ≤ c ∧ Off PL w w1 ∧ LO w1 s t i ∧ ∀ j, j < c → opn s t G i j = false) (faQ w (faL s t G i L)) (L + 1) (fun f w1 hI => ?_) (fun f c w1 hc hI ih => ?_) fu m w ⟨by omega, Off.rf, hO, hpre⟩ e0 (fu_lt (by omega))
    · rw [hend (L + 1) (by omega) hI.2.2.2]
      try dsimp only
      rw [f_X6_findFirst_L20]
      simp (disch := first | omega | assumption) only [il, Option.bind_some, ixa_n, nI_add, pk_mul, if_le_t, if_le_f, if_lt_t, if_lt_f, if_eq_t, if_eq_f, ↓ifb']
      exact ⟨w1, rfl, hI.2.1⟩
    · try dsimp only at ih ⊢
      have h1 := hI.2.1.HX h PL_ge
      rw [f_X6_findFirst_L20, if_lt_f (by omega) (by omega) (by omega)]
      cases e1 : wkg t c
      · rw [x_findOn0 h1 (by omega) e1, Option.bind_some, show nI c + 1 = nI (c + 1) from nI_add c 1]
        refine ih _ ⟨by omega, hI.2.1, hI.2.2.1, fun j hj => ?_⟩
        by_cases ej : j = c
        · subst ej
          unfold opn
          rw [dyO_m (by omega) (by omega), e1]
          rfl
        · exact hI.2.2.2 j (by omega)
      · obtain ⟨w2, e2, o2, O2⟩ := x_findOn (X := X) h1 hi (show c < 2 ^ 31 by omega) hab hI.2.2.1 e1
        rw [e2]
        cases e3 : fo s t G i c with
        | none =>
          unfold goR
          rw [Option.bind_some, show nI c + 1 = nI (c + 1) from nI_add c 1]
          refine ih _ ⟨by omega, hI.2.1.trans o2, O2, fun j hj => ?_⟩
          by_cases ej : j = c
          · subst ej
            unfold opn
            rw [e3]
            simp
          · exact hI.2.2.2 j (by omega)
        | some x =>
          obtain ⟨q, r, o⟩ := x
          have e4 : faL s t G i L = some (c, q, r, o) := by
            unfold faL
            rw [fstF_at (L + 1 - t 0) (t 0) c (by omega) (by omega) (by unfold opn; rw [dyO_m (by omega) (by omega), e1, e3]; rfl) (fun j _ hj => hI.2.2.2 j hj)]
            try dsimp only
            rw [e3]
          unfold goR
          rw [e4, Option.bind_some]
          exact ⟨w2, rfl, hI.2.1.trans o2⟩
  · rw [hend m (by omega) hpre]
    obtain ⟨g, eg⟩ : ∃ g, fu = g + 1 := ⟨fu - 1, by have := fu_lt (n := 5) (by omega); omega⟩
    rw [eg, f_X6_findFirst_L20]
    simp (disch := first | omega | assumption) only [il, Option.bind_some, ixa_n, nI_add, pk_mul, if_le_t, if_le_f, if_lt_t, if_lt_f, if_eq_t, if_eq_f, ↓ifb']
    exact ⟨w, rfl, Off.rf⟩
theorem faQ_off {w w1 : Wd} {x : Option (Nat × Nat × Nat × Nat)} {r : Option (Bool × Wd)} (h : Off PL w w1) (k : faQ w1 x r) : faQ w x r := by
  match x, k with
  | some (d, q, r, o), ⟨w2, e, o2⟩ => exact ⟨w2, e, h.trans o2⟩
  | none, ⟨w2, e, o2⟩ => exact ⟨w2, e, h.trans o2⟩
theorem x_findFirst {w : Wd} {a b : Nat} {s t : Nat → Nat} (h : HX w a b s t) {G : Int32} {i ab : Nat} (hi : i < s 3) (hab : AB s G ab) : faQ w (fa s t G i) (f_X6_findFirst (Kx X) 404 (some a) (nI i) (nI ab) w) := by
  have l3 := limD_le h.gs h.gt hi
  obtain ⟨w1, e1, o1, LO1⟩ := x_lookAtOfficers (X := X) h hi
  have k1 := o1.HX h PL_ge
  have e := x_findFirstL (X := X) k1 (G := G) hi l3 hab LO1
  have e2 := x_lastDay (X := X) k1 hi
  unfold f_X6_findFirst fa
  generalize limD s t i = L at *
  rw [e1, Option.bind_some, e2, Option.bind_some]
  try dsimp only
  rw [x_firstDay k1 hi, Option.bind_some]
  exact faQ_off o1 e
def cn (p : Nat → Bool) (c n : Nat) : Nat := cnt (fun k => p (c + k)) n
theorem cn_succ {p : Nat → Bool} {c n : Nat} : cn p c (n + 1) = cn p c n + bn (p (c + n)) := rfl
theorem cn_z {p : Nat → Bool} {c : Nat} : ∀ n, (∀ j, c ≤ j → j < c + n → p j = false) → cn p c n = 0
  | 0, _ => rfl
  | n + 1, h => by
    rw [cn_succ, cn_z n (fun j h1 h2 => h j h1 (by omega)), h (c + n) (by omega) (by omega)]
    rfl
def cnD (s t : Nat → Nat) (G : Int32) (i L : Nat) : Nat := cn (opn s t G i) (t 0) (L + 1 - t 0)
theorem x_countOpenL {w : Wd} {a b : Nat} {s t : Nat → Nat} (h : HX w a b s t) {i L : Nat} (hi : i < s 3) (hL : L ≤ 421) (hO : LO w s t i) : ∃ w', f_X6_countOpenDays_L22 (Kx X) 404 (fun v1_22 v2_22 v3_22 v4_22 v5_22 w4 => some (v4_22, w4)) fu (some a) (nI i) (nI L) (nI 0) (nI (mxN (t 0) (s (88 + i)))) w = some (nI (cnD s t (-nI 1) i L), w') ∧ Off PL w w' := by
  have g0 := h.gt.1
  have g1 := (h.gs.2.2.2.2.1 i hi).1
  have hab := AB0 h.gs.1.2.1
  have hm : t 0 ≤ mxN (t 0) (s (88 + i)) ∧ s (88 + i) ≤ mxN (t 0) (s (88 + i)) ∧ mxN (t 0) (s (88 + i)) < 700 ∧ ∀ j, j < mxN (t 0) (s (88 + i)) → j < t 0 ∨ j < s (88 + i) := by
    unfold mxN
    split
    · exact ⟨by omega, by omega, by omega, fun j hj => by omega⟩
    · exact ⟨by omega, by omega, by omega, fun j hj => by omega⟩
  generalize mxN (t 0) (s (88 + i)) = m at *
  have hpre : ∀ j, j < m → opn s t (-nI 1) i j = false := fun j hj => by
    unfold opn
    rw [dyO_l (hm.2.2.2 j hj)]
    rfl
  by_cases e0 : m ≤ L + 1
  · have em : nI 0 = nI (cn (opn s t (-nI 1) i) (t 0) (m - t 0)) := by rw [cn_z _ (fun j _ h2 => hpre j (by omega))]
    rw [em]
    refine loop_q (fun f c w1 => f_X6_countOpenDays_L22 (Kx X) 404 (fun v1_22 v2_22 v3_22 v4_22 v5_22 w4 => some (v4_22, w4)) f (some a) (nI i) (nI L) (nI (cn (opn s t (-nI 1) i) (t 0) (c - t 0))) (nI c) w1) (fun c w1 => m ≤ c ∧ Off PL w w1 ∧ LO w1 s t i) (fun r => ∃ w', r = some (nI (cnD s t (-nI 1) i L), w') ∧ Off PL w w') (L + 1) (fun f w1 hI => ?_) (fun f c w1 hc hI ih => ?_) fu m w ⟨by omega, Off.rf, hO⟩ e0 (fu_lt (by omega))
    · try dsimp only
      rw [f_X6_countOpenDays_L22]
      simp (disch := first | omega | assumption) only [il, Option.bind_some, ixa_n, nI_add, pk_mul, if_le_t, if_le_f, if_lt_t, if_lt_f, if_eq_t, if_eq_f, ↓ifb']
      exact ⟨w1, rfl, hI.2.1⟩
    · try dsimp only at ih ⊢
      have h1 := hI.2.1.HX h PL_ge
      rw [show c + 1 - t 0 = (c - t 0) + 1 by omega, cn_succ, show t 0 + (c - t 0) = c by omega] at ih
      rw [f_X6_countOpenDays_L22, if_lt_f (by omega) (by omega) (by omega)]
      cases e1 : wkg t c
      · have eo : opn s t (-nI 1) i c = false := by unfold opn; rw [dyO_m (by omega) (by omega), e1]; rfl
        rw [show (0 : Int32) = nI 0 from rfl, x_findOn0 h1 (by omega) e1, Option.bind_some, show nI c + 1 = nI (c + 1) from nI_add c 1]
        rw [eo] at ih
        exact ih _ ⟨by omega, hI.2.1, hI.2.2⟩
      · obtain ⟨w2, e2, o2, O2⟩ := x_findOn (X := X) h1 hi (show c < 2 ^ 31 by omega) hab hI.2.2 e1
        rw [show f_X6_findOn (Kx X) 404 (some a) (nI i) (nI c) 0 w1 = goR w2 c (fo s t (-nI 1) i c) from e2]
        cases e3 : fo s t (-nI 1) i c with
        | none =>
          have eo : opn s t (-nI 1) i c = false := by unfold opn; rw [e3]; simp
          unfold goR
          rw [Option.bind_some, show nI c + 1 = nI (c + 1) from nI_add c 1]
          rw [eo] at ih
          exact ih _ ⟨by omega, hI.2.1.trans o2, O2⟩
        | some x =>
          obtain ⟨q, r, o⟩ := x
          have eo : opn s t (-nI 1) i c = true := by unfold opn; rw [dyO_m (by omega) (by omega), e1, e3]; rfl
          unfold goR
          rw [Option.bind_some, show nI c + 1 = nI (c + 1) from nI_add c 1]
          rw [eo] at ih
          try dsimp only
          rw [if_neg (by decide), show ∀ x, nI x + 1 = nI (x + 1) from fun x => nI_add x 1]
          exact ih _ ⟨by omega, (hI.2.1.trans o2).trans setG_off, setG_LO O2⟩
  · have ez : cnD s t (-nI 1) i L = 0 := cn_z _ (fun j _ h2 => hpre j (by omega))
    rw [ez]
    obtain ⟨g, eg⟩ : ∃ g, fu = g + 1 := ⟨fu - 1, by have := fu_lt (n := 5) (by omega); omega⟩
    rw [eg, f_X6_countOpenDays_L22]
    simp (disch := first | omega | assumption) only [il, Option.bind_some, ixa_n, nI_add, pk_mul, if_le_t, if_le_f, if_lt_t, if_lt_f, if_eq_t, if_eq_f, ↓ifb']
    exact ⟨w, rfl, Off.rf⟩
theorem x_countOpenDays {w : Wd} {a b : Nat} {s t : Nat → Nat} (h : HX w a b s t) {i : Nat} (hi : i < s 3) : ∃ w', f_X6_countOpenDays (Kx X) 404 (some a) (nI i) w = some (nI (cnD s t (-nI 1) i (limD s t i)), w') ∧ Off PL w w' := by
  have l3 := limD_le h.gs h.gt hi
  obtain ⟨w1, e1, o1, LO1⟩ := x_lookAtOfficers (X := X) h hi
  have k1 := o1.HX h PL_ge
  have e := x_countOpenL (X := X) k1 hi l3 LO1
  have e2 := x_lastDay (X := X) k1 hi
  unfold f_X6_countOpenDays
  generalize limD s t i = L at *
  rw [e1, Option.bind_some, e2, Option.bind_some]
  try dsimp only
  rw [x_firstDay k1 hi, Option.bind_some]
  obtain ⟨w2, e3, o2⟩ := e
  exact ⟨w2, e3, o1.trans o2⟩

