/-! Queries that answer: what each says of the setup s and the state t. -/
variable {X : Kd}
theorem n_re {w : Wd} {b : Nat} {s t : Nat → Nat} (h : HX w 73 b s t) {k : Nat} (hk : k < 4) {i : Nat} (hi : i < s k) : f_NX12_requireExisting (Kx X) 0 (nI k) (nI i) w = some w := by
  have hs := h.gs.1
  have hb : s k < 2 ^ 31 := by
    rcases (by omega : k = 0 ∨ k = 1 ∨ k = 2 ∨ k = 3) with e | e | e | e <;> subst e <;> omega
  unfold f_NX12_requireExisting
  rw [if_neg (nI_pos (by omega)), x1205 h.1, Option.bind_some, h.su, Option.bind_some, x_size h hk, Option.bind_some]
  try dsimp only
  rw [if_lt_t (by omega) hb hi]
theorem n_re0 {w : Wd} {b : Nat} {s t : Nat → Nat} (h : HX w 73 b s t) {i : Nat} (hi : i < s 0) : f_NX12_requireExisting (Kx X) 0 0 (nI i) w = some w := n_re h (k := 0) (by omega) hi
theorem n_re1 {w : Wd} {b : Nat} {s t : Nat → Nat} (h : HX w 73 b s t) {i : Nat} (hi : i < s 1) : f_NX12_requireExisting (Kx X) 0 1 (nI i) w = some w := n_re h (k := 1) (by omega) hi
theorem n_re3 {w : Wd} {b : Nat} {s t : Nat → Nat} (h : HX w 73 b s t) {i : Nat} (hi : i < s 3) : f_NX12_requireExisting (Kx X) 0 3 (nI i) w = some w := n_re h (k := 3) (by omega) hi
theorem n_reD {w : Wd} {d : Nat} (hd : d < 600) : f_NX12_requireDay (Kx X) 0 (nI d) w = some w := by
  unfold f_NX12_requireDay
  rw [if_neg (nI_pos (by omega)), show (600 : Int32) = nI 600 from rfl, if_lt_t (by omega) (by omega) hd]
theorem n_reS {w : Wd} {q : Nat} (hq : q < 8) : f_NX12_requireSlot (Kx X) 0 (nI q) w = some w := by
  unfold f_NX12_requireSlot
  rw [if_neg (nI_pos (by omega)), show (8 : Int32) = nI 8 from rfl, if_lt_t (by omega) (by omega) hq]
theorem n_reU {w : Wd} {b : Nat} {s t : Nat → Nat} (h : HX w 73 b s t) {i : Nat} (hi : i < 12) (hp : cs t i 0 ≤ 1) : f_NX12_requireUnfinished (Kx X) 0 (nI i) w = some w := by
  unfold f_NX12_requireUnfinished
  rw [x1205 h.1, Option.bind_some, h.pg, Option.bind_some]
  try dsimp only
  rw [ixa_n (by omega) (by omega), Option.bind_some, h.pe hi, Option.bind_some, h.p0 hi]
  rcases (by omega : cs t i 0 = 0 ∨ cs t i 0 = 1) with e | e
  · rw [e, if_pos (show nI 0 = 0 from rfl)]
  · rw [e, if_neg (show ¬ nI 1 = 0 by decide), if_pos (show nI 1 = 1 from rfl)]
theorem n_reP {w : Wd} {b : Nat} {s t : Nat → Nat} (h : HX w 73 b s t) {n : Nat} (h1 : 0 < n) (h2 : n ≤ 99) (h3 : t 0 + n < 600) : f_NX12_requirePassable (Kx X) 0 (nI n) w = some w := by
  unfold f_NX12_requirePassable
  rw [show (1 : Int32) = nI 1 from rfl, if_lt_f (by omega) (by omega) (by omega), show (99 : Int32) = nI 99 from rfl, if_lt_f (by omega) (by omega) (by omega), x1205 h.1, Option.bind_some, h.dy, nI_add, show (600 : Int32) = nI 600 from rfl, if_lt_t (by omega) (by omega) h3]
theorem n_matter1 {w : Wd} {b : Nat} {s t : Nat → Nat} (h : HX w 73 b s t) {i : Nat} (hi : i < s 3) : f_NX12_matter (Kx X) 0 (nI i) 1 w = some (nI (s (100 + i)), w) := by
  have hs := h.gs.1
  unfold f_NX12_matter
  rw [n_re3 h hi, Option.bind_some, x1205 h.1, Option.bind_some, h.su, Option.bind_some, h.mt, Option.bind_some]
  try dsimp only
  rw [ixa_n (by omega) (by omega), Option.bind_some, h.pg, Option.bind_some]
  try dsimp only
  rw [ixa_n (by omega) (by omega), Option.bind_some]
  rw [if_neg (show ¬ ((1 : Int32) < 0 ∨ 9 < (1 : Int32)) by decide), if_neg (show ¬ (1 : Int32) = 0 by decide), if_pos (show (1 : Int32) = 1 from rfl)]
  rw [h.me (by omega), Option.bind_some, h.f1 hi]
theorem n_matter3 {w : Wd} {b : Nat} {s t : Nat → Nat} (h : HX w 73 b s t) {i : Nat} (hi : i < s 3) : f_NX12_matter (Kx X) 0 (nI i) 3 w = some (nI (cs t i 1), w) := by
  have hs := h.gs.1
  unfold f_NX12_matter
  rw [n_re3 h hi, Option.bind_some, x1205 h.1, Option.bind_some, h.su, Option.bind_some, h.mt, Option.bind_some]
  try dsimp only
  rw [ixa_n (by omega) (by omega), Option.bind_some, h.pg, Option.bind_some]
  try dsimp only
  rw [ixa_n (by omega) (by omega), Option.bind_some]
  rw [if_neg (show ¬ ((3 : Int32) < 0 ∨ 9 < (3 : Int32)) by decide), if_neg (show ¬ (3 : Int32) = 0 by decide), if_neg (show ¬ (3 : Int32) = 1 by decide), if_neg (show ¬ (3 : Int32) = 2 by decide), if_pos (show (3 : Int32) = 3 from rfl)]
  rw [h.pe (by omega), Option.bind_some, h.p1 (by omega)]
theorem n_matter4 {w : Wd} {b : Nat} {s t : Nat → Nat} (h : HX w 73 b s t) {i : Nat} (hi : i < s 3) : f_NX12_matter (Kx X) 0 (nI i) 4 w = some (nI (limD s t i), w) := by
  have hs := h.gs.1
  unfold f_NX12_matter
  rw [n_re3 h hi, Option.bind_some, x1205 h.1, Option.bind_some, h.su, Option.bind_some, h.mt, Option.bind_some]
  try dsimp only
  rw [ixa_n (by omega) (by omega), Option.bind_some, h.pg, Option.bind_some]
  try dsimp only
  rw [ixa_n (by omega) (by omega), Option.bind_some]
  rw [if_neg (show ¬ ((4 : Int32) < 0 ∨ 9 < (4 : Int32)) by decide), if_neg (show ¬ (4 : Int32) = 0 by decide), if_neg (show ¬ (4 : Int32) = 1 by decide), if_neg (show ¬ (4 : Int32) = 2 by decide), if_neg (show ¬ (4 : Int32) = 3 by decide), if_pos (show (4 : Int32) = 4 from rfl)]
  rw [x_limitDay h hi, Option.bind_some]
theorem n_matter5 {w : Wd} {b : Nat} {s t : Nat → Nat} (h : HX w 73 b s t) {i : Nat} (hi : i < s 3) : f_NX12_matter (Kx X) 0 (nI i) 5 w = some (nI (cs t i 0), w) := by
  have hs := h.gs.1
  unfold f_NX12_matter
  rw [n_re3 h hi, Option.bind_some, x1205 h.1, Option.bind_some, h.su, Option.bind_some, h.mt, Option.bind_some]
  try dsimp only
  rw [ixa_n (by omega) (by omega), Option.bind_some, h.pg, Option.bind_some]
  try dsimp only
  rw [ixa_n (by omega) (by omega), Option.bind_some]
  rw [if_neg (show ¬ ((5 : Int32) < 0 ∨ 9 < (5 : Int32)) by decide), if_neg (show ¬ (5 : Int32) = 0 by decide), if_neg (show ¬ (5 : Int32) = 1 by decide), if_neg (show ¬ (5 : Int32) = 2 by decide), if_neg (show ¬ (5 : Int32) = 3 by decide), if_neg (show ¬ (5 : Int32) = 4 by decide), if_pos (show (5 : Int32) = 5 from rfl)]
  rw [h.pe (by omega), Option.bind_some, h.p0 (by omega)]
theorem n_matter6 {w : Wd} {b : Nat} {s t : Nat → Nat} (h : HX w 73 b s t) {i : Nat} (hi : i < s 3) : f_NX12_matter (Kx X) 0 (nI i) 6 w = some (b2i (s (124 + i) == 1), w) := by
  have hs := h.gs.1
  unfold f_NX12_matter
  rw [n_re3 h hi, Option.bind_some, x1205 h.1, Option.bind_some, h.su, Option.bind_some, h.mt, Option.bind_some]
  try dsimp only
  rw [ixa_n (by omega) (by omega), Option.bind_some, h.pg, Option.bind_some]
  try dsimp only
  rw [ixa_n (by omega) (by omega), Option.bind_some]
  rw [if_neg (show ¬ ((6 : Int32) < 0 ∨ 9 < (6 : Int32)) by decide), if_neg (show ¬ (6 : Int32) = 0 by decide), if_neg (show ¬ (6 : Int32) = 1 by decide), if_neg (show ¬ (6 : Int32) = 2 by decide), if_neg (show ¬ (6 : Int32) = 3 by decide), if_neg (show ¬ (6 : Int32) = 4 by decide), if_neg (show ¬ (6 : Int32) = 5 by decide), if_pos (show (6 : Int32) = 6 from rfl)]
  rw [h.me (by omega), Option.bind_some, h.f3 hi]
  cases s (124 + i) == 1 <;> rfl
theorem n_matter7 {w : Wd} {b : Nat} {s t : Nat → Nat} (h : HX w 73 b s t) {i : Nat} (hi : i < s 3) : f_NX12_matter (Kx X) 0 (nI i) 7 w = some (nI (cs t i 2), w) := by
  have hs := h.gs.1
  unfold f_NX12_matter
  rw [n_re3 h hi, Option.bind_some, x1205 h.1, Option.bind_some, h.su, Option.bind_some, h.mt, Option.bind_some]
  try dsimp only
  rw [ixa_n (by omega) (by omega), Option.bind_some, h.pg, Option.bind_some]
  try dsimp only
  rw [ixa_n (by omega) (by omega), Option.bind_some]
  rw [if_neg (show ¬ ((7 : Int32) < 0 ∨ 9 < (7 : Int32)) by decide), if_neg (show ¬ (7 : Int32) = 0 by decide), if_neg (show ¬ (7 : Int32) = 1 by decide), if_neg (show ¬ (7 : Int32) = 2 by decide), if_neg (show ¬ (7 : Int32) = 3 by decide), if_neg (show ¬ (7 : Int32) = 4 by decide), if_neg (show ¬ (7 : Int32) = 5 by decide), if_neg (show ¬ (7 : Int32) = 6 by decide), if_pos (show (7 : Int32) = 7 from rfl)]
  rw [h.pe (by omega), Option.bind_some, h.p6 (by omega)]
theorem n_hearing0 {w : Wd} {b : Nat} {s t : Nat → Nat} (h : HX w 73 b s t) {i : Nat} (hi : i < s 3) : f_NX12_hearing (Kx X) 0 (nI i) 0 w = some (if hrg t i = true then nI (cs t i 3) else -nI 1, w) := by
  have hs := h.gs.1
  unfold f_NX12_hearing
  rw [n_re3 h hi, Option.bind_some, x1205 h.1, Option.bind_some, h.pg, Option.bind_some]
  try dsimp only
  rw [ixa_n (by omega) (by omega), Option.bind_some]
  rw [if_neg (show ¬ ((0 : Int32) < 0 ∨ 3 < (0 : Int32)) by decide), if_pos (show (0 : Int32) = 0 from rfl)]
  rw [h.pe (by omega), Option.bind_some]
  cases q : hrg t i
  · rw [h.n2 (by omega) q]; rfl
  · rw [h.p2 (by omega) q]; rfl
theorem n_hearing1 {w : Wd} {b : Nat} {s t : Nat → Nat} (h : HX w 73 b s t) {i : Nat} (hi : i < s 3) : f_NX12_hearing (Kx X) 0 (nI i) 1 w = some (if hrg t i = true then nI (cs t i 4) else -nI 1, w) := by
  have hs := h.gs.1
  unfold f_NX12_hearing
  rw [n_re3 h hi, Option.bind_some, x1205 h.1, Option.bind_some, h.pg, Option.bind_some]
  try dsimp only
  rw [ixa_n (by omega) (by omega), Option.bind_some]
  rw [if_neg (show ¬ ((1 : Int32) < 0 ∨ 3 < (1 : Int32)) by decide), if_neg (show ¬ (1 : Int32) = 0 by decide), if_pos (show (1 : Int32) = 1 from rfl)]
  rw [h.pe (by omega), Option.bind_some]
  cases q : hrg t i
  · rw [h.n3 (by omega) q]; rfl
  · rw [h.p3 (by omega) q]; rfl
theorem n_hearing2 {w : Wd} {b : Nat} {s t : Nat → Nat} (h : HX w 73 b s t) {i : Nat} (hi : i < s 3) : f_NX12_hearing (Kx X) 0 (nI i) 2 w = some (if hrg t i = true then nI (cs t i 5) else -nI 1, w) := by
  have hs := h.gs.1
  unfold f_NX12_hearing
  rw [n_re3 h hi, Option.bind_some, x1205 h.1, Option.bind_some, h.pg, Option.bind_some]
  try dsimp only
  rw [ixa_n (by omega) (by omega), Option.bind_some]
  rw [if_neg (show ¬ ((2 : Int32) < 0 ∨ 3 < (2 : Int32)) by decide), if_neg (show ¬ (2 : Int32) = 0 by decide), if_neg (show ¬ (2 : Int32) = 1 by decide), if_pos (show (2 : Int32) = 2 from rfl)]
  rw [h.pe (by omega), Option.bind_some]
  cases q : hrg t i
  · rw [h.n4 (by omega) q]; rfl
  · rw [h.p4 (by omega) q]; rfl
theorem n_hearing3 {w : Wd} {b : Nat} {s t : Nat → Nat} (h : HX w 73 b s t) {i : Nat} (hi : i < s 3) : f_NX12_hearing (Kx X) 0 (nI i) 3 w = some (if hrg t i = true then nI (cs t i 6) else -nI 1, w) := by
  have hs := h.gs.1
  unfold f_NX12_hearing
  rw [n_re3 h hi, Option.bind_some, x1205 h.1, Option.bind_some, h.pg, Option.bind_some]
  try dsimp only
  rw [ixa_n (by omega) (by omega), Option.bind_some]
  rw [if_neg (show ¬ ((3 : Int32) < 0 ∨ 3 < (3 : Int32)) by decide), if_neg (show ¬ (3 : Int32) = 0 by decide), if_neg (show ¬ (3 : Int32) = 1 by decide), if_neg (show ¬ (3 : Int32) = 2 by decide), if_pos (show (3 : Int32) = 3 from rfl)]
  rw [h.pe (by omega), Option.bind_some]
  cases q : hrg t i
  · rw [h.n5 (by omega) q]; rfl
  · rw [h.p5 (by omega) q]; rfl
theorem n_adj {w : Wd} {b : Nat} {s t : Nat → Nat} (h : HX w 73 b s t) {i k : Nat} (hi : i < s 3) (hk : k < cs t i 2) : f_NX12_adjournment (Kx X) 0 (nI i) (nI k) 3 w = some (nI (cs t i (7 + (4 * k + 3))), w) := by
  have hs := h.gs.1
  have c3 := h.gt.c3 (i := i) (by omega)
  unfold f_NX12_adjournment
  rw [n_re3 h hi, Option.bind_some, x1205 h.1, Option.bind_some, h.pg, Option.bind_some]
  try dsimp only
  rw [ixa_n (by omega) (by omega), Option.bind_some, if_neg (nI_pos (by omega)), h.pe (by omega), Option.bind_some, h.p6 (by omega), if_le_f (by omega) (by omega) hk, if_neg (show ¬ (3 : Int32) < 0 by decide), if_pos (show (3 : Int32) < 4 by decide), tlg h.1 h.2.1.1 (i := i) (by omega), Option.bind_some]
  try dsimp only
  rw [show (4 : Int32) = nI 4 from rfl, show (3 : Int32) = nI 3 from rfl, pk_mul, nI_add]
  rw [ixa_n (by omega) (by omega), Option.bind_some, show k * 4 + 3 = 4 * k + 3 by omega, (h.2.2.2.1.2.2.2.2 i (by omega)).2.2.2.2.2 (4 * k + 3) (by omega)]
theorem n_caseAt {w : Wd} {b : Nat} {s t : Nat → Nat} (h : HX w 73 b s t) {r d q : Nat} (hr : r < s 0) (hd : d < 600) (hq : q < 8) : f_NX12_caseAt (Kx X) 0 (nI r) (nI d) (nI q) w = some (oI (fstF (tkn s t r d q) 0 (s 3)), w) := by
  have hs := h.gs.1
  unfold f_NX12_caseAt
  rw [n_re0 h hr, Option.bind_some, n_reD hd, Option.bind_some, n_reS hq, Option.bind_some, x1205 h.1, Option.bind_some, x_caseTaking h (by omega) (by omega) (by omega), Option.bind_some]
theorem n_load {w : Wd} {b : Nat} {s t : Nat → Nat} (h : HX w 73 b s t) {o : Nat} (ho : o < s 1) : f_NX12_load (Kx X) 0 (nI o) w = some (nI (loadN s t o (s 3)), w) := by
  have hs := h.gs.1
  unfold f_NX12_load
  rw [n_re1 h ho, Option.bind_some, x1205 h.1, Option.bind_some, x_loadOf h (by omega), Option.bind_some]
theorem n_problem {w : Wd} {b : Nat} {s t : Nat → Nat} (h : HX w 73 b s t) {i d q r o : Nat} (hi : i < s 3) (hd : d < 600) (hq : q < 8) (hr : r < s 0) (ho : o < s 1) (hp : cs t i 0 ≤ 1) : ∃ w', f_NX12_problem (Kx X) 0 (nI i) (nI d) (nI q) (nI r) (nI o) w = some (nI (flN s t (-nI 1) i d q r o), w') ∧ Off PL w w' := by
  have hs := h.gs.1
  obtain ⟨w1, x1, o1⟩ := x_faultOf (X := X) h hi (d := d) (by omega) hq hr ho
  refine ⟨w1, ?_, o1⟩
  unfold f_NX12_problem f_NX12_requireHearing
  rw [n_re3 h hi, Option.bind_some, n_re0 h hr, Option.bind_some, n_re1 h ho, Option.bind_some, n_reD hd, Option.bind_some, n_reS hq, Option.bind_some, Option.bind_some, n_reU h (by omega) hp, Option.bind_some, x1211 h.1, Option.bind_some, i1205 h.1, x1, Option.bind_some]
theorem n_openDays {w : Wd} {b : Nat} {s t : Nat → Nat} (h : HX w 73 b s t) {i : Nat} (hi : i < s 3) (hp : cs t i 0 ≤ 1) : ∃ w', f_NX12_openDays (Kx X) 0 (nI i) w = some (nI (cnD s t (-nI 1) i (limD s t i)), w') ∧ Off PL w w' := by
  have hs := h.gs.1
  obtain ⟨w1, x1, o1⟩ := x_countOpenDays (X := X) h hi
  refine ⟨w1, ?_, o1⟩
  unfold f_NX12_openDays
  rw [n_re3 h hi, Option.bind_some, n_reU h (by omega) hp, Option.bind_some, x1211 h.1, Option.bind_some, i1205 h.1, x1, Option.bind_some]
theorem n_opening0 {w : Wd} {b : Nat} {s t : Nat → Nat} (h : HX w 73 b s t) {i : Nat} (hi : i < s 3) (hp : cs t i 0 ≤ 1) : ∃ w', f_NX12_opening (Kx X) 0 (nI i) 0 w = some (match fa s t (-nI 1) i with | some (d, q, r, o) => nI d | none => -1, w') ∧ Off PL w w' := by
  have hs := h.gs.1
  have x1 := x_findFirst (X := X) h hi (AB0 hs.2.1)
  have xf : f_NX12_opening (Kx X) 0 (nI i) 0 w = ((f_X6_findFirst (Kx X) 404 (some 73) (nI i) (nI 0) w).bind fun q6 => if (b2i q6.1) = 0 then (some ((-1), q6.2)) else ((chk (Kx X) 5 (wR q6.2 1211 0)).bind fun a11 => some ((wI q6.2 608 a11), q6.2))) := by
    unfold f_NX12_opening
    rw [n_re3 h hi, Option.bind_some, if_neg (show ¬ (0 : Int32) < 0 by decide), if_pos (show (0 : Int32) ≤ 3 by decide), n_reU h (by omega) hp, Option.bind_some, x1211 h.1, Option.bind_some, i1205 h.1]
    refine congrArg (Option.bind (f_X6_findFirst (Kx X) 404 (some 73) (nI i) (nI 0) w)) (funext fun q6 => ?_)
    rw [if_neg (show ¬ ((0 : Int32) < 0 ∨ 2 < (0 : Int32)) by decide), if_pos (show (0 : Int32) = 0 from rfl)]
  rw [xf]
  cases q0 : fa s t (-nI 1) i with
  | none =>
    rw [q0] at x1
    obtain ⟨w1, x1, o1⟩ := x1
    exact ⟨w1, by rw [x1, Option.bind_some]; rfl, o1⟩
  | some z =>
    obtain ⟨d, q, r, o⟩ := z
    rw [q0] at x1
    obtain ⟨w1, x1, o1⟩ := x1
    have f1 : FX (setG w1 d q r o) := (((o1.FX h.1).sI).sI).sI.sI
    refine ⟨setG w1 d q r o, ?_, o1.trans setG_off⟩
    rw [x1, Option.bind_some]
    try dsimp only
    rw [ib_t, x1211 f1, Option.bind_some]
    simp [setG, wI_sI]
theorem n_opening1 {w : Wd} {b : Nat} {s t : Nat → Nat} (h : HX w 73 b s t) {i : Nat} (hi : i < s 3) (hp : cs t i 0 ≤ 1) : ∃ w', f_NX12_opening (Kx X) 0 (nI i) 1 w = some (match fa s t (-nI 1) i with | some (d, q, r, o) => nI q | none => -1, w') ∧ Off PL w w' := by
  have hs := h.gs.1
  have x1 := x_findFirst (X := X) h hi (AB0 hs.2.1)
  have xf : f_NX12_opening (Kx X) 0 (nI i) 1 w = ((f_X6_findFirst (Kx X) 404 (some 73) (nI i) (nI 0) w).bind fun q6 => if (b2i q6.1) = 0 then (some ((-1), q6.2)) else ((chk (Kx X) 5 (wR q6.2 1211 0)).bind fun a11 => some ((wI q6.2 609 a11), q6.2))) := by
    unfold f_NX12_opening
    rw [n_re3 h hi, Option.bind_some, if_neg (show ¬ (1 : Int32) < 0 by decide), if_pos (show (1 : Int32) ≤ 3 by decide), n_reU h (by omega) hp, Option.bind_some, x1211 h.1, Option.bind_some, i1205 h.1]
    refine congrArg (Option.bind (f_X6_findFirst (Kx X) 404 (some 73) (nI i) (nI 0) w)) (funext fun q6 => ?_)
    rw [if_neg (show ¬ ((1 : Int32) < 0 ∨ 2 < (1 : Int32)) by decide), if_neg (show ¬ (1 : Int32) = 0 by decide), if_pos (show (1 : Int32) = 1 from rfl)]
  rw [xf]
  cases q0 : fa s t (-nI 1) i with
  | none =>
    rw [q0] at x1
    obtain ⟨w1, x1, o1⟩ := x1
    exact ⟨w1, by rw [x1, Option.bind_some]; rfl, o1⟩
  | some z =>
    obtain ⟨d, q, r, o⟩ := z
    rw [q0] at x1
    obtain ⟨w1, x1, o1⟩ := x1
    have f1 : FX (setG w1 d q r o) := (((o1.FX h.1).sI).sI).sI.sI
    refine ⟨setG w1 d q r o, ?_, o1.trans setG_off⟩
    rw [x1, Option.bind_some]
    try dsimp only
    rw [ib_t, x1211 f1, Option.bind_some]
    simp [setG, wI_sI]
theorem n_opening2 {w : Wd} {b : Nat} {s t : Nat → Nat} (h : HX w 73 b s t) {i : Nat} (hi : i < s 3) (hp : cs t i 0 ≤ 1) : ∃ w', f_NX12_opening (Kx X) 0 (nI i) 2 w = some (match fa s t (-nI 1) i with | some (d, q, r, o) => nI r | none => -1, w') ∧ Off PL w w' := by
  have hs := h.gs.1
  have x1 := x_findFirst (X := X) h hi (AB0 hs.2.1)
  have xf : f_NX12_opening (Kx X) 0 (nI i) 2 w = ((f_X6_findFirst (Kx X) 404 (some 73) (nI i) (nI 0) w).bind fun q6 => if (b2i q6.1) = 0 then (some ((-1), q6.2)) else ((chk (Kx X) 5 (wR q6.2 1211 0)).bind fun a11 => some ((wI q6.2 610 a11), q6.2))) := by
    unfold f_NX12_opening
    rw [n_re3 h hi, Option.bind_some, if_neg (show ¬ (2 : Int32) < 0 by decide), if_pos (show (2 : Int32) ≤ 3 by decide), n_reU h (by omega) hp, Option.bind_some, x1211 h.1, Option.bind_some, i1205 h.1]
    refine congrArg (Option.bind (f_X6_findFirst (Kx X) 404 (some 73) (nI i) (nI 0) w)) (funext fun q6 => ?_)
    rw [if_neg (show ¬ ((2 : Int32) < 0 ∨ 2 < (2 : Int32)) by decide), if_neg (show ¬ (2 : Int32) = 0 by decide), if_neg (show ¬ (2 : Int32) = 1 by decide), if_pos (show (2 : Int32) = 2 from rfl)]
  rw [xf]
  cases q0 : fa s t (-nI 1) i with
  | none =>
    rw [q0] at x1
    obtain ⟨w1, x1, o1⟩ := x1
    exact ⟨w1, by rw [x1, Option.bind_some]; rfl, o1⟩
  | some z =>
    obtain ⟨d, q, r, o⟩ := z
    rw [q0] at x1
    obtain ⟨w1, x1, o1⟩ := x1
    have f1 : FX (setG w1 d q r o) := (((o1.FX h.1).sI).sI).sI.sI
    refine ⟨setG w1 d q r o, ?_, o1.trans setG_off⟩
    rw [x1, Option.bind_some]
    try dsimp only
    rw [ib_t, x1211 f1, Option.bind_some]
    simp [setG, wI_sI]
theorem n_opening3 {w : Wd} {b : Nat} {s t : Nat → Nat} (h : HX w 73 b s t) {i : Nat} (hi : i < s 3) (hp : cs t i 0 ≤ 1) : ∃ w', f_NX12_opening (Kx X) 0 (nI i) 3 w = some (match fa s t (-nI 1) i with | some (d, q, r, o) => nI o | none => -1, w') ∧ Off PL w w' := by
  have hs := h.gs.1
  have x1 := x_findFirst (X := X) h hi (AB0 hs.2.1)
  have xf : f_NX12_opening (Kx X) 0 (nI i) 3 w = ((f_X6_findFirst (Kx X) 404 (some 73) (nI i) (nI 0) w).bind fun q6 => if (b2i q6.1) = 0 then (some ((-1), q6.2)) else ((chk (Kx X) 5 (wR q6.2 1211 0)).bind fun a11 => some ((wI q6.2 611 a11), q6.2))) := by
    unfold f_NX12_opening
    rw [n_re3 h hi, Option.bind_some, if_neg (show ¬ (3 : Int32) < 0 by decide), if_pos (show (3 : Int32) ≤ 3 by decide), n_reU h (by omega) hp, Option.bind_some, x1211 h.1, Option.bind_some, i1205 h.1]
    refine congrArg (Option.bind (f_X6_findFirst (Kx X) 404 (some 73) (nI i) (nI 0) w)) (funext fun q6 => ?_)
    rw [if_pos (show ((3 : Int32) < 0 ∨ 2 < (3 : Int32)) by decide)]
  rw [xf]
  cases q0 : fa s t (-nI 1) i with
  | none =>
    rw [q0] at x1
    obtain ⟨w1, x1, o1⟩ := x1
    exact ⟨w1, by rw [x1, Option.bind_some]; rfl, o1⟩
  | some z =>
    obtain ⟨d, q, r, o⟩ := z
    rw [q0] at x1
    obtain ⟨w1, x1, o1⟩ := x1
    have f1 : FX (setG w1 d q r o) := (((o1.FX h.1).sI).sI).sI.sI
    refine ⟨setG w1 d q r o, ?_, o1.trans setG_off⟩
    rw [x1, Option.bind_some]
    try dsimp only
    rw [ib_t, x1211 f1, Option.bind_some]
    simp [setG, wI_sI]
theorem n_count7 {w : Wd} {b : Nat} {s t : Nat → Nat} (h : HX w 73 b s t) : f_X12_count (Kx X) 0 7 w = some (nI (t 0), w) := by
  unfold f_X12_count
  rw [if_neg (show ¬ ((7 : Int32) < 0 ∨ 13 < (7 : Int32)) by decide), if_neg (show ¬ (7 : Int32) = 0 by decide), if_neg (show ¬ (7 : Int32) = 1 by decide), if_neg (show ¬ (7 : Int32) = 2 by decide), if_neg (show ¬ (7 : Int32) = 3 by decide), if_neg (show ¬ (7 : Int32) = 4 by decide), if_neg (show ¬ (7 : Int32) = 5 by decide), if_neg (show ¬ (7 : Int32) = 6 by decide), if_pos (show (7 : Int32) = 7 from rfl)]
  rw [x1205 h.1, Option.bind_some, h.dy]
theorem n_count8 {w : Wd} {b : Nat} {s t : Nat → Nat} (h : HX w 73 b s t) : f_X12_count (Kx X) 0 8 w = some (nI (s 164), w) := by
  unfold f_X12_count
  rw [if_neg (show ¬ ((8 : Int32) < 0 ∨ 13 < (8 : Int32)) by decide), if_neg (show ¬ (8 : Int32) = 0 by decide), if_neg (show ¬ (8 : Int32) = 1 by decide), if_neg (show ¬ (8 : Int32) = 2 by decide), if_neg (show ¬ (8 : Int32) = 3 by decide), if_neg (show ¬ (8 : Int32) = 4 by decide), if_neg (show ¬ (8 : Int32) = 5 by decide), if_neg (show ¬ (8 : Int32) = 6 by decide), if_neg (show ¬ (8 : Int32) = 7 by decide), if_pos (show (8 : Int32) = 8 from rfl)]
  rw [x1205 h.1, Option.bind_some, h.su, Option.bind_some, h.2.2.1.2.2.2.2.2.2.2]
theorem n_count9 {w : Wd} {b : Nat} {s t : Nat → Nat} (h : HX w 73 b s t) : f_X12_count (Kx X) 0 9 w = some (wI w 1210 0, w) := by
  unfold f_X12_count
  rw [if_neg (show ¬ ((9 : Int32) < 0 ∨ 13 < (9 : Int32)) by decide), if_neg (show ¬ (9 : Int32) = 0 by decide), if_neg (show ¬ (9 : Int32) = 1 by decide), if_neg (show ¬ (9 : Int32) = 2 by decide), if_neg (show ¬ (9 : Int32) = 3 by decide), if_neg (show ¬ (9 : Int32) = 4 by decide), if_neg (show ¬ (9 : Int32) = 5 by decide), if_neg (show ¬ (9 : Int32) = 6 by decide), if_neg (show ¬ (9 : Int32) = 7 by decide), if_neg (show ¬ (9 : Int32) = 8 by decide), if_pos (show (9 : Int32) = 9 from rfl)]
  skip
theorem n_count10 {w : Wd} {b : Nat} {s t : Nat → Nat} (h : HX w 73 b s t) : f_X12_count (Kx X) 0 10 w = some (nI (cnt (fun i => cs t i 0 == 0) (s 3)), w) := by
  unfold f_X12_count
  rw [if_neg (show ¬ ((10 : Int32) < 0 ∨ 13 < (10 : Int32)) by decide), if_neg (show ¬ (10 : Int32) = 0 by decide), if_neg (show ¬ (10 : Int32) = 1 by decide), if_neg (show ¬ (10 : Int32) = 2 by decide), if_neg (show ¬ (10 : Int32) = 3 by decide), if_neg (show ¬ (10 : Int32) = 4 by decide), if_neg (show ¬ (10 : Int32) = 5 by decide), if_neg (show ¬ (10 : Int32) = 6 by decide), if_neg (show ¬ (10 : Int32) = 7 by decide), if_neg (show ¬ (10 : Int32) = 8 by decide), if_neg (show ¬ (10 : Int32) = 9 by decide), if_pos (show (10 : Int32) = 10 from rfl)]
  rw [x1205 h.1, Option.bind_some, show (0 : Int32) = nI 0 from rfl, x_countPhase h (by omega), Option.bind_some]
theorem n_count11 {w : Wd} {b : Nat} {s t : Nat → Nat} (h : HX w 73 b s t) : f_X12_count (Kx X) 0 11 w = some (nI (cnt (fun i => cs t i 0 == 1) (s 3)), w) := by
  unfold f_X12_count
  rw [if_neg (show ¬ ((11 : Int32) < 0 ∨ 13 < (11 : Int32)) by decide), if_neg (show ¬ (11 : Int32) = 0 by decide), if_neg (show ¬ (11 : Int32) = 1 by decide), if_neg (show ¬ (11 : Int32) = 2 by decide), if_neg (show ¬ (11 : Int32) = 3 by decide), if_neg (show ¬ (11 : Int32) = 4 by decide), if_neg (show ¬ (11 : Int32) = 5 by decide), if_neg (show ¬ (11 : Int32) = 6 by decide), if_neg (show ¬ (11 : Int32) = 7 by decide), if_neg (show ¬ (11 : Int32) = 8 by decide), if_neg (show ¬ (11 : Int32) = 9 by decide), if_neg (show ¬ (11 : Int32) = 10 by decide), if_pos (show (11 : Int32) = 11 from rfl)]
  rw [x1205 h.1, Option.bind_some, show (1 : Int32) = nI 1 from rfl, x_countPhase h (by omega), Option.bind_some]
theorem n_count12 {w : Wd} {b : Nat} {s t : Nat → Nat} (h : HX w 73 b s t) : f_X12_count (Kx X) 0 12 w = some (nI (cnt (fun i => cs t i 0 == 2) (s 3)), w) := by
  unfold f_X12_count
  rw [if_neg (show ¬ ((12 : Int32) < 0 ∨ 13 < (12 : Int32)) by decide), if_neg (show ¬ (12 : Int32) = 0 by decide), if_neg (show ¬ (12 : Int32) = 1 by decide), if_neg (show ¬ (12 : Int32) = 2 by decide), if_neg (show ¬ (12 : Int32) = 3 by decide), if_neg (show ¬ (12 : Int32) = 4 by decide), if_neg (show ¬ (12 : Int32) = 5 by decide), if_neg (show ¬ (12 : Int32) = 6 by decide), if_neg (show ¬ (12 : Int32) = 7 by decide), if_neg (show ¬ (12 : Int32) = 8 by decide), if_neg (show ¬ (12 : Int32) = 9 by decide), if_neg (show ¬ (12 : Int32) = 10 by decide), if_neg (show ¬ (12 : Int32) = 11 by decide), if_pos (show (12 : Int32) = 12 from rfl)]
  rw [x1205 h.1, Option.bind_some, show (2 : Int32) = nI 2 from rfl, x_countPhase h (by omega), Option.bind_some]
theorem n_count13 {w : Wd} {b : Nat} {s t : Nat → Nat} (h : HX w 73 b s t) : f_X12_count (Kx X) 0 13 w = some (nI (cnt (fun i => cs t i 0 == 3) (s 3)), w) := by
  unfold f_X12_count
  rw [if_neg (show ¬ ((13 : Int32) < 0 ∨ 13 < (13 : Int32)) by decide), if_neg (show ¬ (13 : Int32) = 0 by decide), if_neg (show ¬ (13 : Int32) = 1 by decide), if_neg (show ¬ (13 : Int32) = 2 by decide), if_neg (show ¬ (13 : Int32) = 3 by decide), if_neg (show ¬ (13 : Int32) = 4 by decide), if_neg (show ¬ (13 : Int32) = 5 by decide), if_neg (show ¬ (13 : Int32) = 6 by decide), if_neg (show ¬ (13 : Int32) = 7 by decide), if_neg (show ¬ (13 : Int32) = 8 by decide), if_neg (show ¬ (13 : Int32) = 9 by decide), if_neg (show ¬ (13 : Int32) = 10 by decide), if_neg (show ¬ (13 : Int32) = 11 by decide), if_neg (show ¬ (13 : Int32) = 12 by decide), if_pos (show (13 : Int32) = 13 from rfl)]
  rw [x1205 h.1, Option.bind_some, show (3 : Int32) = nI 3 from rfl, x_countPhase h (by omega), Option.bind_some]
