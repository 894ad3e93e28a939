/-! What the setup's reader takes, token by token, where all is well. -/
variable {X : Kd}
theorem ft_takes {w0 wx : Wd} {n : Nat} {bf : Nat → Int32} {b p0 p : Nat} {c s t : Nat → Nat} {nm : Nat → Nat → List Nat} {i : Nat} (hi : i < 21) (hx : XQr w0 wx n bf b p0 p c s t nm) (e : ktT n bf p = i) : ∃ wx', f_X5_takes (Kx X) 36 (some i) wx = some (true, wx') ∧ XQr w0 wx' n bf b p0 (enT n bf p) c s t nm ∧ Fr S37 NA wx wx' := by
  have h4 := hx.1.2.2.2.2.1.2.2.1
  obtain ⟨wx', ex, hx', rx⟩ := hx.adv (X := X)
  refine ⟨wx', ?_, hx', rx.mono (fun f x q => Or.inl q) (fun _ q => q)⟩
  unfold f_X5_takes
  rw [x500 hx.1.1, Option.bind_some, h4, tk_B, Option.bind_some, tk_B2 hi, Option.bind_some, if_pos (show some (ktT n bf p) = some i by rw [e]), ex, Option.bind_some]
theorem ft_number {w0 wx : Wd} {n : Nat} {bf : Nat → Int32} {b p0 p : Nat} {c s t : Nat → Nat} {nm : Nat → Nat → List Nat} (hx : XQr w0 wx n bf b p0 p c s t nm) {la lb v : Nat} (hlb : lb < 2 ^ 31) {a1 b1 : Int32} (ha1 : a1 = nI la) (hb1 : b1 = nI lb) (e : ktT n bf p = 17) (ev : nuA n bf p = v) (c1 : la ≤ v ∧ v ≤ lb) : ∃ wx', f_X5_takesNumber (Kx X) 36 a1 b1 wx = some (true, wx') ∧ XQr w0 wx' n bf b p0 (enT n bf p) c s t nm ∧ Fr S37 NA wx wx' ∧ wI wx' 505 36 = wI wx 505 36 ∧ wI wx' 504 36 = nI v := by
  subst ha1 hb1
  obtain ⟨x1, x2, x3, x4, x5⟩ := hx.1.2.2.2.2.1
  have x6 : wI wx 806 37 = nI v := by rw [← ev]; exact x5 e
  have k0 := hx.t36 (f := 504) (v := nI v) (by omega) (by omega)
  obtain ⟨wx', ex, hx', rx⟩ := k0.adv (X := X)
  have r1 : Fr S37 NA wx (sI wx 504 36 (nI v)) := fr_sI (Or.inr ⟨rfl, by omega, by omega⟩)
  refine ⟨wx', ?_, hx', r1.trans (rx.mono (fun f x q => Or.inl q) (fun _ q => q)), by rw [(rx.1 505 36 (by unfold SCx; omega)).1, wI_sI, if_neg (by omega)], by rw [(rx.1 504 36 (by unfold SCx; omega)).1, wI_sI, if_pos ⟨rfl, rfl⟩]⟩
  unfold f_X5_takesNumber f_X5_seesNumber
  rw [x500 hx.1.1, Option.bind_some, x3, tk_B, Option.bind_some, if_pos (show some (ktT n bf p) = some 17 by rw [e]), x6, if_lt_f (by omega) (by omega) c1.1, if_le_t (by omega) hlb c1.2, Option.bind_some]
  try dsimp only
  rw [ib_t, x500 hx.1.1, Option.bind_some, x6, Option.bind_some, x500 k0.1.1, Option.bind_some, ex, Option.bind_some]
theorem ft_span {w0 wx : Wd} {n : Nat} {bf : Nat → Int32} {b p0 p : Nat} {c s t : Nat → Nat} {nm : Nat → Nat → List Nat} (hx : XQr w0 wx n bf b p0 p c s t nm) {lb lo hi : Nat} (hlb : lb < 2 ^ 31) {b1 : Int32} (hb1 : b1 = nI lb) (e : ktT n bf p = 17) (ev : nuA n bf p = lo) (e' : ktT n bf (enT n bf p) = 17) (ev' : nuA n bf (enT n bf p) = hi) (c1 : lo ≤ hi ∧ hi ≤ lb) : ∃ wx', f_X5_takesSpan (Kx X) 36 b1 wx = some (true, wx') ∧ XQr w0 wx' n bf b p0 (enT n bf (enT n bf p)) c s t nm ∧ Fr S37 NA wx wx' ∧ wI wx' 505 36 = nI lo ∧ wI wx' 506 36 = nI hi := by
  subst hb1
  obtain ⟨w1, x1, h1, r1, k5, k4⟩ := ft_number (X := X) hx (la := 0) (lb := lb) (v := lo) hlb (a1 := 0) rfl rfl e ev (by omega)
  have h2 := h1.t36 (f := 505) (v := nI lo) (by omega) (by omega)
  have w5 : wI (sI w1 505 36 (nI lo)) 505 36 = nI lo := by rw [wI_sI, if_pos ⟨rfl, rfl⟩]
  obtain ⟨w2, x2, h3, r2, k5', k4'⟩ := ft_number (X := X) h2 (la := lo) (lb := lb) (v := hi) hlb rfl rfl e' ev' c1
  have h4 := h3.t36 (f := 506) (v := nI hi) (by omega) (by omega)
  refine ⟨sI w2 506 36 (nI hi), ?_, h4, r1.trans (Fr.trans (fr_sI (Or.inr ⟨rfl, by omega, by omega⟩)) (r2.trans (fr_sI (Or.inr ⟨rfl, by omega, by omega⟩)))), by rw [wI_sI, if_neg (by omega), k5', w5], by rw [wI_sI, if_pos ⟨rfl, rfl⟩]⟩
  unfold f_X5_takesSpan
  rw [x1, Option.bind_some]
  try dsimp only
  rw [ib_t, k4, Option.bind_some, w5, x2, Option.bind_some]
  try dsimp only
  rw [ib_t, k4', Option.bind_some]
theorem ft_newName {w0 wx : Wd} {n : Nat} {bf : Nat → Int32} {b p0 p : Nat} {c s t : Nat → Nat} {nm : Nat → Nat → List Nat} {q : Nat} {l : List Nat} (hq : q < 4) (hx : XQr w0 wx n bf b p0 p c s t nm) (g : BD c s) (c1 : c q < nmL q) (hN : ∀ i, i < c q → NmOK (nm q i)) {qi : Int32} (hqi : qi = nI q) (c2 : ktT n bf (enT n bf p) = 16) (el : nmA n bf (enT n bf p) = l) (hfr : ∀ i, i < c q → nm q i ≠ l) : ∃ wx', f_X5_takesNewName (Kx X) 36 qi wx = some (true, wx') ∧ XQr w0 wx' n bf b p0 (enT n bf (enT n bf p)) (ups c q (c q + 1)) s t (nmU nm q (c q) l) ∧ NmOK l := by
  subst hqi
  have hb := hx.1.2.1
  have m12 := nmL_12 q
  obtain ⟨wx1, ex1, hx1, rx1⟩ := hx.adv (X := X)
  have nk := nm_ok hx1.1.2.2.1.1 c2
  have t3 := tk_nm.mp c2
  have j1 : wJ wx1 805 37 = nJ (pkX l) := by rw [← el]; exact hx1.1.2.2.2.2.1.2.2.2.1 t3.1 t3.2.2
  rw [el] at nk
  have ix := x_indexOf (X := X) (w := wx1) (o := b + 14 + 2 * q) (n := c q) (nm := nm q) (l := l) (hx1.2.1 q hq) (unp hx1.1.1 hb hq) (by omega) m12 (fun i hi => ⟨hx1.2.2.1 q i hq hi, hN i hi⟩) nk
  have c3 : whN (nm q) l (c q) = none := fstF_none _ _ (fun i _ hi => decide_eq_false (hfr i (by omega)))
  rw [c3] at ix
  have k1 := XQr_name hx1 g hq l
  obtain ⟨wx2, ex2, hx2, _⟩ := k1.adv (X := X)
  refine ⟨wx2, ?_, hx2, nk⟩
  unfold f_X5_takesNewName f_X4_isFull
  rw [ck hx.1.2.2.2.2.2.1 (kSU hb), Option.bind_some, u900 hx.1.1 hb, Option.bind_some]
  try dsimp only
  rw [ixa_n (by omega) (by omega), Option.bind_some, unm hx.1.1 hb hq, Option.bind_some, unp hx.1.1 hb hq, Option.bind_some, hx.2.1 q hq]
  try dsimp only
  rw [if_lt_t (by omega) (by omega) c1, Option.bind_some, ib_f, x500 hx.1.1, Option.bind_some, ex1, Option.bind_some, x500 hx1.1.1, Option.bind_some, hx1.1.2.2.2.2.1.2.2.1, tk_B, Option.bind_some, if_pos (show some (ktT n bf (enT n bf p)) = some 16 by rw [c2]), j1, ix, Option.bind_some, if_pos (show oI none = -1 from rfl), x500 hx1.1.1, Option.bind_some, j1]
  unfold f_X4_add
  rw [unp hx1.1.1 hb hq, Option.bind_some, hx1.2.1 q hq]
  try dsimp only
  rw [if_le_f (by omega) (by omega) c1, ixa_n c1 (by omega), Option.bind_some, Option.bind_some, show wI (tJ wx1 (b + 15 + 2 * q) (c q) (nJ (pkX l))) 401 (b + 14 + 2 * q) = nI (c q) from hx1.2.1 q hq, show nI (c q) + 1 = nI (c q + 1) from nI_add (c q) 1, Option.bind_some, Option.bind_some, x500 k1.1.1, Option.bind_some, ex2, Option.bind_some]
theorem ft_known {w0 wx : Wd} {n : Nat} {bf : Nat → Int32} {b p0 p : Nat} {c s t : Nat → Nat} {nm : Nat → Nat → List Nat} {q j : Nat} {l : List Nat} (hq : q < 4) (hx : XQr w0 wx n bf b p0 p c s t nm) (hcq : c q ≤ nmL q) (hN : ∀ i, i < c q → NmOK (nm q i)) {qi : Int32} (hqi : qi = nI q) (c2 : ktT n bf p = 16) (el : nmA n bf p = l) (hj : j < c q) (hjl : nm q j = l) (hfr : ∀ i, i < j → nm q i ≠ l) : f_X5_seesToldName (Kx X) 36 qi wx = some (true, sI wx 504 36 (nI j)) ∧ XQr w0 (sI wx 504 36 (nI j)) n bf b p0 p c s t nm := by
  subst hqi
  have hb := hx.1.2.1
  have m12 := nmL_12 q
  have nk := nm_ok hx.1.2.2.1.1 c2
  have t3 := tk_nm.mp c2
  have j1 : wJ wx 805 37 = nJ (pkX l) := by rw [← el]; exact hx.1.2.2.2.2.1.2.2.2.1 t3.1 t3.2.2
  rw [el] at nk
  have ix := x_indexOf (X := X) (w := wx) (o := b + 14 + 2 * q) (n := c q) (nm := nm q) (l := l) (hx.2.1 q hq) (unp hx.1.1 hb hq) hcq m12 (fun i hi => ⟨hx.2.2.1 q i hq hi, hN i hi⟩) nk
  have c3 : whN (nm q) l (c q) = some j := fstF_at _ _ _ (Nat.zero_le _) (by omega) (decide_eq_true hjl) (fun i _ hi => decide_eq_false (hfr i hi))
  rw [c3] at ix
  refine ⟨?_, hx.t36 (f := 504) (v := nI j) (by omega) (by omega)⟩
  have w5 : wI (sI wx 504 36 (oI (some j))) 504 36 = nI j := by rw [wI_sI, if_pos ⟨rfl, rfl⟩]; rfl
  unfold f_X5_seesToldName
  rw [x500 hx.1.1, Option.bind_some, hx.1.2.2.2.2.1.2.2.1, tk_B, Option.bind_some, if_pos (show some (ktT n bf p) = some 16 by rw [c2]), ck hx.1.2.2.2.2.2.1 (kSU hb), Option.bind_some, u900 hx.1.1 hb, Option.bind_some]
  try dsimp only
  rw [ixa_n (by omega) (by omega), Option.bind_some, unm hx.1.1 hb hq, Option.bind_some, j1, ix, Option.bind_some, Option.bind_some, w5, if_neg (show ¬ nI j = (-1 : Int32) from fun z => by
    have h1 : (nI j).toInt = (j : Int) := nI_toInt (by omega)
    rw [z, show (-1 : Int32).toInt = -1 by decide] at h1
    omega)]
  rfl
