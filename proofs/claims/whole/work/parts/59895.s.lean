/-! Reading a setup: both sides step by step. -/
def cS (s : Nat → Nat) (k : Nat) : Nat := if k < 4 then s k else if k = 4 then s 2 else s 3
def GD (s t : Nat → Nat) (nm : Nat → Nat → List Nat) : Prop := GoodS s ∧ GoodT s t ∧ (t 0 = 0 ∧ ∀ k, 46 ≤ k → k < 370 → t k = 0) ∧ (∀ k i, k < 4 → i < s k → NmOK (nm k i)) ∧ (∀ o, s 1 ≤ o → o < 6 → s (10 + o) = 0) ∧ (∀ i, s 3 ≤ i → i < 12 → s (124 + i) = 0 ∧ s (136 + i) = 0 ∧ s (148 + i) = 0) ∧ (∀ k, k < 4 → s (166 + k) ≤ 1) ∧ s 165 ≤ 1
def Lk (w0 m0 : Wd) (n : Nat) (bf : Nat → Int32) (b p0 : Nat) (rx : Option (Bool × Wd)) (rm : Option Wd) : Prop := (∃ e wx wm, rx = some (false, wx) ∧ rm = some wm ∧ XFl w0 wx b e ∧ MFl m0 wm e) ∨ ∃ p s t nm wx wm, rx = some (true, wx) ∧ rm = some wm ∧ XQr w0 wx n bf b p0 p (cS s) s t nm ∧ MQr m0 wm n bf p (cS s) s t nm ∧ GD s t nm
theorem tk_B {n p : Nat} {bf : Nat → Int32} : grd (tkB (some (ktT n bf p)) = true) = some () := by
  have := (tk_o (n := n) (bf := bf) (p := p)).2.2.2.1
  unfold grd
  rw [if_pos]
  exact decide_eq_true (by omega)
theorem tk_B2 {i : Nat} (hi : i < 21) : grd (tkB (some i) = true) = some () := by
  unfold grd
  rw [if_pos]
  exact decide_eq_true hi
theorem oI_is {x : Option Nat} {i : Nat} (hi : i < 2 ^ 31) (hx : ∀ j, x = some j → j < 2 ^ 31) : oI x = nI i ↔ x = some i := by
  cases x with
  | none =>
    rw [oI_none]
    refine ⟨fun q => ?_, fun q => (by cases q)⟩
    have h1 : (nI i).toInt = (i : Int) := nI_toInt hi
    rw [← q, show (-nI 1 : Int32).toInt = -1 by decide] at h1
    omega
  | some j =>
    rw [oI_some, nI_eq (by have := hx j rfl; omega) (by omega)]
    exact ⟨fun q => by rw [q], fun q => by injection q⟩
theorem oI_no {x : Option Nat} (hx : ∀ j, x = some j → j < 2 ^ 31) : oI x = -1 ↔ x = none := by
  cases x with
  | none => exact ⟨fun _ => rfl, fun _ => rfl⟩
  | some j =>
    refine ⟨fun q => ?_, fun q => (by cases q)⟩
    have h1 : (nI j).toInt = (j : Int) := nI_toInt (hx j rfl)
    rw [oI_some] at q
    rw [q, show (-1 : Int32).toInt = -1 by decide] at h1
    omega
theorem m_isWord {w0 w : Wd} {n : Nat} {bf : Nat → Int32} {p : Nat} (h : MP w0 w n bf p) {i : Nat} (hi : i < 16) : f_X13_isWord Kc 415 (nI i) w = some (decide (ktT n bf p = i), w) := by
  obtain ⟨t1, t2, t3, t4, t5⟩ := h.2.2.2.1
  have ty := (tk_o (n := n) (bf := bf) (p := p)).2.2.2.2
  unfold f_X13_isWord
  rw [h.fine, Option.bind_some, ib_t, t3]
  by_cases e : tyT n bf p = 1
  · rw [if_pos (show nI (tyT n bf p) = 1 by rw [e]; rfl), show wI w 1329 415 = oI (kwN (nmA n bf p)) from t4 e]
    by_cases e2 : kwN (nmA n bf p) = some i
    · rw [if_pos ((oI_is (by omega) (fun j hj => by have := (kwN_lt hj).1; omega)).mpr e2), decide_eq_true ((tk_w hi).mpr ⟨e, e2⟩)]
    · rw [if_neg (fun q => e2 ((oI_is (by omega) (fun j hj => by have := (kwN_lt hj).1; omega)).mp q)), decide_eq_false (fun q => e2 ((tk_w hi).mp q).2)]
  · rw [if_neg (show ¬ nI (tyT n bf p) = 1 from fun q => e ((nI_eq (b := 1) (by omega) (by omega)).mp q)), decide_eq_false (fun q => e ((tk_w hi).mp q).1)]
theorem lk_takes {w0 m0 wx wm : Wd} {n : Nat} {bf : Nat → Int32} {b p0 p : Nat} {c s t c2 s2 t2 : Nat → Nat} {nm nm2 : Nat → Nat → List Nat} {i : Nat} (hi : i < 16) (hx : XQr w0 wx n bf b p0 p c s t nm) (hm : MQr m0 wm n bf p c2 s2 t2 nm2) {ii : Int32} (hii : ii = nI i) {kx : Bool × Wd → Option (Bool × Wd)} {km : Wd → Option Wd} (fx : ∀ w, kx (false, w) = some (false, w)) (fm : ∀ w e, MFl m0 w e → km w = some w) (ok : ∀ wx' wm', XQr w0 wx' n bf b p0 (enT n bf p) c s t nm → MQr m0 wm' n bf (enT n bf p) c2 s2 t2 nm2 → Fr S37 NA wx wx' → Lk w0 m0 n bf b p0 (kx (true, wx')) (km wm')) : Lk w0 m0 n bf b p0 ((f_X5_takes Kc 36 (some i) wx).bind kx) ((f_X13_passesWord Kc 415 ii wm).bind km) := by
  subst hii
  have h4 := hx.1.2.2.2.2.1.2.2.1
  unfold f_X5_takes f_X13_passesWord f_X13_takes
  rw [x500 hx.1.1, Option.bind_some, h4, tk_B, Option.bind_some, tk_B2 (by omega), Option.bind_some, m_isWord hm.1 hi, Option.bind_some]
  try dsimp only
  by_cases e : ktT n bf p = i
  · obtain ⟨wx', ex, hx', rx⟩ := hx.adv
    obtain ⟨wm', em, hm', _⟩ := hm.nxt
    rw [if_pos (show some (ktT n bf p) = some i by rw [e]), decide_eq_true e, ib_t, ex, Option.bind_some, Option.bind_some, em, Option.bind_some, Option.bind_some]
    try dsimp only
    rw [hm'.1.need, Option.bind_some, Option.bind_some]
    exact ok wx' wm' hx' hm' (rx.mono (fun f x q => Or.inl q) (fun _ q => q))
  · obtain ⟨wx', ex, hx'⟩ := x_fail hx.1 (u := 1) (e := 1) rfl
    obtain ⟨wm', em, hm'⟩ := hm.1.fail (u := 1) (e := 1) rfl (by omega) (by omega)
    rw [if_neg (show ¬ some (ktT n bf p) = some i from fun q => e (by injection q)), decide_eq_false e, ib_f, ex, Option.bind_some, Option.bind_some, Option.bind_some]
    try dsimp only
    rw [em, Option.bind_some, Option.bind_some]
    exact Or.inl ⟨_, wx', wm', fx wx', fm wm' _ hm', hx', hm'⟩
theorem m_in {K : Kd} {w : Wd} {x a b : Nat} (hx : x < 2 ^ 31) (ha : a < 2 ^ 31) (hb : b < 2 ^ 31) : f_X13_isIn K (nI x).toInt64 (nI a).toInt64 (nI b).toInt64 w = some (decide (a ≤ x ∧ x ≤ b), w) := by
  rw [isIn_sp, Int32.toInt_toInt64, Int32.toInt_toInt64, Int32.toInt_toInt64, nI_toInt hx, nI_toInt ha, nI_toInt hb]
  refine congrArg some (congrArg (fun q => (q, w)) (decide_eq_decide.mpr ⟨fun q => ⟨?_, ?_⟩, fun q => ⟨?_, ?_⟩⟩)) <;> omega
theorem lk_sees {w0 m0 wx wm : Wd} {n : Nat} {bf : Nat → Int32} {b p0 p : Nat} {c s t c2 s2 t2 : Nat → Nat} {nm nm2 : Nat → Nat → List Nat} (hx : XQr w0 wx n bf b p0 p c s t nm) (hm : MQr m0 wm n bf p c2 s2 t2 nm2) {la lb : Nat} (hla : la < 2 ^ 31) (hlb : lb < 2 ^ 31) {a1 b1 a2 b2 : Int32} (ha1 : a1 = nI la) (hb1 : b1 = nI lb) (ha2 : a2 = nI la) (hb2 : b2 = nI lb) {kx : Bool × Wd → Option (Bool × Wd)} {km : Int32 × Wd → Option Wd} (fx : ∀ w, kx (false, w) = some (false, w)) (fm : ∀ v w e, MFl m0 w e → km (v, w) = some w) (ok : ktT n bf p = 17 → la ≤ nuA n bf p → nuA n bf p ≤ lb → nuA n bf p < 1000 → wI wx 806 37 = nI (nuA n bf p) → Lk w0 m0 n bf b p0 (kx (true, wx)) (km (nI (nuA n bf p), wm))) : Lk w0 m0 n bf b p0 ((f_X5_seesNumber Kc 36 a1 b1 wx).bind kx) ((f_X13_look Kc 415 a2 b2 wm).bind km) := by
  subst ha1 hb1 ha2 hb2
  obtain ⟨x1, x2, x3, x4, x5⟩ := hx.1.2.2.2.2.1
  obtain ⟨t1, t2, t3, t4, t5⟩ := hm.1.2.2.2.1
  have ty := (tk_o (n := n) (bf := bf) (p := p)).2.2.2.2
  unfold f_X5_seesNumber f_X13_look
  rw [x500 hx.1.1, Option.bind_some, x3, tk_B, Option.bind_some, t3]
  by_cases e : ktT n bf p = 17
  · have e2 := tk_o.1.mp e
    have nl := nu_lt hx.1.2.2.1.1 e
    have x6 : wI wx 806 37 = nI (nuA n bf p) := x5 e
    have t6 : wI wm 1330 415 = nI (nuA n bf p) := t5 e2
    rw [if_pos (show some (ktT n bf p) = some 17 by rw [e]), x6, if_pos (show nI (tyT n bf p) = 2 by rw [e2]; rfl), hm.1.need, Option.bind_some, hm.1.fine, Option.bind_some, ib_t]
    try dsimp only
    rw [t6, m_in (by omega) hla hlb, Option.bind_some]
    try dsimp only
    by_cases c1 : la ≤ nuA n bf p ∧ nuA n bf p ≤ lb
    · rw [if_lt_f (by omega) (by omega) c1.1, if_le_t (by omega) hlb c1.2, Option.bind_some, decide_eq_true c1, hm.1.need, Option.bind_some, Option.bind_some, t6]
      exact ok e c1.1 c1.2 nl x6
    · obtain ⟨wx', ex, hx'⟩ := x_fail hx.1 (u := 2) (e := 2) rfl
      obtain ⟨wm', em, hm'⟩ := hm.1.fail (u := 2) (e := 2) rfl (by omega) (by omega)
      rw [decide_eq_false c1, em, Option.bind_some, Option.bind_some]
      have fin : Lk w0 m0 n bf b p0 (kx (false, wx')) (km (wI wm' 1330 415, wm')) := Or.inl ⟨_, wx', wm', fx wx', fm _ wm' _ hm', hx', hm'⟩
      by_cases c2 : nuA n bf p < la
      · rw [if_lt_t (by omega) hla c2, ex, Option.bind_some, ib_f, Option.bind_some]
        exact fin
      · rw [if_lt_f (by omega) (by omega) (by omega), if_le_f (by omega) hlb (by omega), ex, Option.bind_some, ib_f, Option.bind_some]
        exact fin
  · obtain ⟨wx', ex, hx'⟩ := x_fail hx.1 (u := 1) (e := 1) rfl
    obtain ⟨wm', em, hm'⟩ := hm.1.fail (u := 1) (e := 1) rfl (by omega) (by omega)
    rw [if_neg (show ¬ some (ktT n bf p) = some 17 from fun q => e (by injection q)), ex, Option.bind_some, Option.bind_some, if_neg (show ¬ nI (tyT n bf p) = 2 from fun q => e (tk_o.1.mpr ((nI_eq (b := 2) (by omega) (by omega)).mp q))), em, Option.bind_some, n_fine hm'.ne, Option.bind_some, ib_f, Option.bind_some]
    exact Or.inl ⟨_, wx', wm', fx wx', fm _ wm' _ hm', hx', hm'⟩
theorem lk_number {w0 m0 wx wm : Wd} {n : Nat} {bf : Nat → Int32} {b p0 p : Nat} {c s t c2 s2 t2 : Nat → Nat} {nm nm2 : Nat → Nat → List Nat} (hx : XQr w0 wx n bf b p0 p c s t nm) (hm : MQr m0 wm n bf p c2 s2 t2 nm2) {la lb : Nat} (hla : la < 2 ^ 31) (hlb : lb < 2 ^ 31) {a1 b1 a2 b2 : Int32} (ha1 : a1 = nI la) (hb1 : b1 = nI lb) (ha2 : a2 = nI la) (hb2 : b2 = nI lb) {kx : Bool × Wd → Option (Bool × Wd)} {km : Int32 × Wd → Option Wd} (fx : ∀ w, kx (false, w) = some (false, w)) (fm : ∀ v w e, MFl m0 w e → km (v, w) = some w) (ok : ∀ wx' wm', XQr w0 wx' n bf b p0 (enT n bf p) c s t nm → MQr m0 wm' n bf (enT n bf p) c2 s2 t2 nm2 → Fr S37 NA wx wx' → wI wx' 505 36 = wI wx 505 36 → wI wx' 504 36 = nI (nuA n bf p) → la ≤ nuA n bf p → nuA n bf p ≤ lb → nuA n bf p < 1000 → Lk w0 m0 n bf b p0 (kx (true, wx')) (km (nI (nuA n bf p), wm'))) : Lk w0 m0 n bf b p0 ((f_X5_takesNumber Kc 36 a1 b1 wx).bind kx) ((f_X13_number Kc 415 a2 b2 wm).bind km) := by
  unfold f_X5_takesNumber f_X13_number
  rw [Option.bind_assoc, Option.bind_assoc]
  refine lk_sees hx hm hla hlb ha1 hb1 ha2 hb2 (fun w => ?_) (fun v w e hf => ?_) (fun e l1 l2 l3 x6 => ?_)
  · try dsimp only
    rw [ib_f, Option.bind_some, fx]
  · try dsimp only
    rw [n_goOn hf.ne, Option.bind_some, Option.bind_some, fm v w e hf]
  · try dsimp only
    have k0 := hx.t36 (f := 504) (v := nI (nuA n bf p)) (by omega) (by omega)
    obtain ⟨wx', ex, hx', rx⟩ := k0.adv
    obtain ⟨wm', em, hm'⟩ := hm.go
    have r1 : Fr S37 NA wx (sI wx 504 36 (nI (nuA n bf p))) := fr_sI (Or.inr ⟨rfl, by omega, by omega⟩)
    rw [ib_t, x500 hx.1.1, Option.bind_some, x6, Option.bind_some, x500 k0.1.1, Option.bind_some, ex, Option.bind_some, Option.bind_some, em, Option.bind_some, Option.bind_some]
    exact ok wx' wm' hx' hm' (r1.trans (rx.mono (fun f x q => Or.inl q) (fun _ q => q))) (by rw [(rx.1 505 36 (by unfold SCx; omega)).1, wI_sI, if_neg (by omega)]) (by rw [(rx.1 504 36 (by unfold SCx; omega)).1, wI_sI, if_pos ⟨rfl, rfl⟩]) l1 l2 l3
