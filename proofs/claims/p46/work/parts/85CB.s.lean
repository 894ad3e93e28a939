/-! The drawn text is parsed. -/
variable {X : Kd}
theorem disp {w0 wx : Wd} {n : Nat} {bf : Nat → Int32} {b p0 p : Nat} {c s t : Nat → Nat} {nm : Nat → Nat → List Nat} (hx : XQr w0 wx n bf b p0 p c s t nm) : f_X5_takesStatement (Kx X) 36 wx = if swm.getD (ktT n bf p) 0 < 1 ∨ 9 < swm.getD (ktT n bf p) 0 then f_X5_fail (Kx X) 36 1 wx else if swm.getD (ktT n bf p) 0 = 1 then f_X5_takesHoliday (Kx X) 36 wx else if swm.getD (ktT n bf p) 0 = 2 then f_X5_takesRoom (Kx X) 36 wx else if swm.getD (ktT n bf p) 0 = 3 then f_X5_takesOfficer (Kx X) 36 wx else if swm.getD (ktT n bf p) 0 = 4 then f_X5_takesWitness (Kx X) 36 wx else if swm.getD (ktT n bf p) 0 = 5 then f_X5_takesCase (Kx X) 36 wx else if swm.getD (ktT n bf p) 0 = 6 then f_X5_takesBar (Kx X) 36 wx else if swm.getD (ktT n bf p) 0 = 7 then f_X5_takesConflict (Kx X) 36 wx else if swm.getD (ktT n bf p) 0 = 8 then f_X5_takesLengthen (Kx X) 36 wx else if swm.getD (ktT n bf p) 0 = 9 then f_X5_takesCap (Kx X) 36 wx else none := by
  have k21 : ktT n bf p < 21 := by have := (tk_o (n := n) (bf := bf) (p := p)).2.2.2.1; omega
  unfold f_X5_takesStatement
  rw [x500 hx.1.1, Option.bind_some, hx.1.2.2.2.2.1.2.2.1, show tki (some (ktT n bf p)) = some (ktT n bf p) from if_pos k21, Option.bind_some]
  unfold f_Jx29ce0_ordinal_8abf5
  rw [Option.bind_some]
  try dsimp only
  rw [show tokO.getD (ktT n bf p) 0 = nI (ktT n bf p) from tokO_d _ k21, ixa_n k21 (by omega), Option.bind_some, bind_pr, bind_pr, bind_pr, bind_pr, bind_pr, bind_pr, bind_pr, bind_pr, bind_pr, bind_pr]
/-- a statement and its semicolon -/
theorem go_stm {w0 wx wx1 : Wd} {n : Nat} {bf : Nat → Int32} {b p0 p p1 : Nat} {s s' t t' : Nat → Nat} {nm nm' : Nat → Nat → List Nat} {rest : List Tk} {k : Option Nat → Int32 → Int32 → Wd → Option (Bool × Wd)} {u1 : Option Nat} {u2 : Int32} {cnt f : Nat} (hx : XQr w0 wx n bf b p0 p (cS s) s t nm) (hk : ktT n bf p ≠ 19) (hs : f_X5_takesStatement (Kx X) 36 wx = some (true, wx1)) (hx1 : XQr w0 wx1 n bf b p0 p1 (cS s') s' t' nm') (T : Tks n bf p1 ((18, 0, []) :: rest)) (hc : cnt < 800) : ∃ wx2 p2, f_X5_read_L28 (Kx X) 36 k (f + 1) u1 u2 (nI cnt) wx = f_X5_read_L28 (Kx X) 36 k f u1 u2 (nI (cnt + 1)) wx2 ∧ XQr w0 wx2 n bf b p2 p2 (cS s') s' t' nm' ∧ Tks n bf p2 rest := by
  obtain ⟨k1, -, -, T'⟩ := T
  obtain ⟨w2, x2, hx2, -⟩ := ft_takes (X := X) (i := 18) (by omega) hx1 k1
  refine ⟨w2, _, ?_, XQr_rb hx2, T'⟩
  rw [f_X5_read_L28, if_neg (show ¬ (900 : Int32) < nI cnt from fun q => by
    have := (nI_ltI (a := 900) (b := cnt) (by omega) (by omega)).mp q
    omega), x500 hx.1.1, Option.bind_some, hx.1.2.2.2.2.1.2.2.1, tk_B, Option.bind_some, if_neg (fun q => hk (by injection q)), hs, Option.bind_some]
  try dsimp only
  rw [ib_t, x2, Option.bind_some]
  try dsimp only
  rw [ib_t, show nI cnt + 1 = nI (cnt + 1) from nI_add cnt 1]
/-- the setup so far: so many rooms, officers, witnesses, cases -/
def PS (w0 : Wd) (n : Nat) (bf : Nat → Int32) (b : Nat) (rest : List Tk) (r o v c : Nat) (wx : Wd) : Prop := ∃ p s t nm, XQr w0 wx n bf b p p (cS s) s t nm ∧ GD s t nm ∧ (s 0 = r ∧ s 1 = o ∧ s 2 = v ∧ s 3 = c) ∧ ((∀ i, i < r → nm 0 i = [18 + i]) ∧ (∀ i, i < o → nm 1 i = [15 + i]) ∧ (∀ i, i < v → nm 2 i = [23 + i]) ∧ (∀ i, i < c → nm 3 i = [1 + i])) ∧ (∀ i, i < 12 → s (148 + i) = 0) ∧ s 165 = 0 ∧ Tks n bf p rest
theorem one_ne {a i k : Nat} (h : i < k) : ([a + i] : List Nat) ≠ [a + k] := fun q => by
  injection q with q
  omega
theorem ps_room {w0 wx : Wd} {n : Nat} {bf : Nat → Int32} {b r o v c lo hi : Nat} {rest : List Tk} {k : Option Nat → Int32 → Int32 → Wd → Option (Bool × Wd)} {u1 : Option Nat} {u2 : Int32} {cnt f : Nat} (h : PS w0 n bf b (tRoom (18 + r) lo hi ++ rest) r o v c wx) (hr : r < 3) (hl : lo ≤ hi ∧ hi ≤ 7) (hc : cnt < 800) : ∃ wx2, f_X5_read_L28 (Kx X) 36 k (f + 1) u1 u2 (nI cnt) wx = f_X5_read_L28 (Kx X) 36 k f u1 u2 (nI (cnt + 1)) wx2 ∧ PS w0 n bf b rest (r + 1) o v c wx2 := by
  obtain ⟨p, s, t, nm, hx, hg, ⟨s0, s1, s2, s3⟩, ⟨n0, n1, n2, n3⟩, hz, h5, T⟩ := h
  have kt : ktT n bf p = 1 := T.1
  obtain ⟨w1, p1, s', x1, hx1, hg1, T1, k1, k2⟩ := st_room (X := X) hx hg (by omega) T (fun i hi => by rw [n0 i (by omega)]; exact one_ne (by omega)) hl
  obtain ⟨w2, p2, x2, hx2, T2⟩ := go_stm (X := X) (k := k) (u1 := u1) (u2 := u2) (cnt := cnt) (f := f) hx (by rw [kt]; omega) (by rw [disp hx, kt]; exact x1) hx1 T1 hc
  refine ⟨w2, x2, p2, s', t, _, hx2, hg1, ⟨by rw [k1, s0], by rw [k2 1 (by omega), s1], by rw [k2 2 (by omega), s2], by rw [k2 3 (by omega), s3]⟩, ⟨fun i hi => ?_, fun i hi => ?_, fun i hi => ?_, fun i hi => ?_⟩, fun i hi => by rw [k2 (148 + i) (by omega)]; exact hz i hi, by rw [k2 165 (by omega)]; exact h5, T2⟩
  · by_cases e : i = r
    · rw [e, s0, nmU_eq]
    · rw [nmU_ne (by omega)]; exact n0 i (by omega)
  · rw [nmU_ne (by omega)]; exact n1 i hi
  · rw [nmU_ne (by omega)]; exact n2 i hi
  · rw [nmU_ne (by omega)]; exact n3 i hi
theorem ps_off {w0 wx : Wd} {n : Nat} {bf : Nat → Int32} {b r o v c lo hi : Nat} {rest : List Tk} {k : Option Nat → Int32 → Int32 → Wd → Option (Bool × Wd)} {u1 : Option Nat} {u2 : Int32} {cnt f : Nat} (h : PS w0 n bf b (tOff (15 + o) lo hi ++ rest) r o v c wx) (hr : o < 6) (hl : lo ≤ hi ∧ hi ≤ 599) (hc : cnt < 800) : ∃ wx2, f_X5_read_L28 (Kx X) 36 k (f + 1) u1 u2 (nI cnt) wx = f_X5_read_L28 (Kx X) 36 k f u1 u2 (nI (cnt + 1)) wx2 ∧ PS w0 n bf b rest r (o + 1) v c wx2 := by
  obtain ⟨p, s, t, nm, hx, hg, ⟨s0, s1, s2, s3⟩, ⟨n0, n1, n2, n3⟩, hz, h5, T⟩ := h
  have kt : ktT n bf p = 3 := T.1
  obtain ⟨w1, p1, s', x1, hx1, hg1, T1, k1, k2⟩ := st_off (X := X) hx hg (by omega) T (fun i hi => by rw [n1 i (by omega)]; exact one_ne (by omega)) hl
  obtain ⟨w2, p2, x2, hx2, T2⟩ := go_stm (X := X) (k := k) (u1 := u1) (u2 := u2) (cnt := cnt) (f := f) hx (by rw [kt]; omega) (by rw [disp hx, kt]; exact x1) hx1 T1 hc
  refine ⟨w2, x2, p2, s', t, _, hx2, hg1, ⟨by rw [k2 0 (by omega), s0], by rw [k1, s1], by rw [k2 2 (by omega), s2], by rw [k2 3 (by omega), s3]⟩, ⟨fun i hi => ?_, fun i hi => ?_, fun i hi => ?_, fun i hi => ?_⟩, fun i hi => by rw [k2 (148 + i) (by omega)]; exact hz i hi, by rw [k2 165 (by omega)]; exact h5, T2⟩
  · rw [nmU_ne (by omega)]; exact n0 i hi
  · by_cases e : i = o
    · rw [e, s1, nmU_eq]
    · rw [nmU_ne (by omega)]; exact n1 i (by omega)
  · rw [nmU_ne (by omega)]; exact n2 i hi
  · rw [nmU_ne (by omega)]; exact n3 i hi
theorem ps_wit {w0 wx : Wd} {n : Nat} {bf : Nat → Int32} {b r o v c lo hi q1 q2 : Nat} {rest : List Tk} {k : Option Nat → Int32 → Int32 → Wd → Option (Bool × Wd)} {u1 : Option Nat} {u2 : Int32} {cnt f : Nat} (h : PS w0 n bf b (tWit (23 + v) lo hi q1 q2 ++ rest) r o v c wx) (hr : v < 12) (hl : lo ≤ hi ∧ hi ≤ 599) (hq : q1 ≤ q2 ∧ q2 ≤ 7) (hc : cnt < 800) : ∃ wx2, f_X5_read_L28 (Kx X) 36 k (f + 1) u1 u2 (nI cnt) wx = f_X5_read_L28 (Kx X) 36 k f u1 u2 (nI (cnt + 1)) wx2 ∧ PS w0 n bf b rest r o (v + 1) c wx2 := by
  obtain ⟨p, s, t, nm, hx, hg, ⟨s0, s1, s2, s3⟩, ⟨n0, n1, n2, n3⟩, hz, h5, T⟩ := h
  have kt : ktT n bf p = 5 := T.1
  obtain ⟨w1, p1, s', t', x1, hx1, hg1, T1, k1, k2⟩ := st_wit (X := X) hx hg (by omega) T (fun i hi => by rw [n2 i (by omega)]; exact one_ne (by omega)) hl hq
  obtain ⟨w2, p2, x2, hx2, T2⟩ := go_stm (X := X) (k := k) (u1 := u1) (u2 := u2) (cnt := cnt) (f := f) hx (by rw [kt]; omega) (by rw [disp hx, kt]; exact x1) hx1 T1 hc
  refine ⟨w2, x2, p2, s', t', _, hx2, hg1, ⟨by rw [k2 0 (by omega), s0], by rw [k2 1 (by omega), s1], by rw [k1, s2], by rw [k2 3 (by omega), s3]⟩, ⟨fun i hi => ?_, fun i hi => ?_, fun i hi => ?_, fun i hi => ?_⟩, fun i hi => by rw [k2 (148 + i) (by omega)]; exact hz i hi, by rw [k2 165 (by omega)]; exact h5, T2⟩
  · rw [nmU_ne (by omega)]; exact n0 i hi
  · rw [nmU_ne (by omega)]; exact n1 i hi
  · by_cases e : i = v
    · rw [e, s2, nmU_eq]
    · rw [nmU_ne (by omega)]; exact n2 i (by omega)
  · rw [nmU_ne (by omega)]; exact n3 i hi
theorem ps_cas {w0 wx : Wd} {n : Nat} {bf : Nat → Int32} {b r o c v1 v2 v3 nd : Nat} {cu : Bool} {rest : List Tk} {k : Option Nat → Int32 → Int32 → Wd → Option (Bool × Wd)} {u1 : Option Nat} {u2 : Int32} {cnt f : Nat} (h : PS w0 n bf b (tCase (1 + c) v1 v2 v3 cu nd ++ rest) r o 2 c wx) (hr : c < 12) (l1 : v1 ≤ 99) (l2 : 1 ≤ v2 ∧ v2 ≤ 4) (l3 : 1 ≤ v3 ∧ v3 ≤ 60) (hc : cnt < 800) : ∃ wx2, f_X5_read_L28 (Kx X) 36 k (f + 1) u1 u2 (nI cnt) wx = f_X5_read_L28 (Kx X) 36 k f u1 u2 (nI (cnt + 1)) wx2 ∧ PS w0 n bf b rest r o 2 (c + 1) wx2 := by
  obtain ⟨p, s, t, nm, hx, hg, ⟨s0, s1, s2, s3⟩, ⟨n0, n1, n2, n3⟩, hz, h5, T⟩ := h
  have kt : ktT n bf p = 7 := T.1
  obtain ⟨w1, p1, s', x1, hx1, hg1, T1, k1, k2⟩ := st_cas (X := X) hx hg (by omega) s2 (n2 0 (by omega)) (n2 1 (by omega)) T (fun i hi => by rw [n3 i (by omega)]; exact one_ne (by omega)) l1 l2 l3
  obtain ⟨w2, p2, x2, hx2, T2⟩ := go_stm (X := X) (k := k) (u1 := u1) (u2 := u2) (cnt := cnt) (f := f) hx (by rw [kt]; omega) (by rw [disp hx, kt]; exact x1) hx1 T1 hc
  refine ⟨w2, x2, p2, s', t, _, hx2, hg1, ⟨by rw [k2 0 (by omega), s0], by rw [k2 1 (by omega), s1], by rw [k2 2 (by omega), s2], by rw [k1, s3]⟩, ⟨fun i hi => ?_, fun i hi => ?_, fun i hi => ?_, fun i hi => ?_⟩, fun i hi => by rw [k2 (148 + i) (by omega)]; exact hz i hi, by rw [k2 165 (by omega)]; exact h5, T2⟩
  · rw [nmU_ne (by omega)]; exact n0 i hi
  · rw [nmU_ne (by omega)]; exact n1 i hi
  · rw [nmU_ne (by omega)]; exact n2 i hi
  · by_cases e : i = c
    · rw [e, s3, nmU_eq]
    · rw [nmU_ne (by omega)]; exact n3 i (by omega)
/-- all of the drawn text is read -/
theorem read_all {w0 wx : Wd} {n : Nat} {bf : Nat → Int32} {b : Nat} {k : Option Nat → Int32 → Int32 → Wd → Option (Bool × Wd)} {u1 : Option Nat} {u2 : Int32} {D : Nat → Nat → Nat → Nat} (hD : ∀ a lo hi, lo ≤ hi → lo ≤ D a lo hi ∧ D a lo hi ≤ hi) (h : PS w0 n bf b (tAll D ++ [(19, 0, [])]) 0 0 0 0 wx) : ∃ wx' p s t nm, f_X5_read_L28 (Kx X) 36 k fu u1 u2 (nI 0) wx = some (true, wx') ∧ XQr w0 wx' n bf b p p (cS s) s t nm ∧ GD s t nm ∧ s 0 = 2 ∧ s 1 = 2 ∧ s 2 = 2 ∧ s 3 = 4 := by
  have z : ∀ a lo hi m, lo ≤ hi → hi ≤ m → D a lo hi ≤ m := fun a lo hi m h1 h2 => by have := hD a lo hi h1; omega
  have y : ∀ a lo hi, lo ≤ hi → lo ≤ D a lo hi := fun a lo hi h1 => (hD a lo hi h1).1
  have le : ∀ a1 l1 h1 a2 l2 h2, l1 ≤ h1 → l2 ≤ h2 → h1 ≤ l2 → D a1 l1 h1 ≤ D a2 l2 h2 := fun a1 l1 h1 a2 l2 h2 e1 e2 e3 => by
    have := hD a1 l1 h1 e1
    have := hD a2 l2 h2 e2
    omega
  unfold tAll at h
  simp only [List.append_assoc] at h
  have hf : f_X5_read_L28 (Kx X) 36 k fu u1 u2 (nI 0) wx = f_X5_read_L28 (Kx X) 36 k ((fu - 13) + 1 + 1 + 1 + 1 + 1 + 1 + 1 + 1 + 1 + 1 + 1 + 1 + 1) u1 u2 (nI 0) wx := rfl
  rw [hf]
  obtain ⟨w1, x1, h⟩ := ps_room (X := X) (k := k) (u1 := u1) (u2 := u2) (cnt := 0) (f := (fu - 13) + 1 + 1 + 1 + 1 + 1 + 1 + 1 + 1 + 1 + 1 + 1 + 1) (r := 0) h (by omega) ⟨le _ _ _ _ _ _ (by omega) (by omega) (by omega), z _ _ _ _ (by omega) (by omega)⟩ (by omega)
  obtain ⟨w2, x2, h⟩ := ps_room (X := X) (k := k) (u1 := u1) (u2 := u2) (cnt := 1) (f := (fu - 13) + 1 + 1 + 1 + 1 + 1 + 1 + 1 + 1 + 1 + 1 + 1) (r := 1) h (by omega) ⟨le _ _ _ _ _ _ (by omega) (by omega) (by omega), z _ _ _ _ (by omega) (by omega)⟩ (by omega)
  obtain ⟨w3, x3, h⟩ := ps_off (X := X) (k := k) (u1 := u1) (u2 := u2) (cnt := 2) (f := (fu - 13) + 1 + 1 + 1 + 1 + 1 + 1 + 1 + 1 + 1 + 1) (o := 0) h (by omega) ⟨le _ _ _ _ _ _ (by omega) (by omega) (by omega), z _ _ _ _ (by omega) (by omega)⟩ (by omega)
  obtain ⟨w4, x4, h⟩ := ps_off (X := X) (k := k) (u1 := u1) (u2 := u2) (cnt := 3) (f := (fu - 13) + 1 + 1 + 1 + 1 + 1 + 1 + 1 + 1 + 1) (o := 1) h (by omega) ⟨le _ _ _ _ _ _ (by omega) (by omega) (by omega), z _ _ _ _ (by omega) (by omega)⟩ (by omega)
  obtain ⟨w5, x5, h⟩ := ps_wit (X := X) (k := k) (u1 := u1) (u2 := u2) (cnt := 4) (f := (fu - 13) + 1 + 1 + 1 + 1 + 1 + 1 + 1 + 1) (v := 0) h (by omega) ⟨le _ _ _ _ _ _ (by omega) (by omega) (by omega), z _ _ _ _ (by omega) (by omega)⟩ ⟨le _ _ _ _ _ _ (by omega) (by omega) (by omega), z _ _ _ _ (by omega) (by omega)⟩ (by omega)
  obtain ⟨w6, x6, h⟩ := ps_wit (X := X) (k := k) (u1 := u1) (u2 := u2) (cnt := 5) (f := (fu - 13) + 1 + 1 + 1 + 1 + 1 + 1 + 1) (v := 1) h (by omega) ⟨le _ _ _ _ _ _ (by omega) (by omega) (by omega), z _ _ _ _ (by omega) (by omega)⟩ ⟨le _ _ _ _ _ _ (by omega) (by omega) (by omega), z _ _ _ _ (by omega) (by omega)⟩ (by omega)
  obtain ⟨w7, x7, h⟩ := ps_cas (X := X) (k := k) (u1 := u1) (u2 := u2) (cnt := 6) (f := (fu - 13) + 1 + 1 + 1 + 1 + 1 + 1) (c := 0) h (by omega) (z _ _ _ _ (by omega) (by omega)) ⟨y _ _ _ (by omega), z _ _ _ _ (by omega) (by omega)⟩ ⟨y _ _ _ (by omega), z _ _ _ _ (by omega) (by omega)⟩ (by omega)
  obtain ⟨w8, x8, h⟩ := ps_cas (X := X) (k := k) (u1 := u1) (u2 := u2) (cnt := 7) (f := (fu - 13) + 1 + 1 + 1 + 1 + 1) (c := 1) h (by omega) (z _ _ _ _ (by omega) (by omega)) ⟨y _ _ _ (by omega), z _ _ _ _ (by omega) (by omega)⟩ ⟨y _ _ _ (by omega), z _ _ _ _ (by omega) (by omega)⟩ (by omega)
  obtain ⟨w9, x9, h⟩ := ps_cas (X := X) (k := k) (u1 := u1) (u2 := u2) (cnt := 8) (f := (fu - 13) + 1 + 1 + 1 + 1) (c := 2) h (by omega) (z _ _ _ _ (by omega) (by omega)) ⟨y _ _ _ (by omega), z _ _ _ _ (by omega) (by omega)⟩ ⟨y _ _ _ (by omega), z _ _ _ _ (by omega) (by omega)⟩ (by omega)
  obtain ⟨w10, x10, h⟩ := ps_cas (X := X) (k := k) (u1 := u1) (u2 := u2) (cnt := 9) (f := (fu - 13) + 1 + 1 + 1) (c := 3) h (by omega) (z _ _ _ _ (by omega) (by omega)) ⟨y _ _ _ (by omega), z _ _ _ _ (by omega) (by omega)⟩ ⟨y _ _ _ (by omega), z _ _ _ _ (by omega) (by omega)⟩ (by omega)
  obtain ⟨p, s, t, nm, hx, hg, ⟨s0, s1, s2, s3⟩, ⟨n0, n1, n2, n3⟩, hz, h5, T⟩ := h
  have kt : ktT n bf p = 13 := T.1
  obtain ⟨v1, p1, s', y1, hx1, hg1, T1, k1⟩ := st_con (X := X) hx hg s3 hz (n3 0 (by omega)) (n3 1 (by omega)) T
  obtain ⟨v2, p2, y2, hx2, T2⟩ := go_stm (X := X) (k := k) (u1 := u1) (u2 := u2) (cnt := 10) (f := (fu - 13) + 1 + 1) hx (by rw [kt]; omega) (by rw [disp hx, kt]; exact y1) hx1 T1 (by omega)
  have kt2 : ktT n bf p2 = 15 := T2.1
  obtain ⟨v3, p3, s'', y3, hx3, hg3, T3, k3⟩ := st_cap (X := X) hx2 hg1 (by rw [k1 165 (by omega)]; exact h5) T2 (z _ _ _ _ (by omega) (by omega))
  obtain ⟨v4, p4, y4, hx4, T4⟩ := go_stm (X := X) (k := k) (u1 := u1) (u2 := u2) (cnt := 11) (f := (fu - 13) + 1) hx2 (by rw [kt2]; omega) (by rw [disp hx2, kt2]; exact y3) hx3 T3 (by omega)
  refine ⟨v4, p4, s'', t, nm, ?_, hx4, hg3, by rw [k3 0 (by omega), k1 0 (by omega), s0], by rw [k3 1 (by omega), k1 1 (by omega), s1], by rw [k3 2 (by omega), k1 2 (by omega), s2], by rw [k3 3 (by omega), k1 3 (by omega), s3]⟩
  rw [x1, x2, x3, x4, x5, x6, x7, x8, x9, x10, y2, y4, f_X5_read_L28, if_neg (by decide), x500 hx4.1.1, Option.bind_some, hx4.1.2.2.2.2.1.2.2.1, tk_B, Option.bind_some, if_pos (show some (ktT n bf p4) = some 19 by rw [T4.1])]
