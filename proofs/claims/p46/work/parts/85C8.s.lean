/-! What the setup's reader takes, statement by statement. -/
variable {X : Kd}
theorem XQr.cc {w0 wx : Wd} {n : Nat} {bf : Nat → Int32} {b p0 p : Nat} {c s t : Nat → Nat} {nm : Nat → Nat → List Nat} (h : XQr w0 wx n bf b p0 p c s t nm) (hc : ∀ k, k < 8 → cS s k = c k) (g : s 0 ≤ 3) : XQr w0 wx n bf b p0 p (cS s) s t nm := ⟨h.1, XD_cg h.2 hc (fun _ _ _ => rfl) g⟩
def KEEP (s s' : Nat → Nat) (k : Nat) : Prop := s' k = s k + 1 ∧ ∀ x, ((x < 4 ∧ x ≠ k) ∨ (148 ≤ x ∧ x < 160) ∨ x = 165) → s' x = s x
theorem st_room {w0 wx : Wd} {n : Nat} {bf : Nat → Int32} {b p0 p : Nat} {s t : Nat → Nat} {nm : Nat → Nat → List Nat} {cc lo hi : Nat} {rest : List Tk} (hx : XQr w0 wx n bf b p0 p (cS s) s t nm) (hg : GD s t nm) (h0 : s 0 < 3) (T : Tks n bf p (tRoom cc lo hi ++ rest)) (hf : ∀ i, i < s 0 → nm 0 i ≠ [cc]) (hl : lo ≤ hi ∧ hi ≤ 7) : ∃ wx' p' s', f_X5_takesRoom (Kx X) 36 wx = some (true, wx') ∧ XQr w0 wx' n bf b p0 p' (cS s') s' t (nmU nm 0 (s 0) [cc]) ∧ GD s' t (nmU nm 0 (s 0) [cc]) ∧ Tks n bf p' ((18, 0, []) :: rest) ∧ KEEP s s' 0 := by
  have bd := BD_of hg
  obtain ⟨-, -, -, k1, -, m1, k2, -, -, k3, v3, -, k4, v4, -, T'⟩ := T
  obtain ⟨w1, x1, hx1, nk⟩ := ft_newName (X := X) (q := 0) (l := [cc]) (qi := 0) (by omega) hx bd h0 (fun i hi => hg.2.2.2.1 0 i (by omega) hi) rfl k1 (m1 rfl) hf
  obtain ⟨w2, x2, hx2, -⟩ := ft_takes (X := X) (i := 2) (by omega) hx1 k2
  obtain ⟨w3, x3, hx3, -, w5, w6⟩ := ft_span (X := X) (lb := 7) (b1 := 7) hx2 (by omega) rfl k3 (v3 rfl) k4 (v4 rfl) hl
  have fin := XQr_room hx3 (c := ups (cS s) 0 (cS s 0 + 1)) ⟨bd.1, bd.2.1, by rw [ups_ne (by omega)]; exact bd.2.2⟩ h0 lo hi
  refine ⟨_, _, _, ?_, fin.cc (cS_e (by rw [ups_eq, ups_eq]; rfl) (by rw [ups_ne (by omega), ups_ne (by omega), ups_ne (by omega), ups_ne (by omega)]; rfl) (by rw [ups_ne (by omega), ups_ne (by omega), ups_ne (by omega), ups_ne (by omega)]; rfl) (by rw [ups_ne (by omega), ups_ne (by omega), ups_ne (by omega), ups_ne (by omega)]; rfl) (by rw [ups_ne (by omega), ups_ne (by omega), ups_ne (by omega), ups_ne (by omega)]; rfl) (by rw [ups_ne (by omega), ups_ne (by omega), ups_ne (by omega), ups_ne (by omega)]; rfl) (by rw [ups_ne (by omega), ups_ne (by omega), ups_ne (by omega), ups_ne (by omega)]; rfl) (by rw [ups_ne (by omega), ups_ne (by omega), ups_ne (by omega), ups_ne (by omega)]; rfl)) (by rw [ups_eq]; omega), GD_room hg h0 hl.1 hl.2 nk, T', ups_eq, fun x hx => by rw [ups_ne (by omega), ups_ne (by omega), ups_ne (by omega)]⟩
  unfold f_X5_takesRoom
  rw [x1, Option.bind_some]
  try dsimp only
  rw [ib_t, x2, Option.bind_some]
  try dsimp only
  rw [ib_t, x3, Option.bind_some]
  try dsimp only
  rw [ib_t, ck hx3.1.2.2.2.2.2.1 (kSU hx3.1.2.1), Option.bind_some, show (0 : Int32) = nI 0 from rfl, x_sizeQ hx3 (by omega), Option.bind_some, w5, w6]
  unfold f_X12_slotSet
  rw [slot_d lo (by omega) hi (by omega) hl.1, Option.bind_some, u901 hx3.1.1 hx3.1.2.1, Option.bind_some]
  try dsimp only
  rw [show ups (cS s) 0 (cS s 0 + 1) 0 = s 0 + 1 from ups_eq, show (1 : Int32) = nI 1 from rfl, sub_nI (by omega), Nat.add_sub_cancel, ixa_n (by omega) (by omega), Option.bind_some, Option.bind_some]
theorem st_off {w0 wx : Wd} {n : Nat} {bf : Nat → Int32} {b p0 p : Nat} {s t : Nat → Nat} {nm : Nat → Nat → List Nat} {cc lo hi : Nat} {rest : List Tk} (hx : XQr w0 wx n bf b p0 p (cS s) s t nm) (hg : GD s t nm) (h0 : s 1 < 6) (T : Tks n bf p (tOff cc lo hi ++ rest)) (hf : ∀ i, i < s 1 → nm 1 i ≠ [cc]) (hl : lo ≤ hi ∧ hi ≤ 599) : ∃ wx' p' s', f_X5_takesOfficer (Kx X) 36 wx = some (true, wx') ∧ XQr w0 wx' n bf b p0 p' (cS s') s' t (nmU nm 1 (s 1) [cc]) ∧ GD s' t (nmU nm 1 (s 1) [cc]) ∧ Tks n bf p' ((18, 0, []) :: rest) ∧ KEEP s s' 1 := by
  have bd := BD_of hg
  obtain ⟨-, -, -, k1, -, m1, k2, -, -, k3, v3, -, k4, v4, -, T'⟩ := T
  have k5 := T'.1
  have z0 : s (10 + s 1) = 0 := hg.2.2.2.2.1 (s 1) (Nat.le_refl _) h0
  obtain ⟨w1, x1, hx1, nk⟩ := ft_newName (X := X) (q := 1) (l := [cc]) (qi := 1) (by omega) hx bd h0 (fun i hi => hg.2.2.2.1 1 i (by omega) hi) rfl k1 (m1 rfl) hf
  obtain ⟨w2, x2, hx2, rx2⟩ := hx1.adv (X := X)
  obtain ⟨w3, x3, hx3, -, w5, w6⟩ := ft_span (X := X) (lb := 599) (b1 := 599) hx2 (by omega) rfl k3 (v3 rfl) k4 (v4 rfl) hl
  have b1 : BD (ups (cS s) 1 (cS s 1 + 1)) s := ⟨bd.1, bd.2.1, by rw [ups_ne (by omega)]; exact bd.2.2⟩
  have fin := XQr_off hx3 b1 h0 (by omega) lo hi
  have q4 := (hx3.2.2.2.2.1 (s 1) h0).1
  rw [z0] at fin q4
  have ho : OFI s (s 1) (ups (ups (ups s (16 + 6 * s 1 + 2 * 0) lo) (16 + 6 * s 1 + 2 * 0 + 1) hi) (10 + s 1) (0 + 1)) := ⟨fun x x1 x2 => by rw [ups_ne (by omega), ups_ne (by omega), ups_ne (by omega)], by rw [ups_eq]; omega, fun j hj => by
    rw [ups_eq] at hj
    have : j = 0 := by omega
    subst this
    rw [ups_ne (by omega), ups_ne (by omega), ups_eq, ups_ne (by omega), show 17 + 6 * s 1 + 2 * 0 = 16 + 6 * s 1 + 2 * 0 + 1 by omega, ups_eq]
    exact hl⟩
  generalize hs' : ups (ups (ups s (16 + 6 * s 1 + 2 * 0) lo) (16 + 6 * s 1 + 2 * 0 + 1) hi) (10 + s 1) (0 + 1) = s' at fin ho
  have o1 : ∀ x, x < 4 → x ≠ 1 → ups s' 1 (s 1 + 1) x = s x := fun x hx hx1 => by rw [ups_ne hx1]; exact ho.1 x (by omega) (by omega)
  have fin2 : ∀ w4, XQr w0 w4 n bf b p0 (enT n bf (enT n bf (enT n bf (enT n bf (enT n bf p))))) (ups (cS s) 1 (cS s 1 + 1)) s' t (nmU nm 1 (s 1) [cc]) → XQr w0 w4 n bf b p0 (enT n bf (enT n bf (enT n bf (enT n bf (enT n bf p))))) (cS (ups s' 1 (s 1 + 1))) (ups s' 1 (s 1 + 1)) t (nmU nm 1 (s 1) [cc]) := fun w4 h => XQr.cc ⟨h.1, XD_cg h.2 (fun _ _ => rfl) (fun x x1 _ => ups_ne x1) (by rw [ho.1 0 (by omega) (by omega)]; exact bd.1.1)⟩ (cS_e (by rw [o1 0 (by omega) (by omega), ups_ne (by omega)]; rfl) (by rw [ups_eq, ups_eq]; rfl) (by rw [o1 2 (by omega) (by omega), ups_ne (by omega)]; rfl) (by rw [o1 3 (by omega) (by omega), ups_ne (by omega)]; rfl) (by rw [o1 2 (by omega) (by omega), ups_ne (by omega)]; rfl) (by rw [o1 3 (by omega) (by omega), ups_ne (by omega)]; rfl) (by rw [o1 3 (by omega) (by omega), ups_ne (by omega)]; rfl) (by rw [o1 3 (by omega) (by omega), ups_ne (by omega)]; rfl)) (by rw [o1 0 (by omega) (by omega)]; exact bd.1.1)
  refine ⟨_, _, _, ?_, fin2 _ fin, GD_off hg h0 ho nk, T', ups_eq, fun x hx => by rw [ups_ne (by omega)]; exact ho.1 x (by omega) (by omega)⟩
  unfold f_X5_takesOfficer
  rw [x1, Option.bind_some]
  try dsimp only
  rw [ib_t, show fu = (fu - 2) + 1 + 1 from rfl, f_X5_takesOfficer_L12, x500 hx1.1.1, Option.bind_some, hx1.1.2.2.2.2.1.2.2.1, tk_B, Option.bind_some, if_pos (show some (ktT n bf (enT n bf (enT n bf p))) = some 4 by rw [k2]), if_pos (by decide), x2, Option.bind_some, x3, Option.bind_some]
  try dsimp only
  rw [ib_t, ck hx3.1.2.2.2.2.2.1 (kSU hx3.1.2.1), Option.bind_some, show f_X9_size (Kx X) b 1 w3 = _ from x_sizeQ hx3 (k := 1) (by omega), Option.bind_some, w5, w6]
  unfold f_X9_addOff
  try dsimp only
  rw [show ups (cS s) 1 (cS s 1 + 1) 1 = s 1 + 1 from ups_eq, show (1 : Int32) = nI 1 from rfl, sub_nI (by omega), Nat.add_sub_cancel, u902 hx3.1.1 hx3.1.2.1, Option.bind_some]
  try dsimp only
  rw [ixa_n (by omega) (by omega), Option.bind_some, q4, show (3 : Int32) = nI 3 from rfl, if_le_f (by omega) (by omega) (by omega), Option.bind_some, u903 hx3.1.1 hx3.1.2.1, Option.bind_some]
  try dsimp only
  rw [pk_mul, q4, nI_add, show s 1 * 3 + 0 = 3 * s 1 + 0 by omega, ixa_n (by omega) (by omega), Option.bind_some, Option.bind_some, u904 hx3.1.1.tI hx3.1.2.1, Option.bind_some]
  try dsimp only
  rw [ixa_n (by omega) (by omega), Option.bind_some, Option.bind_some, u902 hx3.1.1.tI.tI hx3.1.2.1, Option.bind_some]
  try dsimp only
  rw [ixa_n (by omega) (by omega), Option.bind_some, Option.bind_some, aI_tI, if_neg (by omega), aI_tI, if_neg (by omega), q4, nI_add, Option.bind_some, Option.bind_some, f_X5_takesOfficer_L12, x500 fin.1.1, Option.bind_some, fin.1.2.2.2.2.1.2.2.1, tk_B, Option.bind_some, if_neg (show ¬ some (ktT n bf (enT n bf (enT n bf (enT n bf (enT n bf (enT n bf p)))))) = some 4 from fun z => by injection z with z; rw [k5] at z; cases z)]
