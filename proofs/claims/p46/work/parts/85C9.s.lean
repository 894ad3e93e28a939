/-! What the setup's reader takes, statement by statement, further. -/
variable {X : Kd}
theorem st_wit {w0 wx : Wd} {n : Nat} {bf : Nat → Int32} {b p0 p : Nat} {s t : Nat → Nat} {nm : Nat → Nat → List Nat} {cc lo hi q1 q2 : Nat} {rest : List Tk} (hx : XQr w0 wx n bf b p0 p (cS s) s t nm) (hg : GD s t nm) (h0 : s 2 < 12) (T : Tks n bf p (tWit cc lo hi q1 q2 ++ rest)) (hf : ∀ i, i < s 2 → nm 2 i ≠ [cc]) (hl : lo ≤ hi ∧ hi ≤ 599) (hq : q1 ≤ q2 ∧ q2 ≤ 7) : ∃ wx' p' s' t', f_X5_takesWitness (Kx X) 36 wx = some (true, wx') ∧ XQr w0 wx' n bf b p0 p' (cS s') s' t' (nmU nm 2 (s 2) [cc]) ∧ GD s' t' (nmU nm 2 (s 2) [cc]) ∧ Tks n bf p' ((18, 0, []) :: rest) ∧ KEEP s s' 2 := by
  have bd := BD_of hg
  obtain ⟨-, -, -, k1, -, m1, k2, -, -, k3, v3, -, k4, v4, -, k5, -, -, k6, v6, -, k7, v7, -, T'⟩ := T
  obtain ⟨w1, x1, hx1, nk⟩ := ft_newName (X := X) (q := 2) (l := [cc]) (qi := 2) (by omega) hx bd h0 (fun i hi => hg.2.2.2.1 2 i (by omega) hi) rfl k1 (m1 rfl) hf
  obtain ⟨w2, x2, hx2, -⟩ := ft_takes (X := X) (i := 6) (by omega) hx1 k2
  obtain ⟨w4, x4, hx4, -, w7, w6⟩ := ft_span (X := X) (lb := 599) (b1 := 599) hx2 (by omega) rfl k3 (v3 rfl) k4 (v4 rfl) hl
  have c4 : ups (cS s) 2 (cS s 2 + 1) 4 = s 2 := by rw [ups_ne (by omega)]; rfl
  have b1 : BD (ups (cS s) 2 (cS s 2 + 1)) s := ⟨bd.1, bd.2.1, by rw [c4]; omega⟩
  have hx5 := XQr_wd hx4 b1 c4 hg.2.1.2.1 h0 lo hi
  have e2 : ups s (52 + s 2) lo 2 = s 2 := ups_ne (by omega)
  have b2 : BD (ups (ups (cS s) 2 (cS s 2 + 1)) 4 (s 2 + 1)) (ups s (52 + s 2) lo) := ⟨by rw [ups_ne (by omega), ups_ne (by omega), ups_ne (by omega), ups_ne (by omega)]; exact bd.1, fun o ho => by rw [ups_ne (by omega)]; exact bd.2.1 o ho, by rw [ups_eq]; omega⟩
  have hx6 := (hx5.t36 (f := 505) (v := nI 0) (by omega) (by omega)).t36 (f := 506) (v := nI 7) (by omega) (by omega)
  obtain ⟨w8, x8, hx8, r8⟩ := hx6.adv (X := X)
  obtain ⟨w9, x9, hx9, -, z7, z6⟩ := ft_span (X := X) (lb := 7) (b1 := 7) hx8 (by omega) rfl k6 (v6 rfl) k7 (v7 rfl) hq
  have fin := XQr_ws hx9 b2 (by rw [e2]; exact h0) q1 q2
  rw [e2] at fin
  have en : ∀ k, k < 8 → cS (ups (ups (ups (ups s (52 + s 2) lo) (64 + s 2) q1) (76 + s 2) q2) 2 (s 2 + 1)) k = ups (ups (cS s) 2 (cS s 2 + 1)) 4 (s 2 + 1) k := by
    have o1 : ∀ x, x < 4 → x ≠ 2 → ups (ups (ups (ups s (52 + s 2) lo) (64 + s 2) q1) (76 + s 2) q2) 2 (s 2 + 1) x = s x := fun x hx hx1 => by rw [ups_ne hx1, ups_ne (by omega), ups_ne (by omega), ups_ne (by omega)]
    have o2 : ups (ups (ups (ups s (52 + s 2) lo) (64 + s 2) q1) (76 + s 2) q2) 2 (s 2 + 1) 2 = s 2 + 1 := ups_eq
    refine cS_e ?_ ?_ ?_ ?_ ?_ ?_ ?_ ?_
    · rw [o1 0 (by omega) (by omega), ups_ne (by omega), ups_ne (by omega)]; rfl
    · rw [o1 1 (by omega) (by omega), ups_ne (by omega), ups_ne (by omega)]; rfl
    · rw [o2, ups_ne (by omega), ups_eq]; rfl
    · rw [o1 3 (by omega) (by omega), ups_ne (by omega), ups_ne (by omega)]; rfl
    · rw [o2, ups_eq]
    · rw [o1 3 (by omega) (by omega), ups_ne (by omega), ups_ne (by omega)]; rfl
    · rw [o1 3 (by omega) (by omega), ups_ne (by omega), ups_ne (by omega)]; rfl
    · rw [o1 3 (by omega) (by omega), ups_ne (by omega), ups_ne (by omega)]; rfl
  refine ⟨_, _, _, _, ?_, fin.cc en (by rw [ups_ne (by omega), ups_ne (by omega), ups_ne (by omega), ups_ne (by omega)]; exact bd.1.1), GD_wit hg h0 hl.1 hl.2 hq.1 hq.2 nk, T', ups_eq, fun x hx => by rw [ups_ne (by omega), ups_ne (by omega), ups_ne (by omega), ups_ne (by omega)]⟩
  unfold f_X5_takesWitness
  rw [x1, Option.bind_some]
  try dsimp only
  rw [ib_t, x2, Option.bind_some]
  try dsimp only
  rw [ib_t, x4, Option.bind_some]
  try dsimp only
  rw [ib_t, ck hx4.1.2.2.2.2.2.1 (kSU hx4.1.2.1), Option.bind_some, show f_X9_size (Kx X) b 2 w4 = _ from x_sizeQ hx4 (k := 2) (by omega), Option.bind_some]
  try dsimp only
  rw [ck hx4.1.2.2.2.2.2.1 (kSU hx4.1.2.1), Option.bind_some, u905 hx4.1.1 hx4.1.2.1, Option.bind_some, show ups (cS s) 2 (cS s 2 + 1) 2 = s 2 + 1 from ups_eq, show nI (s 2 + 1) - 1 = nI (s 2) from by rw [show (1 : Int32) = nI 1 from rfl, sub_nI (by omega), Nat.add_sub_cancel]]
  try dsimp only
  rw [ixa_n (by omega) (by omega), Option.bind_some, Option.bind_some, w7]
  have f8 : FX (tI w4 (b + 6) (s 2) (nI lo)) := hx4.1.1.tI
  rw [ck (show wR (tI w4 (b + 6) (s 2) (nI lo)) 501 36 = some b from hx4.1.2.2.2.2.2.1) (kSU hx4.1.2.1), Option.bind_some, u906 f8 hx4.1.2.1, Option.bind_some]
  try dsimp only
  rw [ixa_n (by omega) (by omega), Option.bind_some, show wI (tI w4 (b + 6) (s 2) (nI lo)) 506 36 = nI hi from w6, Option.bind_some, Option.bind_some, Option.bind_some, show sI (sI (tI (tI w4 (b + 6) (s 2) (nI lo)) (b + 7) (s 2) (nI hi)) 505 36 0) 506 36 7 = sI (sI (tI (tI w4 (b + 6) (s 2) (nI lo)) (b + 7) (s 2) (nI hi)) 505 36 (nI 0)) 506 36 (nI 7) from rfl, x500 hx6.1.1, Option.bind_some, hx6.1.2.2.2.2.1.2.2.1, tk_B, Option.bind_some, if_pos (show some (ktT n bf (enT n bf (enT n bf (enT n bf (enT n bf (enT n bf p)))))) = some 2 by rw [k5]), x8, Option.bind_some, x9, Option.bind_some]
  try dsimp only
  rw [ib_t, ck hx9.1.2.2.2.2.2.1 (kSU hx9.1.2.1), Option.bind_some, u907 hx9.1.1 hx9.1.2.1, Option.bind_some]
  try dsimp only
  rw [ixa_n (by omega) (by omega), Option.bind_some, Option.bind_some, z7]
  have f9 : FX (tI w9 (b + 8) (s 2) (nI q1)) := hx9.1.1.tI
  rw [ck (show wR (tI w9 (b + 8) (s 2) (nI q1)) 501 36 = some b from hx9.1.2.2.2.2.2.1) (kSU hx9.1.2.1), Option.bind_some, u908 f9 hx9.1.2.1, Option.bind_some]
  try dsimp only
  rw [ixa_n (by omega) (by omega), Option.bind_some, show wI (tI w9 (b + 8) (s 2) (nI q1)) 506 36 = nI q2 from z6, Option.bind_some]
/-- what a case needs: one witness, or none -/
theorem st_nd {w0 wx : Wd} {n : Nat} {bf : Nat → Int32} {b p0 p k nd : Nat} {c1 s t : Nat → Nat} {nm : Nat → Nat → List Nat} {mt : Option Nat} {rest : List Tk} (hk : k < 12) (hx : XQr w0 wx n bf b p0 p c1 s t nm) (g : BD c1 s) (hc2 : c1 2 = s 2) (h2 : s 2 = 2) (hN : ∀ i, i < c1 2 → NmOK (nm 2 i)) (hmt : chk (Kx X) 2 mt = some (b + 22 + k)) (z : s (136 + k) = 0) (hn0 : nm 2 0 = [23]) (hn1 : nm 2 1 = [24]) (T : Tks n bf p (tNd nd ++ ((18, 0, []) :: rest))) : ∃ wx' p' s', f_X5_takesNeeds_L2 (Kx X) 36 (fun _ _ w1 => some (true, w1)) fu mt 0 wx = some (true, wx') ∧ XQr w0 wx' n bf b p0 p' c1 s' t nm ∧ NDI s k s' ∧ Tks n bf p' ((18, 0, []) :: rest) := by
  have stop : ∀ f p wx s' v, XQr w0 wx n bf b p0 p c1 s' t nm → ktT n bf p = 18 → f_X5_takesNeeds_L2 (Kx X) 36 (fun _ _ w1 => some (true, w1)) (f + 1) mt v wx = some (true, wx) := fun f p wx s' v h hk => by
    rw [f_X5_takesNeeds_L2, x500 h.1.1, Option.bind_some, h.1.2.2.2.2.1.2.2.1, tk_B, Option.bind_some, if_neg (show ¬ some (ktT n bf p) = some 11 from fun z => by injection z with z; rw [hk] at z; cases z)]
  have one : ∀ j, j < 2 → ∀ l, nm 2 j = l → (∀ i, i < j → nm 2 i ≠ l) → Tks n bf p ((11, 0, lk wNeeds) :: (16, 0, l) :: (18, 0, []) :: rest) → ∃ wx' p' s', f_X5_takesNeeds_L2 (Kx X) 36 (fun _ _ w1 => some (true, w1)) fu mt 0 wx = some (true, wx') ∧ XQr w0 wx' n bf b p0 p' c1 s' t nm ∧ NDI s k s' ∧ Tks n bf p' ((18, 0, []) :: rest) := fun j hj l hl hfr T => by
    obtain ⟨k1, -, -, k2, -, m2, T'⟩ := T
    obtain ⟨w2, x2, hx2, -⟩ := hx.adv (X := X)
    obtain ⟨x3, hx3⟩ := ft_known (X := X) (q := 2) (j := j) (l := l) (qi := 2) (by omega) hx2 (by rw [hc2]; exact g.1.2.2.1) hN rfl k2 (m2 rfl) (by omega) hl hfr
    have q5 := (hx3.2.2.2.2.2.2.2.2.2.2.1 k hk).2.1
    have w5 : wI (sI w2 504 36 (nI j)) 504 36 = nI j := by rw [wI_sI, if_pos ⟨rfl, rfl⟩]
    have fin := XQr_cn hx3 g hk (s (136 + k) ||| 2 ^ j)
    obtain ⟨w6, x6, hx6, -⟩ := fin.adv (X := X)
    have p2 : 2 ^ j < 2 ^ s 2 := Nat.pow_lt_pow_right (by omega) (by omega)
    have p3 : 2 ^ s 2 = 4 := by rw [h2]
    refine ⟨w6, _, _, ?_, hx6, ⟨fun x hx => ups_ne hx, by rw [ups_eq, z, Nat.zero_or]; exact p2⟩, T'⟩
    rw [show fu = (fu - 2) + 1 + 1 from rfl, f_X5_takesNeeds_L2, x500 hx.1.1, Option.bind_some, hx.1.2.2.2.2.1.2.2.1, tk_B, Option.bind_some, if_pos (show some (ktT n bf p) = some 11 by rw [k1]), if_pos (by decide), x2, Option.bind_some, x3, Option.bind_some]
    try dsimp only
    rw [ib_t, hmt, Option.bind_some, q5, w5, x_has (by rw [z]; omega) (by omega), z, Nat.zero_testBit, Option.bind_some]
    try dsimp only
    rw [ib_f, q5, w5, z, shl_b (i := j) (by omega), or_nI (by omega) (by omega), Option.bind_some]
    rw [z] at x6 fin
    rw [x500 fin.1.1, Option.bind_some, x6, Option.bind_some]
    exact stop _ _ _ _ _ hx6 T'.1
  unfold tNd at T
  by_cases e : nd = 0
  · rw [if_pos e] at T
    exact one 0 (by omega) [23] hn0 (fun i hi => by omega) T
  · rw [if_neg e] at T
    by_cases e2 : nd = 1
    · rw [if_pos e2] at T
      exact one 1 (by omega) [24] hn1 (fun i hi => by
        have : i = 0 := by omega
        rw [this, hn0]
        decide) T
    · rw [if_neg e2] at T
      exact ⟨wx, p, s, stop (fu - 1) _ _ _ _ hx T.1, hx, ⟨fun _ _ => rfl, by rw [z]; exact Nat.two_pow_pos _⟩, T⟩
