/-! What the setup's reader takes: cases, a conflict, a cap. -/
variable {X : Kd}
theorem st_cas {w0 wx : Wd} {n : Nat} {bf : Nat → Int32} {b p0 p : Nat} {s t : Nat → Nat} {nm : Nat → Nat → List Nat} {cc v1 v2 v3 nd : Nat} {cu : Bool} {rest : List Tk} (hx : XQr w0 wx n bf b p0 p (cS s) s t nm) (hg : GD s t nm) (h0 : s 3 < 12) (h2 : s 2 = 2) (hn0 : nm 2 0 = [23]) (hn1 : nm 2 1 = [24]) (T : Tks n bf p (tCase cc v1 v2 v3 cu nd ++ rest)) (hf : ∀ i, i < s 3 → nm 3 i ≠ [cc]) (l1 : v1 ≤ 99) (l2 : 1 ≤ v2 ∧ v2 ≤ 4) (l3 : 1 ≤ v3 ∧ v3 ≤ 60) : ∃ wx' p' s', f_X5_takesCase (Kx X) 36 wx = some (true, wx') ∧ XQr w0 wx' n bf b p0 p' (cS s') s' t (nmU nm 3 (s 3) [cc]) ∧ GD s' t (nmU nm 3 (s 3) [cc]) ∧ Tks n bf p' ((18, 0, []) :: rest) ∧ KEEP s s' 3 := by
  have bd := BD_of hg
  have g3 := hg.1.1
  have cz := hg.2.2.2.2.2.1 (s 3) (Nat.le_refl _) h0
  have T2 : Tks n bf p ((7, 0, lk wCase) :: (16, 0, [cc]) :: (8, 0, lk wFiled) :: (17, v1, []) :: (2, 0, lk wSlots) :: (17, v2, []) :: (9, 0, lk wLimit) :: (17, v3, []) :: (tCu cu ++ (tNd nd ++ ((18, 0, []) :: rest)))) := by
    have e : tCase cc v1 v2 v3 cu nd ++ rest = (7, 0, lk wCase) :: (16, 0, [cc]) :: (8, 0, lk wFiled) :: (17, v1, []) :: (2, 0, lk wSlots) :: (17, v2, []) :: (9, 0, lk wLimit) :: (17, v3, []) :: (tCu cu ++ (tNd nd ++ ((18, 0, []) :: rest))) := by
      simp only [tCase, List.append_assoc, List.cons_append, List.nil_append]
    rw [← e]
    exact T
  obtain ⟨-, -, -, k1, -, m1, k2, -, -, k3, u3, -, k4, -, -, k5, u5, -, k6, -, -, k7, u7, -, T'⟩ := T2
  obtain ⟨w1, x1, hx1, nk⟩ := ft_newName (X := X) (q := 3) (l := [cc]) (qi := 3) (by omega) hx bd h0 (fun i hi => hg.2.2.2.1 3 i (by omega) hi) rfl k1 (m1 rfl) hf
  have mt := umt (X := X) hx1.1.1 hx1.1.2.1 h0
  have us := u909 (X := X) hx1.1.1 hx1.1.2.1
  have sz := show f_X9_size (Kx X) b 3 w1 = _ from x_sizeQ hx1 (k := 3) (by omega)
  have ckb := ck hx1.1.2.2.2.2.2.1 (kSU (X := X) hx1.1.2.1)
  obtain ⟨w2, x2, hx2, -⟩ := ft_takes (X := X) (i := 8) (by omega) hx1 k2
  obtain ⟨w3, x3, hx3, -, -, y4⟩ := ft_number (X := X) (la := 0) (lb := 99) (a1 := 0) (b1 := 99) hx2 (by omega) rfl rfl k3 (u3 rfl) ⟨Nat.zero_le _, l1⟩
  have c5 : ups (cS s) 3 (cS s 3 + 1) 5 = s 3 := by rw [ups_ne (by omega)]; rfl
  have c6 : ups (cS s) 3 (cS s 3 + 1) 6 = s 3 := by rw [ups_ne (by omega)]; rfl
  have c7 : ups (cS s) 3 (cS s 3 + 1) 7 = s 3 := by rw [ups_ne (by omega)]; rfl
  have c4 : ups (cS s) 3 (cS s 3 + 1) 4 = s 2 := by rw [ups_ne (by omega)]; rfl
  have b1 : BD (ups (cS s) 3 (cS s 3 + 1)) s := ⟨bd.1, bd.2.1, by rw [c4]; omega⟩
  have cs3 : ups (cS s) 3 (cS s 3 + 1) 3 = s 3 + 1 := ups_eq
  rw [cs3] at sz
  generalize hc1 : ups (cS s) 3 (cS s 3 + 1) = c1 at *
  have hx3' := XQr_cf hx3 b1 c5 h0 v1
  obtain ⟨w4, x4, hx4, -⟩ := ft_takes (X := X) (i := 2) (by omega) hx3' k4
  obtain ⟨w5, x5, hx5, -, -, y5⟩ := ft_number (X := X) (la := 1) (lb := 4) (a1 := 1) (b1 := 4) hx4 (by omega) rfl rfl k5 (u5 rfl) l2
  have b2 : BD (ups c1 5 (s 3 + 1)) (ups s (88 + s 3) v1) := BD_c (BD_u b1 (by omega)) (by rw [ups_ne (by omega)]; exact b1.2.2)
  have hx5' := XQr_cs hx5 b2 (q := s 3) (by rw [ups_ne (by omega)]; exact c6) h0 v2
  obtain ⟨w6, x6, hx6, -⟩ := ft_takes (X := X) (i := 9) (by omega) hx5' k6
  obtain ⟨w7, x7, hx7, -, -, y7⟩ := ft_number (X := X) (la := 1) (lb := 60) (a1 := 1) (b1 := 60) hx6 (by omega) rfl rfl k7 (u7 rfl) l3
  have b3 : BD (ups (ups c1 5 (s 3 + 1)) 6 (s 3 + 1)) (ups (ups s (88 + s 3) v1) (100 + s 3) v2) := BD_c (BD_u b2 (by omega)) (by rw [ups_ne (by omega)]; exact b2.2.2)
  have hx7' := XQr_cl hx7 b3 (q := s 3) (by rw [ups_ne (by omega), ups_ne (by omega)]; exact c7) h0 v3
  have b4 : BD (ups (ups (ups c1 5 (s 3 + 1)) 6 (s 3 + 1)) 7 (s 3 + 1)) (ups (ups (ups s (88 + s 3) v1) (100 + s 3) v2) (112 + s 3) v3) := BD_c (BD_u b3 (by omega)) (by rw [ups_ne (by omega)]; exact b3.2.2)
  have pre : ∀ r, (if wR (sI w7 302 (b + 22 + s 3) (nI v3)) 804 37 = some 10 then (f_X8_advance (Kx X) 37 (sZ (sI w7 302 (b + 22 + s 3) (nI v3)) 303 (b + 22 + s 3) true)).bind fun q29 => f_X5_takesNeeds (Kx X) 36 (aR w1 (b + 10) (s 3)) q29 else f_X5_takesNeeds (Kx X) 36 (aR w1 (b + 10) (s 3)) (sI w7 302 (b + 22 + s 3) (nI v3))) = r → f_X5_takesCase (Kx X) 36 wx = r := fun r hr => by
    have kt := hx7'.1.2.2.2.2.1.2.2.1
    unfold f_X5_takesCase
    rw [x1, Option.bind_some]
    try dsimp only
    rw [ib_t, ckb, Option.bind_some, sz, Option.bind_some, us, Option.bind_some]
    try dsimp only
    rw [show nI (s 3 + 1) - 1 = nI (s 3) from by rw [show (1 : Int32) = nI 1 from rfl, sub_nI (by omega), Nat.add_sub_cancel], ixa_n (by omega) (by omega), Option.bind_some, x2, Option.bind_some]
    try dsimp only
    rw [ib_t, x3, Option.bind_some]
    try dsimp only
    rw [ib_t, mt, Option.bind_some, y4, Option.bind_some, x4, Option.bind_some]
    try dsimp only
    rw [ib_t, x5, Option.bind_some]
    try dsimp only
    rw [ib_t, y5, Option.bind_some, x6, Option.bind_some]
    try dsimp only
    rw [ib_t, x7, Option.bind_some]
    try dsimp only
    rw [ib_t, y7, Option.bind_some, x500 hx7'.1.1, Option.bind_some, kt, tk_B, Option.bind_some, ← kt, ← hr]
    by_cases e : wR (sI w7 302 (b + 22 + s 3) (nI v3)) 804 37 = some 10
    · rw [if_pos e, if_pos e, Option.bind_some, x500 hx7'.1.1.sZ, Option.bind_some]
      refine congrArg _ (funext fun q29 => ?_)
      rw [bind_pr]
    · rw [if_neg e, if_neg e, bind_pr]
  have main : ∀ (v4 : Nat) wx8 p8, v4 ≤ 1 → XQr w0 wx8 n bf b p0 p8 (ups (ups (ups c1 5 (s 3 + 1)) 6 (s 3 + 1)) 7 (s 3 + 1)) (ups (ups (ups (ups s (88 + s 3) v1) (100 + s 3) v2) (112 + s 3) v3) (124 + s 3) v4) t (nmU nm 3 (s 3) [cc]) → Tks n bf p8 (tNd nd ++ ((18, 0, []) :: rest)) → ∃ wx' p' s', f_X5_takesNeeds (Kx X) 36 (aR w1 (b + 10) (s 3)) wx8 = some (true, wx') ∧ XQr w0 wx' n bf b p0 p' (cS s') s' t (nmU nm 3 (s 3) [cc]) ∧ GD s' t (nmU nm 3 (s 3) [cc]) ∧ Tks n bf p' ((18, 0, []) :: rest) ∧ KEEP s s' 3 := fun v4 wx8 p8 hv4 hx8 T8 => by
    have z : (ups (ups (ups (ups s (88 + s 3) v1) (100 + s 3) v2) (112 + s 3) v3) (124 + s 3) v4) (136 + s 3) = 0 := by rw [ups_ne (by omega), ups_ne (by omega), ups_ne (by omega), ups_ne (by omega), cz.2.1]
    have s2e : (ups (ups (ups (ups s (88 + s 3) v1) (100 + s 3) v2) (112 + s 3) v3) (124 + s 3) v4) 2 = s 2 := by rw [ups_ne (by omega), ups_ne (by omega), ups_ne (by omega), ups_ne (by omega)]
    have C2 : ups (ups (ups c1 5 (s 3 + 1)) 6 (s 3 + 1)) 7 (s 3 + 1) 2 = s 2 := by rw [ups_ne (by omega), ups_ne (by omega), ups_ne (by omega), ← hc1, ups_ne (by omega)]; rfl
    obtain ⟨w9, p9, s', x9, hx9, ho, T9⟩ := st_nd (X := X) (k := s 3) (mt := aR w1 (b + 10) (s 3)) (rest := rest) h0 hx8 (BD_u b4 (by omega)) (by rw [s2e]; exact C2) (by rw [s2e]; exact h2) (fun i hi => by rw [nmU_ne (by omega)]; rw [C2] at hi; exact hg.2.2.2.1 2 i (by omega) hi) mt z (by rw [nmU_ne (by omega)]; exact hn0) (by rw [nmU_ne (by omega)]; exact hn1) T8
    have o1 : ∀ x, x < 4 → s' x = s x := fun x hx => by rw [ho.1 x (by omega), ups_ne (by omega), ups_ne (by omega), ups_ne (by omega), ups_ne (by omega)]
    have hx10 : XQr w0 w9 n bf b p0 p9 (ups (ups (ups c1 5 (s 3 + 1)) 6 (s 3 + 1)) 7 (s 3 + 1)) (ups s' 3 (s 3 + 1)) t (nmU nm 3 (s 3) [cc]) := ⟨hx9.1, XD_cg hx9.2 (fun _ _ => rfl) (fun x _ x3 => ups_ne x3) (by rw [o1 0 (by omega)]; exact bd.1.1)⟩
    refine ⟨w9, p9, _, x9, hx10.cc (cS_e ?_ ?_ ?_ ?_ ?_ ?_ ?_ ?_) (by rw [ups_ne (by omega), o1 0 (by omega)]; exact bd.1.1), GD_cas hg h0 l1 l2 l3 hv4 ho nk, T9, ups_eq, fun x hx => ?_⟩
    · rw [ups_ne (by omega), ups_ne (by omega), ups_ne (by omega), ← hc1, ups_ne (by omega), ups_ne (by omega), o1 0 (by omega)]; rfl
    · rw [ups_ne (by omega), ups_ne (by omega), ups_ne (by omega), ← hc1, ups_ne (by omega), ups_ne (by omega), o1 1 (by omega)]; rfl
    · rw [C2, ups_ne (by omega), o1 2 (by omega)]
    · rw [ups_ne (by omega), ups_ne (by omega), ups_ne (by omega), ← hc1, ups_eq, ups_eq]; rfl
    · rw [ups_ne (by omega), ups_ne (by omega), ups_ne (by omega), c4, ups_ne (by omega), o1 2 (by omega)]
    · rw [ups_ne (by omega), ups_ne (by omega), ups_eq, ups_eq]
    · rw [ups_ne (by omega), ups_eq, ups_eq]
    · rw [ups_eq, ups_eq]
    · rw [ups_ne (by omega), ho.1 x (by omega), ups_ne (by omega), ups_ne (by omega), ups_ne (by omega), ups_ne (by omega)]
  have kt := hx7'.1.2.2.2.2.1.2.2.1
  cases cu with
  | true =>
    obtain ⟨k8, -, -, T8⟩ := (show Tks n bf _ ((10, 0, lk wCustody) :: (tNd nd ++ ((18, 0, []) :: rest))) from T')
    have hx8 := XQr_cc hx7' b4 h0
    obtain ⟨w9, x9, hx9, rx9⟩ := hx8.adv (X := X)
    obtain ⟨wx', p', s', y1, y2⟩ := main 1 w9 _ (by omega) hx9 T8
    exact ⟨wx', p', s', pre _ (by rw [kt, if_pos (by rw [k8]), x9, Option.bind_some]; exact y1), y2⟩
  | false =>
    have T8 : Tks n bf _ (tNd nd ++ ((18, 0, []) :: rest)) := T'
    have e124 : ups (ups (ups (ups s (88 + s 3) v1) (100 + s 3) v2) (112 + s 3) v3) (124 + s 3) 0 = ups (ups (ups s (88 + s 3) v1) (100 + s 3) v2) (112 + s 3) v3 := funext fun x => by
      by_cases e : x = 124 + s 3
      · rw [e, ups_eq, ups_ne (by omega), ups_ne (by omega), ups_ne (by omega), cz.1]
      · rw [ups_ne e]
    have k10 : ∀ p, Tks n bf p (tNd nd ++ ((18, 0, []) :: rest)) → ktT n bf p ≠ 10 := fun p h => by
      unfold tNd at h
      by_cases e : nd = 0
      · rw [if_pos e] at h
        have := h.1
        intro q
        rw [q] at this
        cases this
      · rw [if_neg e] at h
        by_cases e2 : nd = 1
        · rw [if_pos e2] at h
          have := h.1
          intro q
          rw [q] at this
          cases this
        · rw [if_neg e2] at h
          have := h.1
          intro q
          rw [q] at this
          cases this
    have nk10 := k10 _ T8
    obtain ⟨wx', p', s', y1, y2⟩ := main 0 _ _ (by omega) (by rw [e124]; exact hx7') T8
    exact ⟨wx', p', s', pre _ (by rw [kt, if_neg (fun z => nk10 (by injection z))]; exact y1), y2⟩
theorem st_con {w0 wx : Wd} {n : Nat} {bf : Nat → Int32} {b p0 p : Nat} {s t : Nat → Nat} {nm : Nat → Nat → List Nat} {rest : List Tk} (hx : XQr w0 wx n bf b p0 p (cS s) s t nm) (hg : GD s t nm) (h3 : s 3 = 4) (hz : ∀ i, i < 12 → s (148 + i) = 0) (hn0 : nm 3 0 = [1]) (hn1 : nm 3 1 = [2]) (T : Tks n bf p (tCon ++ rest)) : ∃ wx' p' s', f_X5_takesConflict (Kx X) 36 wx = some (true, wx') ∧ XQr w0 wx' n bf b p0 p' (cS s') s' t nm ∧ GD s' t nm ∧ Tks n bf p' ((18, 0, []) :: rest) ∧ ∀ x, (x < 4 ∨ x = 165) → s' x = s x := by
  have bd := BD_of hg
  have h12 := hg.1.1.2.2.2
  obtain ⟨-, -, -, k1, -, m1, k2, -, m2, T'⟩ := T
  obtain ⟨w1, x1, hx1, rx1⟩ := hx.adv (X := X)
  obtain ⟨x2, hx2⟩ := ft_known (X := X) (q := 3) (j := 0) (l := [1]) (qi := 3) (by omega) hx1 h12 (fun i hi => hg.2.2.2.1 3 i (by omega) hi) rfl k1 (m1 rfl) (show 0 < s 3 by omega) hn0 (fun i hi => by omega)
  obtain ⟨w3, x3, hx3, rx3⟩ := hx2.adv (X := X)
  obtain ⟨x4, hx4⟩ := ft_known (X := X) (q := 3) (j := 1) (l := [2]) (qi := 3) (by omega) hx3 h12 (fun i hi => hg.2.2.2.1 3 i (by omega) hi) rfl k2 (m2 rfl) (show 1 < s 3 by omega) hn1 (fun i hi => by
    have : i = 0 := by omega
    rw [this, hn0]
    decide)
  have w4 : wI (sI w1 504 36 (nI 0)) 504 36 = nI 0 := by rw [wI_sI, if_pos ⟨rfl, rfl⟩]
  have w5 : wI (sI w3 504 36 (nI 1)) 504 36 = nI 1 := by rw [wI_sI, if_pos ⟨rfl, rfl⟩]
  have q5 := (hx4.2.2.2.2.2.2.2.2.2.2.1 0 (by omega)).2.2.1
  have q6 := (hx4.2.2.2.2.2.2.2.2.2.2.1 1 (by omega)).2.2.1
  have z0 := hz 0 (by omega)
  have z1 := hz 1 (by omega)
  have hx5 := XQr_cx hx4 bd (q := 0) (by omega) (s (148 + 0) ||| 2 ^ 1)
  have hx6 := XQr_cx hx5 (BD_u bd (by omega)) (q := 1) (by omega) (s (148 + 1) ||| 2 ^ 0)
  obtain ⟨w7, x7, hx7, -⟩ := hx6.adv (X := X)
  have w6 : wI (sI (sI w3 504 36 (nI 1)) 305 (b + 22 + 0) (nI (s (148 + 0) ||| 2 ^ 1))) 305 (b + 22 + 1) = nI (s (148 + 1)) := by rw [wI_sI, if_neg (by omega)]; exact q6
  refine ⟨w7, _, _, ?_, hx7.cc (cS_e (by rw [ups_ne (by omega), ups_ne (by omega)]; rfl) (by rw [ups_ne (by omega), ups_ne (by omega)]; rfl) (by rw [ups_ne (by omega), ups_ne (by omega)]; rfl) (by rw [ups_ne (by omega), ups_ne (by omega)]; rfl) (by rw [ups_ne (by omega), ups_ne (by omega)]; rfl) (by rw [ups_ne (by omega), ups_ne (by omega)]; rfl) (by rw [ups_ne (by omega), ups_ne (by omega)]; rfl) (by rw [ups_ne (by omega), ups_ne (by omega)]; rfl)) (by rw [ups_ne (by omega), ups_ne (by omega)]; exact bd.1.1), GD_con hg (p := 0) (q := 1) (by omega) (by omega) (by omega), T', fun x hx => by rw [ups_ne (by omega), ups_ne (by omega)]⟩
  unfold f_X5_takesConflict
  rw [x500 hx.1.1, Option.bind_some, x1, Option.bind_some, x2, Option.bind_some]
  try dsimp only
  rw [ib_t, x500 hx2.1.1, Option.bind_some, x3, Option.bind_some, x4, Option.bind_some]
  try dsimp only
  rw [ib_t, w4, w5, if_neg (by decide), ck hx4.1.2.2.2.2.2.1 (kSU hx4.1.2.1), Option.bind_some, u909 hx4.1.1 hx4.1.2.1, Option.bind_some]
  try dsimp only
  rw [ixa_n (by omega) (by omega), Option.bind_some, umt hx4.1.1 hx4.1.2.1 (by omega), Option.bind_some, q5, x_has (by rw [z0]; omega) (by omega), z0, Nat.zero_testBit, Option.bind_some]
  try dsimp only
  rw [ib_f, ck hx4.1.2.2.2.2.2.1 (kSU hx4.1.2.1), Option.bind_some, u909 hx4.1.1 hx4.1.2.1, Option.bind_some]
  try dsimp only
  rw [z0] at q5 hx5 hx6 x7 w6
  rw [ixa_n (by omega) (by omega), Option.bind_some, umt hx4.1.1 hx4.1.2.1 (by omega), Option.bind_some, q5, shl_b (i := 1) (by omega), or_nI (by omega) (by omega), Option.bind_some, ck hx5.1.2.2.2.2.2.1 (kSU hx5.1.2.1), Option.bind_some, u909 hx5.1.1 hx5.1.2.1, Option.bind_some]
  try dsimp only
  rw [ixa_n (by omega) (by omega), Option.bind_some, umt hx5.1.1 hx5.1.2.1 (by omega), Option.bind_some, w6, z1, shl_b (i := 0) (by omega), or_nI (by omega) (by omega), Option.bind_some]
  rw [z1] at hx6 x7
  rw [x500 hx6.1.1, Option.bind_some, x7, Option.bind_some]
theorem st_cap {w0 wx : Wd} {n : Nat} {bf : Nat → Int32} {b p0 p v : Nat} {s t : Nat → Nat} {nm : Nat → Nat → List Nat} {rest : List Tk} (hx : XQr w0 wx n bf b p0 p (cS s) s t nm) (hg : GD s t nm) (h5 : s 165 = 0) (T : Tks n bf p (tCap v ++ rest)) (hv : v ≤ 60) : ∃ wx' p' s', f_X5_takesCap (Kx X) 36 wx = some (true, wx') ∧ XQr w0 wx' n bf b p0 p' (cS s') s' t nm ∧ GD s' t nm ∧ Tks n bf p' ((18, 0, []) :: rest) ∧ ∀ x, x < 4 → s' x = s x := by
  have bd := BD_of hg
  have q14 := hx.2.2.2.2.2.2.2.2.2.2.2.2.1.2.2
  obtain ⟨-, -, -, k1, u1, -, T'⟩ := T
  have hx2 := XQr_kt hx bd
  obtain ⟨w3, x3, hx3, -⟩ := hx2.adv (X := X)
  obtain ⟨w4, x4, hx4, -, -, y4⟩ := ft_number (X := X) (la := 0) (lb := 60) (a1 := 0) (b1 := 60) hx3 (by omega) rfl rfl k1 (u1 rfl) ⟨Nat.zero_le _, hv⟩
  have hx5 := XQr_kv hx4 (BD_u bd (by omega)) v
  refine ⟨_, _, _, ?_, hx5.cc (cS_e (by rw [ups_ne (by omega), ups_ne (by omega)]; rfl) (by rw [ups_ne (by omega), ups_ne (by omega)]; rfl) (by rw [ups_ne (by omega), ups_ne (by omega)]; rfl) (by rw [ups_ne (by omega), ups_ne (by omega)]; rfl) (by rw [ups_ne (by omega), ups_ne (by omega)]; rfl) (by rw [ups_ne (by omega), ups_ne (by omega)]; rfl) (by rw [ups_ne (by omega), ups_ne (by omega)]; rfl) (by rw [ups_ne (by omega), ups_ne (by omega)]; rfl)) (by rw [ups_ne (by omega), ups_ne (by omega)]; exact bd.1.1), GD_cap hg hv, T', fun x hx => by rw [ups_ne (by omega), ups_ne (by omega)]⟩
  unfold f_X5_takesCap
  rw [ck hx.1.2.2.2.2.2.1 (kSU hx.1.2.1), Option.bind_some, q14, h5, show ((0 : Nat) == 1) = false from rfl, ib_f, Option.bind_some, x500 hx2.1.1, Option.bind_some, x3, Option.bind_some, x4, Option.bind_some]
  try dsimp only
  rw [ib_t, ck hx4.1.2.2.2.2.2.1 (kSU hx4.1.2.1), Option.bind_some, y4, Option.bind_some]
