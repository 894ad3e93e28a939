/-! The openings of all cases; the changes. -/
set_option maxHeartbeats 4000000 in
set_option maxRecDepth 100000 in
theorem law_65 {p : Program} {l : Launch} {e : Env} {s : State} {m : MethodId} {below : List Frame} {meth : Method} {c : Code} {E : Ev} {L : Nat} {xs : Nat → Int32} (hls : l.stackTraces = false) (hLX : LX E L xs) (hL : L < 2 ^ 31) {many mm bb : Nat} {S T : Nat → Nat} {hs : Nat → Nat → Nat} (C : CX p l e s m #[Value.ref (E.2.2.2.1 500)] meth c code 9 RL ret E) (hE : E.2.1 = s.heap.size) (hS : S 0 = 2 ∧ S 1 = 2 ∧ S 2 = 2 ∧ S 3 = 4) (hmn : many ≤ 30) (hd : T 0 ≤ 200) (hG : GI (fun _ => false) S T) : ∀ (d k : Nat), k + d = 4 → ∀ (X : Kd) (z : Nat) (w : Wd) (H : Heap) (locs : List Loc) (ls : Array Slot) (cells slots : Nat), Cst w bb S T mm hs → HQ E (Kx X) z w s H locs → lv_has ls 9 [(3, .int (nI k)), (2, .int (nI many)), (1, rv E (some 0)), (0, .ref (E.2.2.2.1 500))] → cells ≤ 750 → slots ≤ 170000 → W p l e room_1 s m #[Value.ref (E.2.2.2.1 500)] below meth c H locs cells slots (lw_Z below #[Value.ref (E.2.2.2.1 500)] s) (F0 m 65 ls []) := by
  obtain ⟨hx, hb, hml, hown, hts, hKs, hT, hb0, hlocks, hret⟩ := id C
  intro d
  induction d with
  | zero =>
    intro k hk X z w H locs ls cells slots hC hH hl h1 h2
    refine lv_iload_n hx hb dlaw_65 rfl (lv_at hl 0 rfl) ?_
    refine lv_iconst (v := 4) hx hb dlaw_66 (by decide) ?_
    refine lv_icmp_ge (tgt := 86) hx hb dlaw_67 (by decide) (fun cc => ?_) (fun cc => ?_)
    rotate_left
    · first | exact (cc (show (4 : Int32) ≤ nI k from (nI_leI (a := 4) (by omega) (by omega)).mpr (by omega))).elim | exact absurd cc (show (4 : Int32) ≤ nI k from (nI_leI (a := 4) (by omega) (by omega)).mpr (by omega))
    exact law_86 hls hLX hL C hE hS hmn hd hC hG hH (lv_sub hl [1, 2, 3] rfl) h1 h2
  | succ d ih =>
    intro k hk X z w H locs ls cells slots hC hH hl h1 h2
    obtain ⟨w1, f1, hC1⟩ := opening_ok (X := X) hC hS.1 hS.2.1 (i := k) (by omega)
    refine lv_iload_n hx hb dlaw_65 rfl (lv_at hl 0 rfl) ?_
    refine lv_iconst (v := 4) hx hb dlaw_66 (by decide) ?_
    refine lv_icmp_ge (tgt := 86) hx hb dlaw_67 (by decide) (fun cc => ?_) (fun cc => ?_)
    · first | exact (cc (show ¬ (4 : Int32) ≤ nI k from fun q => by have := (nI_leI (a := 4) (by omega) (by omega)).mp q; omega)).elim | exact absurd cc (show ¬ (4 : Int32) ≤ nI k from fun q => by have := (nI_leI (a := 4) (by omega) (by omega)).mp q; omega)
    refine hl_aload_n hx hb dlaw_70 rfl (lv_at hl 2 rfl) ?_
    refine lv_iload_n hx hb dlaw_71 rfl (lv_at hl 0 rfl) ?_
    refine hcG_i hH (va_runS (As := [rv E (some 0), .int (nI k)]) (rest := []) ⟨hx, hb, hml, hown, hts⟩ (k_L_isOpening l E (Kx X) H.size (some 0) (nI k) w f1) (va_cwS _ hts (gS m6_234 m6_235 m1_0 m6_236) rfl rfl rfl hs_L_isOpening ⟨Nat.le_of_ble_eq_true rfl, Nat.le_of_ble_eq_true rfl⟩) ⟨HB.blind, HB.pre hKs hT hb0 hH⟩ rfl rfl hl.1 rfl (lv_room rc0) dlaw_72 ⟨rm_c (by omega), rm_s (by omega)⟩) (fun H locs hH => ?_)
    refine lv_if_ne (tgt := 80) hx hb dlaw_75 (by decide) (fun cc => ?_) (fun cc => ?_)
    rotate_left
    · first | exact (cc lw_bt).elim | exact absurd cc lw_bt
    refine lv_iinc (v := nI (k + 1)) (lv' := [(3, .int (nI (k + 1))), (2, .int (nI many)), (1, rv E (some 0)), (0, .ref (E.2.2.2.1 500))]) hx hb dlaw_80 hl (k := 0) rfl (nI_succ k).symm (by decide) (by first | rfl | (simp [List.filter_cons, cat_q, cat_i, cat_j, imax, imin]; done) | (simp [List.filter_cons, cat_q, cat_i, cat_j, imax, imin]; rfl)) (fun ls hl => ?_)
    refine lv_goto (tgt := 65) hx hb dlaw_83 (by decide) ?_
    exact ih (k + 1) (by omega) X _ w1 H locs ls cells slots hC1 hH hl h1 h2
set_option maxHeartbeats 4000000 in
set_option maxRecDepth 100000 in
theorem law_34 {p : Program} {l : Launch} {e : Env} {s : State} {m : MethodId} {below : List Frame} {meth : Method} {c : Code} {E : Ev} {L : Nat} {xs : Nat → Int32} (hls : l.stackTraces = false) (hLX : LX E L xs) (hL : L < 2 ^ 31) {many bb : Nat} {S : Nat → Nat} (C : CX p l e s m #[Value.ref (E.2.2.2.1 500)] meth c code 9 RL ret E) (hE : E.2.1 = s.heap.size) (hS : S 0 = 2 ∧ S 1 = 2 ∧ S 2 = 2 ∧ S 3 = 4) (hmn : many ≤ 30) : ∀ (d k : Nat), k + d = many → ∀ (X : Kd) (z : Nat) (w : Wd) (H : Heap) (locs : List Loc) (ls : Array Slot) (cells slots mm : Nat) (T : Nat → Nat) (hs : Nat → Nat → Nat), Cst w bb S T mm hs → GI (fun _ => false) S T → T 0 ≤ 5 * k → HQ E (Kx X) z w s H locs → lv_has ls 9 [(3, .int (nI k)), (2, .int (nI many)), (1, rv E (some 0)), (0, .ref (E.2.2.2.1 500))] → cells ≤ 580 + 4 * k → slots ≤ 130000 + 24 * k → W p l e room_1 s m #[Value.ref (E.2.2.2.1 500)] below meth c H locs cells slots (lw_Z below #[Value.ref (E.2.2.2.1 500)] s) (F0 m 34 ls []) := by
  obtain ⟨hx, hb, hml, hown, hts, hKs, hT, hb0, hlocks, hret⟩ := id C
  intro d
  induction d with
  | zero =>
    intro k hk X z w H locs ls cells slots mm T hs hC hG hd hH hl h1 h2
    refine lv_iload_n hx hb dlaw_34 rfl (lv_at hl 0 rfl) ?_
    refine lv_iload_n hx hb dlaw_35 rfl (lv_at hl 1 rfl) ?_
    refine lv_icmp_ge (tgt := 63) hx hb dlaw_36 (by decide) (fun cc => ?_) (fun cc => ?_)
    rotate_left
    · first | exact (cc (show nI many ≤ nI k from (nI_leI (by omega) (by omega)).mpr (by omega))).elim | exact absurd cc (show nI many ≤ nI k from (nI_leI (by omega) (by omega)).mpr (by omega))
    refine lv_iconst (v := 0) hx hb dlaw_63 (by decide) ?_
    refine lv_istore_n (i := 3) (lv' := [(3, .int 0), (2, .int (nI many)), (1, rv E (some 0)), (0, .ref (E.2.2.2.1 500))]) hx hb dlaw_64 rfl hl (by decide) (by first | rfl | (simp [List.filter_cons, cat_q, cat_i, cat_j, imax, imin]; done) | (simp [List.filter_cons, cat_q, cat_i, cat_j, imax, imin]; rfl)) (fun ls hl => ?_)
    exact law_65 hls hLX hL C hE hS hmn (by omega) hG 4 0 rfl X _ w H locs ls cells slots hC hH hl (by omega) (by omega)
  | succ d ih =>
    intro k hk X z w H locs ls cells slots mm T hs hC hG hd hH hl h1 h2
    refine lv_iload_n hx hb dlaw_34 rfl (lv_at hl 0 rfl) ?_
    refine lv_iload_n hx hb dlaw_35 rfl (lv_at hl 1 rfl) ?_
    refine lv_icmp_ge (tgt := 63) hx hb dlaw_36 (by decide) (fun cc => ?_) (fun cc => ?_)
    · first | exact (cc (show ¬ nI many ≤ nI k from fun q => by have := (nI_leI (by omega) (by omega)).mp q; omega)).elim | exact absurd cc (show ¬ nI many ≤ nI k from fun q => by have := (nI_leI (by omega) (by omega)).mp q; omega)
    refine hl_aload_n hx hb dlaw_39 rfl (lv_at hl 2 rfl) ?_
    refine lv_aload_n hx hb dlaw_40 rfl (lv_at hl 3 rfl) ?_
    refine lv_iload_n hx hb dlaw_41 rfl (lv_at hl 0 rfl) ?_
    refine lv_bipush (v := 9) hx hb dlaw_42 (by decide) ?_
    refine lv_iadd hx hb dlaw_44 ?_
    have e9 : nI k + 9 = nI (k + 9) := nI_add k 9
    obtain ⟨w1, f1, T', m', hs', k1, k2, k3, k4⟩ := act_ok (X := X) hC hG hS.2.1 hS.2.2.1 hS.2.2.2 hL (xs := xs) (k := k + 9) (by omega) (by omega)
    rw [← e9] at f1
    refine hcWv hH (va_runS (As := [rv E (some 0), .ref (E.2.2.2.1 500), .int (nI k + 9)]) (rest := []) ⟨hx, hb, hml, hown, hts⟩ (k_L_act l hls E hLX (Kx X) H.size (some 0) (nI k + 9) _ f1) (va_cwS _ hts (gS m6_79 m6_80 m1_0 m6_81) rfl rfl rfl hs_L_act ⟨Nat.le_of_ble_eq_true rfl, Nat.le_of_ble_eq_true rfl⟩) ⟨HB.blind, HB.pre hKs hT hb0 hH⟩ rfl rfl hl.1 rfl (lv_room rc0) dlaw_45 ⟨rm_c (by omega), rm_s (by omega)⟩) (fun H locs z1 hH => ?_)
    refine hl_aload_n hx hb dlaw_48 rfl (lv_at hl 2 rfl) ?_
    obtain ⟨n49, hn49, hH⟩ := hq_n hH
    obtain ⟨v49, g49, u49⟩ := good_ok (X := X) k1 k2 (by omega) (by omega) hn49
    refine hcWk hH (va_runS (As := [rv E (some 0)]) (rest := []) ⟨hx, hb, hml, hown, hts⟩ (k_L_isGood l E (Kx X) n49 (some 0) _ g49) (va_cwS _ hts (gS m6_179 m6_180 m1_0 m6_181) rfl rfl rfl hs_L_isGood ⟨Nat.le_of_ble_eq_true rfl, Nat.le_of_ble_eq_true rfl⟩) ⟨HB.blind, HB.preN hKs hT hb0 hH⟩ rfl rfl hl.1 rfl (lv_room rc0) dlaw_49 ⟨rm_c (by omega), rm_s (by omega)⟩) (fun H locs z1 hH => ?_)
    rw [kup_x hn49] at hH
    generalize kup X n49 (20, 2) = X at hH
    refine lv_if_ne (tgt := 57) hx hb dlaw_52 (by decide) (fun cc => ?_) (fun cc => ?_)
    rotate_left
    · first | exact (cc lw_bt).elim | exact absurd cc lw_bt
    refine lv_iinc (v := nI (k + 1)) (lv' := [(3, .int (nI (k + 1))), (2, .int (nI many)), (1, rv E (some 0)), (0, .ref (E.2.2.2.1 500))]) hx hb dlaw_57 hl (k := 0) rfl (nI_succ k).symm (by decide) (by first | rfl | (simp [List.filter_cons, cat_q, cat_i, cat_j, imax, imin]; done) | (simp [List.filter_cons, cat_q, cat_i, cat_j, imax, imin]; rfl)) (fun ls hl => ?_)
    refine lv_goto (tgt := 34) hx hb dlaw_60 (by decide) ?_
    exact ih (k + 1) (by omega) X _ _ H locs ls _ _ m' T' hs' u49 k2 (by omega) hH hl (by omega) (by omega)
