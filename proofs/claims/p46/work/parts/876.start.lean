/-! The start of the law. -/
set_option maxHeartbeats 4000000 in
set_option maxRecDepth 100000 in
theorem law_0 {p : Program} {l : Launch} {e : Env} {s : State} {m : MethodId} {below : List Frame} {meth : Method} {c : Code} {E : Ev} {L : Nat} {xs : Nat → Int32} (hls : l.stackTraces = false) (hLX : LX E L xs) (hL : L < 2 ^ 31) {ls : Array Slot} (C : CX p l e s m #[Value.ref (E.2.2.2.1 500)] meth c code 9 RL ret E) (hE : E.2.1 = s.heap.size) (hl : lv_has ls 9 [(0, .ref (E.2.2.2.1 500))]) : W p l e room_1 s m #[Value.ref (E.2.2.2.1 500)] below meth c s.heap [] 0 0 (lw_Z below #[Value.ref (E.2.2.2.1 500)] s) (F0 m 0 ls []) := by
  obtain ⟨hx, hb, hml, hown, hts, hKs, hT, hb0, hlocks, hret⟩ := id C
  obtain ⟨X, X2, n, so, w0, w1, w2, bb, S, T, e0, e1, e2, hC, hG, hS, hT0⟩ := x_started (L := L) (xs := xs) hL
  have hM := drN_rg (L := L) (xs := xs) (a := 33) (lo := 3) (hi := 30) (by omega)
  have hH : HQ E kn0 (E.2.1 + 0) w00 s s.heap [] := ⟨fun a q h => absurd h (by simp [kn0]), va_S.rf, by rw [hE]; rfl⟩
  refine hw_new (ci := 10) (C := RX12) (T := TX12) (N := 16) hx hb hts iX12 tyX12 tyX12_ok hown m1_34 (hts _ m1_35) m1_1 hKs hb0 hH rfl rfl (fun j hj => dfX12 j hj) (Nat.le_of_ble_eq_true rfl) (Nat.le_of_ble_eq_true rfl) dlaw_0 (fun H hH => ?_)
  refine lv_dup hx hb dlaw_3 rv_cat ?_
  refine hcA hH (va_runI (As := []) (rest := [rv E (some 0)]) ⟨hx, hb, hml, hown, hts⟩ (k_X12_init l E (kup kn0 0 (10, 0)) (0 + 1) 0 (clr w00 0) e0) (cwI _ hts (gC m1_38) rfl rfl rfl (hts _ m1_1) (hts _ m1_36) (hts _ m1_37) rfl hs_X12_init ⟨Nat.le_of_ble_eq_true rfl, Nat.le_of_ble_eq_true rfl⟩) ⟨HB.blind, HB.preN hKs hT hb0 hH⟩ rfl rfl hl.1 rfl (lv_room (rcV rc0)) dlaw_4 ⟨Nat.le_of_ble_eq_true rfl, Nat.le_of_ble_eq_true rfl⟩) (fun H locs hH => ?_)
  refine hl_astore_n (i := 1) (lv' := [(1, rv E (some 0)), (0, .ref (E.2.2.2.1 500))]) hx hb dlaw_7 rfl hl (by decide) (by first | rfl | (simp [List.filter_cons, cat_q, cat_i, cat_j, imax, imin]; done) | (simp [List.filter_cons, cat_q, cat_i, cat_j, imax, imin]; rfl)) (fun ls hl => ?_)
  refine hl_aload_n hx hb dlaw_8 rfl (lv_at hl 0 rfl) ?_
  refine lv_aload_n hx hb dlaw_9 rfl (lv_at hl 1 rfl) ?_
  refine hcAq hH (va_runS (As := [.ref (E.2.2.2.1 500)]) (rest := [rv E (some 0)]) ⟨hx, hb, hml, hown, hts⟩ (k_L_setup l E hLX (Kx X) 415 w0 e1) (va_cwS _ hts (gS m5_62 m5_63 m1_0 m5_64) rfl rfl rfl hs_L_setup ⟨Nat.le_of_ble_eq_true rfl, Nat.le_of_ble_eq_true rfl⟩) ⟨HB.blind, HB.preN hKs hT hb0 hH⟩ rfl rfl hl.1 rfl (lv_room (rcV rc0)) dlaw_10 ⟨Nat.le_of_ble_eq_true rfl, Nat.le_of_ble_eq_true rfl⟩) (fun H locs hH => ?_)
  refine hcWk hH (va_runS (As := [rv E (some 0), rv E (some so)]) (rest := []) ⟨hx, hb, hml, hown, hts⟩ (k_L_parsed l E (Kx X2) n (some 0) (some so) w1 e2) (va_cwS _ hts (gS m4_67 m4_68 m1_0 m4_69) rfl rfl rfl hs_L_parsed ⟨Nat.le_of_ble_eq_true rfl, Nat.le_of_ble_eq_true rfl⟩) ⟨HB.blind, HB.preN hKs hT hb0 hH⟩ rfl rfl hl.1 rfl (lv_room rc0) dlaw_13 ⟨Nat.le_of_ble_eq_true rfl, Nat.le_of_ble_eq_true rfl⟩) (fun H locs z1 hH => ?_)
  refine lv_iconst (v := 4) hx hb dlaw_16 (by decide) ?_
  refine lv_icmp_eq (tgt := 22) hx hb dlaw_17 (by decide) (fun cc => ?_) (fun cc => ?_)
  rotate_left
  · first | exact (cc rfl).elim | exact absurd cc rfl
  refine lv_aload_n hx hb dlaw_22 rfl (lv_at hl 1 rfl) ?_
  refine lv_bipush (v := 33) hx hb dlaw_23 (by decide) ?_
  refine lv_iconst (v := 3) hx hb dlaw_25 (by decide) ?_
  refine lv_bipush (v := 30) hx hb dlaw_26 (by decide) ?_
  have f33 := draw_i (K := Kx X2) (xs := xs) hL (a := 33) (lo := 3) (hi := 30) (x := 33) (y := 3) (z := 30) rfl rfl rfl (by omega) (by omega) (by omega) (w := w2)
  refine hcG_i hH (va_runS (As := [.ref (E.2.2.2.1 500), .int 33, .int 3, .int 30]) (rest := []) ⟨hx, hb, hml, hown, hts⟩ (k_L_draw l E hLX (Kx X2) H.size 33 3 30 w2 f33) (va_cwS _ hts (gS m4_59 m4_60 m1_0 m4_61) rfl rfl rfl hs_L_draw ⟨Nat.le_of_ble_eq_true rfl, Nat.le_of_ble_eq_true rfl⟩) ⟨HB.blind, HB.pre hKs hT hb0 hH⟩ rfl rfl hl.1 rfl (lv_room rc0) dlaw_28 ⟨rm_c (by omega), rm_s (by omega)⟩) (fun H locs hH => ?_)
  generalize drN L xs 33 3 30 = many at hM ⊢
  refine lv_istore_n (i := 2) (lv' := [(2, .int (nI many)), (1, rv E (some 0)), (0, .ref (E.2.2.2.1 500))]) hx hb dlaw_31 rfl hl (by decide) (by first | rfl | (simp [List.filter_cons, cat_q, cat_i, cat_j, imax, imin]; done) | (simp [List.filter_cons, cat_q, cat_i, cat_j, imax, imin]; rfl)) (fun ls hl => ?_)
  refine lv_iconst (v := 0) hx hb dlaw_32 (by decide) ?_
  refine lv_istore_n (i := 3) (lv' := [(3, .int 0), (2, .int (nI many)), (1, rv E (some 0)), (0, .ref (E.2.2.2.1 500))]) hx hb dlaw_33 rfl hl (by decide) (by first | rfl | (simp [List.filter_cons, cat_q, cat_i, cat_j, imax, imin]; done) | (simp [List.filter_cons, cat_q, cat_i, cat_j, imax, imin]; rfl)) (fun ls hl => ?_)
  refine W.widen (k := 580) (n := 130000) (Nat.le_of_ble_eq_true rfl) (Nat.le_of_ble_eq_true rfl) ?_
  exact law_34 hls hLX hL C hE hS (by omega) many 0 (by omega) X2 _ w2 H locs ls 580 130000 0 T _ hC hG (by omega) hH hl (by omega) (by omega)
