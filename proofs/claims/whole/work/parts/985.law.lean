set_option maxHeartbeats 4000000 in
set_option maxRecDepth 100000 in
theorem law_start {p : Program} {l : Launch} {e : Env} {s : State} {m : MethodId} {below : List Frame} {meth : Method} {c : Code} {E : Ev} {b L : Nat} {xs : Nat → Int32} (hls : l.stackTraces = false) (hX : va_X b L xs s s.heap) (hbl : b < s.heap.size) (hbA : ¬ hA E b) (C : CX p l e s m #[Value.ref b] meth c code 10 RL ret E) (hE : E.2.1 = s.heap.size) {w' : Wd} {ls : Array Slot} (hl : lv_has ls 10 [(0, .ref b)]) (hf : f_law L xs = some w') : W p l e room_1 s m #[Value.ref b] below meth c s.heap [] 0 0 (lw_Z below #[Value.ref b] s) (F0 m 0 ls []) := by
  obtain ⟨hx, hb, hml, hown, hts, hKs, hT, hb0, hlocks, hret⟩ := id C
  have hH : HQ E kn0 (E.2.1 + 0) w00 s s.heap [] := ⟨fun a q h => absurd h (by simp [kn0]), va_S.rf, by rw [hE]; rfl⟩
  unfold f_law at hf
  refine hw_new (ci := 10) (C := RX12) (T := TX12) (N := 16) hx hb hts iX12 tyX12 tyX12_ok hown m1_31 (hts _ m1_32) m1_1 hKs hb0 hH rfl rfl (fun j hj => dfX12 j hj) (Nat.le_of_ble_eq_true rfl) (Nat.le_of_ble_eq_true rfl) dL_law_0 (fun H hH => ?_)
  obtain ⟨K1, hK1, hf⟩ := bnd hf
  replace hK1 := Option.some.inj hK1
  obtain ⟨w2, hw2, hf⟩ := bnd hf
  replace hw2 := Option.some.inj hw2
  rw [hK1, hw2] at hH
  refine lv_dup hx hb dL_law_3 rv_cat ?_
  obtain ⟨q3, hq3, hf⟩ := bnd hf
  refine hcA hH (va_runI (As := []) (rest := [rv E (some 0)]) ⟨hx, hb, hml, hown, hts⟩ (k_X12_init l E K1 (0 + 1) 0 w2 hq3) (cwI _ hts (gC m1_35) rfl rfl rfl (hts _ m1_1) (hts _ m1_33) (hts _ m1_34) rfl hs_X12_init ⟨Nat.le_of_ble_eq_true rfl, Nat.le_of_ble_eq_true rfl⟩) ⟨HB.blind, HB.preN hKs hT hb0 hH⟩ rfl rfl hl.1 rfl (lv_room (rcV rc0)) dL_law_4 ⟨Nat.le_of_ble_eq_true rfl, Nat.le_of_ble_eq_true rfl⟩) (fun H locs hH => ?_)
  refine hl_astore_n (i := 1) (lv' := [(1, rv E (some 0)), (0, .ref b)]) hx hb dL_law_7 rfl hl (by decide) rfl (fun ls hl => ?_)
  refine hw_new (ci := 11) (C := RX13) (T := TX13) (N := 39) hx hb hts iX13 tyX13 tyX13_ok hown m6_161 (hts _ m6_162) m1_16 hKs hb0 hH rfl rfl (fun j hj => dfX13 j hj) (Nat.le_of_ble_eq_true rfl) (Nat.le_of_ble_eq_true rfl) dL_law_8 (fun H hH => ?_)
  obtain ⟨K4, hK4, hf⟩ := bnd hf
  replace hK4 := Option.some.inj hK4
  obtain ⟨w5, hw5, hf⟩ := bnd hf
  replace hw5 := Option.some.inj hw5
  rw [hK4, hw5] at hH
  refine lv_dup hx hb dL_law_11 rv_cat ?_
  obtain ⟨q6, hq6, hf⟩ := bnd hf
  refine hcA hH (va_runI (As := []) (rest := [rv E (some q3.2.1)]) ⟨hx, hb, hml, hown, hts⟩ (k_X13_init l E K4 (q3.2.1 + 1) q3.2.1 w5 hq6) (cwI _ hts (gC m6_165) rfl rfl rfl (hts _ m1_16) (hts _ m6_163) (hts _ m6_164) rfl hs_X13_init ⟨Nat.le_of_ble_eq_true rfl, Nat.le_of_ble_eq_true rfl⟩) ⟨HB.blind, HB.preN hKs hT hb0 hH⟩ rfl rfl hl.1 rfl (lv_room (rcV rc0)) dL_law_12 ⟨Nat.le_of_ble_eq_true rfl, Nat.le_of_ble_eq_true rfl⟩) (fun H locs hH => ?_)
  refine hl_astore_n (i := 2) (lv' := [(2, rv E (some q3.2.1)), (1, rv E (some 0)), (0, .ref b)]) hx hb dL_law_15 rfl hl (by decide) (by simp [List.filter_cons, cat_q, cat_i, cat_j, imax, imin] <;> rfl) (fun ls hl => ?_)
  refine lv_iconst (v := 1) hx hb dL_law_16 (by decide) ?_
  refine hw_newa23 (N := 1) hx hb hts m1_81 hKs hH (by decide) (by decide) (Nat.le_of_ble_eq_true rfl) (Nat.le_of_ble_eq_true rfl) (Nat.le_of_ble_eq_true rfl) dL_law_17 (fun H hH => ?_)
  obtain ⟨K7, hK7, hf⟩ := bnd hf
  replace hK7 := Option.some.inj hK7
  obtain ⟨w8, hw8, hf⟩ := bnd hf
  replace hw8 := Option.some.inj hw8
  rw [hK7, hw8] at hH
  refine hl_astore_n (i := 3) (lv' := [(3, rv E (some q6.2.1)), (2, rv E (some q3.2.1)), (1, rv E (some 0)), (0, .ref b)]) hx hb dL_law_19 rfl hl (by decide) (by simp [List.filter_cons, cat_q, cat_i, cat_j, imax, imin] <;> rfl) (fun ls hl => ?_)
  refine lv_iconst (v := 1) hx hb dL_law_20 (by decide) ?_
  refine hw_newa24 (N := 1) hx hb hts m9_187 hKs hH (by decide) (by decide) (Nat.le_of_ble_eq_true rfl) (Nat.le_of_ble_eq_true rfl) (Nat.le_of_ble_eq_true rfl) dL_law_21 (fun H hH => ?_)
  obtain ⟨K9, hK9, hf⟩ := bnd hf
  replace hK9 := Option.some.inj hK9
  obtain ⟨w10, hw10, hf⟩ := bnd hf
  replace hw10 := Option.some.inj hw10
  rw [hK9, hw10] at hH
  refine hl_astore (i := 4) (lv' := [(4, rv E (some (q6.2.1 + 1))), (3, rv E (some q6.2.1)), (2, rv E (some q3.2.1)), (1, rv E (some 0)), (0, .ref b)]) hx hb dL_law_23 hl (by decide) (by simp [List.filter_cons, cat_q, cat_i, cat_j, imax, imin] <;> rfl) (fun ls hl => ?_)
  refine lv_iconst (v := 0) hx hb dL_law_25 (by decide) ?_
  refine lv_istore (i := 5) (lv' := [(5, .int 0), (4, rv E (some (q6.2.1 + 1))), (3, rv E (some q6.2.1)), (2, rv E (some q3.2.1)), (1, rv E (some 0)), (0, .ref b)]) hx hb dL_law_26 hl (by decide) (by simp [List.filter_cons, cat_q, cat_i, cat_j, imax, imin] <;> rfl) (fun ls hl => ?_)
  refine W.widen (k := 439 + 7 * 0) (n := 21347 + 42 * 0) (Nat.le_of_ble_eq_true rfl) (Nat.le_of_ble_eq_true rfl) ?_
  exact law_loop hls hX hbl hbA C hE 514 0 (by decide) _ _ _ _ _ _ hH (lv_sub hl [0, 1, 2, 3, 4, 5] rfl) hf
