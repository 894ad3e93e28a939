set_option maxHeartbeats 4000000 in
set_option maxRecDepth 100000 in
theorem law_c22 {p : Program} {l : Launch} {e : Env} {s : State} {m : MethodId} {below : List Frame} {meth : Method} {c : Code} {E : Ev} {K : Kd} {b L : Nat} {xs : Nat → Int32} (hls : l.stackTraces = false) (hX : va_X b L xs s s.heap) (hbl : b < s.heap.size) (hbA : ¬ hA E b) (C : CX p l e s m #[Value.ref b] meth c code 10 RL ret E) {v1 v2 v3 v4 : Option Nat} {v5 : Int32} {w w' : Wd} {H : Heap} {locs : List Loc} {ls : Array Slot} {z jz : Nat} (hj : jz < 514) (hk : ∀ (H : Heap) (locs : List Loc) (ls : Array Slot) (z : Nat), HQ E K z w' s H locs → lv_has ls 10 [(5, .int v5), (4, rv E v4), (3, rv E v3), (2, rv E v2), (1, rv E v1), (0, .ref b)] → W p l e room_1 s m #[Value.ref b] below meth c H locs (439 + 7 * (jz + 1)) (21347 + 42 * (jz + 1)) (lw_Z below #[Value.ref b] s) (F0 m 2519 ls [])) (hH : HQ E K z w s H locs) (hl : lv_has ls 10 [(5, .int v5), (4, rv E v4), (3, rv E v3), (2, rv E v2), (1, rv E v1), (0, .ref b)]) (hf : f_law_c22 K L xs v1 v2 v3 v4 v5 w = some w') : W p l e room_1 s m #[Value.ref b] below meth c H locs (439 + 7 * jz) (21347 + 42 * jz) (lw_Z below #[Value.ref b] s) (F0 m 1491 ls []) := by
  obtain ⟨hx, hb, hml, hown, hts, hKs, hT, hb0, hlocks, hret⟩ := id C
  have hc9 : (439 + 7 * jz) + 7 ≤ 601024 := by omega
  have hs9 : (21347 + 42 * jz) + 42 ≤ 7293034 := by omega
  unfold f_law_c22 at hf
  refine hl_aload_n hx hb dL_law_1491 rfl (lv_at hl 4 rfl) ?_
  refine lv_aload_n hx hb dL_law_1492 rfl (lv_at hl 5 rfl) ?_
  refine lv_iload hx hb dL_law_1493 (lv_at hl 0 rfl) ?_
  refine lv_iconst (v := 1) hx hb dL_law_1495 (by decide) ?_
  refine lv_iadd hx hb dL_law_1496 ?_
  obtain ⟨j1, hj1, hf⟩ := bnd hf
  refine hw_sld hx hb hX hbl hbA hH hj1 dL_law_1497 ?_
  refine hl_aload_n hx hb dL_law_1498 rfl (lv_at hl 2 rfl) ?_
  obtain ⟨q2, hq2, hf⟩ := bnd hf
  refine hcW hH (vx_runSW (As := [rv E v1, .int ((xs j1)), rv E v3]) (rest := []) ⟨hx, hb, hml, hown, hts⟩ (k_L_slack l hls E K H.size v1 (xs j1) v3 w hq2) (vx_cwSW (hh := [(0, 9, 12, 29)]) _ hts (gW m6_16 m6_17 m1_0 m6_18) rfl rfl rfl hs_L_slack ⟨Nat.le_of_ble_eq_true rfl, Nat.le_of_ble_eq_true rfl⟩) ⟨HB.blind, HB.pre hKs hT hb0 hH⟩ rfl rfl hl.1 rfl (lv_room rc0) dL_law_1499 ⟨(Nat.le_trans (Nat.add_le_add_left (Nat.le_of_ble_eq_true rfl : 1 ≤ 7) _) hc9), (Nat.le_trans (Nat.add_le_add_left (Nat.le_of_ble_eq_true rfl : 6 ≤ 42) _) hs9)⟩) (fun H locs hH => ?_)
  refine lv_istore (i := 6) (lv' := [(6, .int (q2.1)), (5, .int v5), (4, rv E v4), (3, rv E v3), (2, rv E v2), (1, rv E v1), (0, .ref b)]) hx hb dL_law_1502 hl (by decide) rfl (fun ls hl => ?_)
  refine hl_aload_n hx hb dL_law_1504 rfl (lv_at hl 4 rfl) ?_
  refine lv_aload_n hx hb dL_law_1505 rfl (lv_at hl 6 rfl) ?_
  refine lv_iload hx hb dL_law_1506 (lv_at hl 1 rfl) ?_
  refine lv_iconst (v := 1) hx hb dL_law_1508 (by decide) ?_
  refine lv_iadd hx hb dL_law_1509 ?_
  obtain ⟨j3, hj3, hf⟩ := bnd hf
  refine hw_sld hx hb hX hbl hbA hH hj3 dL_law_1510 ?_
  obtain ⟨a4, ha4, hf⟩ := bnd hf
  replace ha4 := chk_some ha4
  obtain ⟨q5, hq5, hf⟩ := bnd hf
  refine hcV_i hx hb hml hown hts hKs hT hb0 hH (As := [.int ((xs j3))]) (rest := []) (k_X13_slack l E K H.size a4 (xs j3) q2.2 ha4.2 hq5) (gV m7_110 m7_111 m7_112 m1_16 m7_113) hd_X13_slack ⟨Nat.le_of_ble_eq_true rfl, Nat.le_of_ble_eq_true rfl, rfl, rfl⟩ ha4.1 ha4.2 rfl rfl rfl hl.1 rfl rc0 rfl dL_law_1511 ⟨(Nat.le_trans (Nat.add_le_add_left (Nat.le_of_ble_eq_true rfl : 1 ≤ 7) _) hc9), (Nat.le_trans (Nat.add_le_add_left (Nat.le_of_ble_eq_true rfl : 6 ≤ 42) _) hs9)⟩ (fun H locs hH => ?_)
  refine lv_istore (i := 7) (lv' := [(7, .int (q5.1)), (6, .int (q2.1)), (5, .int v5), (4, rv E v4), (3, rv E v3), (2, rv E v2), (1, rv E v1), (0, .ref b)]) hx hb dL_law_1514 hl (by decide) rfl (fun ls hl => ?_)
  refine hl_aload_n hx hb dL_law_1516 rfl (lv_at hl 5 rfl) ?_
  obtain ⟨q6, hq6, hf⟩ := bnd hf
  refine hcV_i hx hb hml hown hts hKs hT hb0 hH (As := []) (rest := []) (k_X13_thrown l E K H.size a4 q5.2 ha4.2 hq6) (gV m7_60 m7_61 m7_62 m1_16 m7_63) hd_X13_thrown ⟨Nat.le_of_ble_eq_true rfl, Nat.le_of_ble_eq_true rfl, rfl, rfl⟩ ha4.1 ha4.2 rfl rfl rfl hl.1 rfl rc0 rfl dL_law_1517 ⟨(Nat.le_trans (Nat.add_le_add_left (Nat.le_of_ble_eq_true rfl : 1 ≤ 7) _) hc9), (Nat.le_trans (Nat.add_le_add_left (Nat.le_of_ble_eq_true rfl : 6 ≤ 42) _) hs9)⟩ (fun H locs hH => ?_)
  refine lv_iload hx hb dL_law_1520 (lv_at hl 1 rfl) ?_
  refine lv_icmp_eq (tgt := 1527) hx hb dL_law_1522 (by decide) (fun c7 => ?_) (fun c7 => ?_)
  · replace hf := (if_pos c7).symm.trans hf
    refine lv_iload hx hb dL_law_1527 (lv_at hl 1 rfl) ?_
    refine lv_if_ne (tgt := 1544) hx hb dL_law_1529 (by decide) (fun c8 => ?_) (fun c8 => ?_)
    · replace hf := (if_neg c8).symm.trans hf
      refine lv_goto (tgt := 2519) hx hb dL_law_1544 (by decide) ?_
      cases hf
      refine W.widen (k := 439 + 7 * (jz + 1)) (n := 21347 + 42 * (jz + 1)) (by omega) (by omega) ?_
      exact hk _ _ _ _ hH (lv_sub hl [2, 3, 4, 5, 6, 7] rfl)
    · replace hf := (if_pos c8).symm.trans hf
      refine hl_aload_n hx hb dL_law_1532 rfl (lv_at hl 4 rfl) ?_
      refine lv_iconst (v := 0) hx hb dL_law_1533 (by decide) ?_
      obtain ⟨a9, ha9, hf⟩ := bnd hf
      replace ha9 := cha_some ha9
      obtain ⟨j10, hj10, hf⟩ := bnd hf
      refine hw_lald hx hb hKs hH ha9.1 ha9.2 hj10 dL_law_1534 ?_
      refine lv_iload hx hb dL_law_1535 (lv_at hl 0 rfl) ?_
      refine lv_i2l (v := (q5.1.toInt64)) hx hb dL_law_1537 rfl ?_
      refine W.lcmp hx hb dL_law_1538 ?_
      refine lv_if_eq (tgt := 1544) hx hb dL_law_1539 (by decide) (fun c11 => ?_) (fun c11 => ?_)
      · replace hf := (if_pos c11).symm.trans hf
        refine lv_goto (tgt := 2519) hx hb dL_law_1544 (by decide) ?_
        cases hf
        refine W.widen (k := 439 + 7 * (jz + 1)) (n := 21347 + 42 * (jz + 1)) (by omega) (by omega) ?_
        exact hk _ _ _ _ hH (lv_sub hl [2, 3, 4, 5, 6, 7] rfl)
      · replace hf := (if_neg c11).symm.trans hf
        refine lv_iconst (v := 0) hx hb dL_law_1542 (by decide) ?_
        cases hf
  · replace hf := (if_neg c7).symm.trans hf
    refine lv_iconst (v := 0) hx hb dL_law_1525 (by decide) ?_
    cases hf
set_option maxHeartbeats 4000000 in
set_option maxRecDepth 100000 in
theorem law_c23 {p : Program} {l : Launch} {e : Env} {s : State} {m : MethodId} {below : List Frame} {meth : Method} {c : Code} {E : Ev} {K : Kd} {b L : Nat} {xs : Nat → Int32} (hls : l.stackTraces = false) (hX : va_X b L xs s s.heap) (hbl : b < s.heap.size) (hbA : ¬ hA E b) (C : CX p l e s m #[Value.ref b] meth c code 10 RL ret E) {v1 v2 v3 v4 : Option Nat} {v5 : Int32} {w w' : Wd} {H : Heap} {locs : List Loc} {ls : Array Slot} {z jz : Nat} (hj : jz < 514) (hk : ∀ (H : Heap) (locs : List Loc) (ls : Array Slot) (z : Nat), HQ E K z w' s H locs → lv_has ls 10 [(5, .int v5), (4, rv E v4), (3, rv E v3), (2, rv E v2), (1, rv E v1), (0, .ref b)] → W p l e room_1 s m #[Value.ref b] below meth c H locs (439 + 7 * (jz + 1)) (21347 + 42 * (jz + 1)) (lw_Z below #[Value.ref b] s) (F0 m 2519 ls [])) (hH : HQ E K z w s H locs) (hl : lv_has ls 10 [(5, .int v5), (4, rv E v4), (3, rv E v3), (2, rv E v2), (1, rv E v1), (0, .ref b)]) (hf : f_law_c23 K L xs v1 v2 v3 v4 v5 w = some w') : W p l e room_1 s m #[Value.ref b] below meth c H locs (439 + 7 * jz) (21347 + 42 * jz) (lw_Z below #[Value.ref b] s) (F0 m 1547 ls []) := by
  obtain ⟨hx, hb, hml, hown, hts, hKs, hT, hb0, hlocks, hret⟩ := id C
  have hc9 : (439 + 7 * jz) + 7 ≤ 601024 := by omega
  have hs9 : (21347 + 42 * jz) + 42 ≤ 7293034 := by omega
  unfold f_law_c23 at hf
  refine hl_aload_n hx hb dL_law_1547 rfl (lv_at hl 4 rfl) ?_
  refine lv_aload_n hx hb dL_law_1548 rfl (lv_at hl 5 rfl) ?_
  refine lv_iload hx hb dL_law_1549 (lv_at hl 0 rfl) ?_
  refine lv_iconst (v := 1) hx hb dL_law_1551 (by decide) ?_
  refine lv_iadd hx hb dL_law_1552 ?_
  obtain ⟨j1, hj1, hf⟩ := bnd hf
  refine hw_sld hx hb hX hbl hbA hH hj1 dL_law_1553 ?_
  refine hl_aload_n hx hb dL_law_1554 rfl (lv_at hl 2 rfl) ?_
  obtain ⟨q2, hq2, hf⟩ := bnd hf
  refine hcW hH (vx_runSW (As := [rv E v1, .int ((xs j1)), rv E v3]) (rest := []) ⟨hx, hb, hml, hown, hts⟩ (k_L_eligible l hls E K H.size v1 (xs j1) v3 w hq2) (vx_cwSW (hh := [(0, 9, 12, 29)]) _ hts (gW m6_23 m6_24 m1_0 m6_25) rfl rfl rfl hs_L_eligible ⟨Nat.le_of_ble_eq_true rfl, Nat.le_of_ble_eq_true rfl⟩) ⟨HB.blind, HB.pre hKs hT hb0 hH⟩ rfl rfl hl.1 rfl (lv_room rc0) dL_law_1555 ⟨(Nat.le_trans (Nat.add_le_add_left (Nat.le_of_ble_eq_true rfl : 1 ≤ 7) _) hc9), (Nat.le_trans (Nat.add_le_add_left (Nat.le_of_ble_eq_true rfl : 6 ≤ 42) _) hs9)⟩) (fun H locs hH => ?_)
  refine lv_istore (i := 6) (lv' := [(6, .int (q2.1)), (5, .int v5), (4, rv E v4), (3, rv E v3), (2, rv E v2), (1, rv E v1), (0, .ref b)]) hx hb dL_law_1558 hl (by decide) rfl (fun ls hl => ?_)
  refine hl_aload_n hx hb dL_law_1560 rfl (lv_at hl 4 rfl) ?_
  refine lv_aload_n hx hb dL_law_1561 rfl (lv_at hl 6 rfl) ?_
  refine lv_iload hx hb dL_law_1562 (lv_at hl 1 rfl) ?_
  refine lv_iconst (v := 1) hx hb dL_law_1564 (by decide) ?_
  refine lv_iadd hx hb dL_law_1565 ?_
  obtain ⟨j3, hj3, hf⟩ := bnd hf
  refine hw_sld hx hb hX hbl hbA hH hj3 dL_law_1566 ?_
  obtain ⟨a4, ha4, hf⟩ := bnd hf
  replace ha4 := chk_some ha4
  obtain ⟨q5, hq5, hf⟩ := bnd hf
  refine hcV_i hx hb hml hown hts hKs hT hb0 hH (As := [.int ((xs j3))]) (rest := []) (k_X13_eligible l E K H.size a4 (xs j3) q2.2 ha4.2 hq5) (gV m8_163 m8_164 m8_165 m1_16 m8_166) hd_X13_eligible ⟨Nat.le_of_ble_eq_true rfl, Nat.le_of_ble_eq_true rfl, rfl, rfl⟩ ha4.1 ha4.2 rfl rfl rfl hl.1 rfl rc0 rfl dL_law_1567 ⟨(Nat.le_trans (Nat.add_le_add_left (Nat.le_of_ble_eq_true rfl : 1 ≤ 7) _) hc9), (Nat.le_trans (Nat.add_le_add_left (Nat.le_of_ble_eq_true rfl : 6 ≤ 42) _) hs9)⟩ (fun H locs hH => ?_)
  refine lv_istore (i := 7) (lv' := [(7, .int (q5.1)), (6, .int (q2.1)), (5, .int v5), (4, rv E v4), (3, rv E v3), (2, rv E v2), (1, rv E v1), (0, .ref b)]) hx hb dL_law_1570 hl (by decide) rfl (fun ls hl => ?_)
  refine hl_aload_n hx hb dL_law_1572 rfl (lv_at hl 5 rfl) ?_
  obtain ⟨q6, hq6, hf⟩ := bnd hf
  refine hcV_i hx hb hml hown hts hKs hT hb0 hH (As := []) (rest := []) (k_X13_thrown l E K H.size a4 q5.2 ha4.2 hq6) (gV m7_60 m7_61 m7_62 m1_16 m7_63) hd_X13_thrown ⟨Nat.le_of_ble_eq_true rfl, Nat.le_of_ble_eq_true rfl, rfl, rfl⟩ ha4.1 ha4.2 rfl rfl rfl hl.1 rfl rc0 rfl dL_law_1573 ⟨(Nat.le_trans (Nat.add_le_add_left (Nat.le_of_ble_eq_true rfl : 1 ≤ 7) _) hc9), (Nat.le_trans (Nat.add_le_add_left (Nat.le_of_ble_eq_true rfl : 6 ≤ 42) _) hs9)⟩ (fun H locs hH => ?_)
  refine lv_iload hx hb dL_law_1576 (lv_at hl 1 rfl) ?_
  refine lv_icmp_eq (tgt := 1583) hx hb dL_law_1578 (by decide) (fun c7 => ?_) (fun c7 => ?_)
  · replace hf := (if_pos c7).symm.trans hf
    refine lv_iload hx hb dL_law_1583 (lv_at hl 1 rfl) ?_
    refine lv_if_ne (tgt := 1600) hx hb dL_law_1585 (by decide) (fun c8 => ?_) (fun c8 => ?_)
    · replace hf := (if_neg c8).symm.trans hf
      refine lv_goto (tgt := 2519) hx hb dL_law_1600 (by decide) ?_
      cases hf
      refine W.widen (k := 439 + 7 * (jz + 1)) (n := 21347 + 42 * (jz + 1)) (by omega) (by omega) ?_
      exact hk _ _ _ _ hH (lv_sub hl [2, 3, 4, 5, 6, 7] rfl)
    · replace hf := (if_pos c8).symm.trans hf
      refine hl_aload_n hx hb dL_law_1588 rfl (lv_at hl 4 rfl) ?_
      refine lv_iconst (v := 0) hx hb dL_law_1589 (by decide) ?_
      obtain ⟨a9, ha9, hf⟩ := bnd hf
      replace ha9 := cha_some ha9
      obtain ⟨j10, hj10, hf⟩ := bnd hf
      refine hw_lald hx hb hKs hH ha9.1 ha9.2 hj10 dL_law_1590 ?_
      refine lv_iload hx hb dL_law_1591 (lv_at hl 0 rfl) ?_
      refine lv_i2l (v := (q5.1.toInt64)) hx hb dL_law_1593 rfl ?_
      refine W.lcmp hx hb dL_law_1594 ?_
      refine lv_if_eq (tgt := 1600) hx hb dL_law_1595 (by decide) (fun c11 => ?_) (fun c11 => ?_)
      · replace hf := (if_pos c11).symm.trans hf
        refine lv_goto (tgt := 2519) hx hb dL_law_1600 (by decide) ?_
        cases hf
        refine W.widen (k := 439 + 7 * (jz + 1)) (n := 21347 + 42 * (jz + 1)) (by omega) (by omega) ?_
        exact hk _ _ _ _ hH (lv_sub hl [2, 3, 4, 5, 6, 7] rfl)
      · replace hf := (if_neg c11).symm.trans hf
        refine lv_iconst (v := 0) hx hb dL_law_1598 (by decide) ?_
        cases hf
  · replace hf := (if_neg c7).symm.trans hf
    refine lv_iconst (v := 0) hx hb dL_law_1581 (by decide) ?_
    cases hf
set_option maxHeartbeats 4000000 in
set_option maxRecDepth 100000 in
theorem law_c24 {p : Program} {l : Launch} {e : Env} {s : State} {m : MethodId} {below : List Frame} {meth : Method} {c : Code} {E : Ev} {K : Kd} {b L : Nat} {xs : Nat → Int32} (hls : l.stackTraces = false) (hX : va_X b L xs s s.heap) (hbl : b < s.heap.size) (hbA : ¬ hA E b) (C : CX p l e s m #[Value.ref b] meth c code 10 RL ret E) {v1 v2 v3 v4 : Option Nat} {v5 : Int32} {w w' : Wd} {H : Heap} {locs : List Loc} {ls : Array Slot} {z jz : Nat} (hj : jz < 514) (hk : ∀ (H : Heap) (locs : List Loc) (ls : Array Slot) (z : Nat), HQ E K z w' s H locs → lv_has ls 10 [(5, .int v5), (4, rv E v4), (3, rv E v3), (2, rv E v2), (1, rv E v1), (0, .ref b)] → W p l e room_1 s m #[Value.ref b] below meth c H locs (439 + 7 * (jz + 1)) (21347 + 42 * (jz + 1)) (lw_Z below #[Value.ref b] s) (F0 m 2519 ls [])) (hH : HQ E K z w s H locs) (hl : lv_has ls 10 [(5, .int v5), (4, rv E v4), (3, rv E v3), (2, rv E v2), (1, rv E v1), (0, .ref b)]) (hf : f_law_c24 K L xs v1 v2 v3 v4 v5 w = some w') : W p l e room_1 s m #[Value.ref b] below meth c H locs (439 + 7 * jz) (21347 + 42 * jz) (lw_Z below #[Value.ref b] s) (F0 m 1603 ls []) := by
  obtain ⟨hx, hb, hml, hown, hts, hKs, hT, hb0, hlocks, hret⟩ := id C
  have hc9 : (439 + 7 * jz) + 7 ≤ 601024 := by omega
  have hs9 : (21347 + 42 * jz) + 42 ≤ 7293034 := by omega
  unfold f_law_c24 at hf
  refine hl_aload_n hx hb dL_law_1603 rfl (lv_at hl 4 rfl) ?_
  obtain ⟨a1, ha1, hf⟩ := bnd hf
  replace ha1 := chk_some ha1
  obtain ⟨q2, hq2, hf⟩ := bnd hf
  refine hcV_i hx hb hml hown hts hKs hT hb0 hH (As := []) (rest := []) (k_X12_fewestOfficers l E K H.size a1 w ha1.2 hq2) (gV m4_23 m4_24 m4_25 m1_1 m4_26) hd_X12_fewestOfficers ⟨Nat.le_of_ble_eq_true rfl, Nat.le_of_ble_eq_true rfl, rfl, rfl⟩ ha1.1 ha1.2 rfl rfl rfl hl.1 rfl rc0 rfl dL_law_1604 ⟨(Nat.le_trans (Nat.add_le_add_left (Nat.le_of_ble_eq_true rfl : 0 ≤ 7) _) hc9), (Nat.le_trans (Nat.add_le_add_left (Nat.le_of_ble_eq_true rfl : 0 ≤ 42) _) hs9)⟩ (fun H locs hH => ?_)
  refine hl_aload_n hx hb dL_law_1607 rfl (lv_at hl 3 rfl) ?_
  obtain ⟨a3, ha3, hf⟩ := bnd hf
  replace ha3 := chk_some ha3
  obtain ⟨q4, hq4, hf⟩ := bnd hf
  refine hcV_i hx hb hml hown hts hKs hT hb0 hH (As := []) (rest := [.int (q2.1)]) (k_X13_fewestOfficers l E K H.size a3 q2.2 ha3.2 hq4) (gV m8_193 m8_194 m8_195 m1_16 m8_196) hd_X13_fewestOfficers ⟨Nat.le_of_ble_eq_true rfl, Nat.le_of_ble_eq_true rfl, rfl, rfl⟩ ha3.1 ha3.2 rfl rfl rfl hl.1 rfl (rcI rc0) rfl dL_law_1608 ⟨(Nat.le_trans (Nat.add_le_add_left (Nat.le_of_ble_eq_true rfl : 0 ≤ 7) _) hc9), (Nat.le_trans (Nat.add_le_add_left (Nat.le_of_ble_eq_true rfl : 0 ≤ 42) _) hs9)⟩ (fun H locs hH => ?_)
  refine lv_icmp_eq (tgt := 2519) hx hb dL_law_1611 (by decide) (fun c5 => ?_) (fun c5 => ?_)
  · replace hf := (if_pos c5).symm.trans hf
    cases hf
    refine W.widen (k := 439 + 7 * (jz + 1)) (n := 21347 + 42 * (jz + 1)) (by omega) (by omega) ?_
    exact hk _ _ _ _ hH (lv_sub hl [0, 1, 2, 3, 4, 5] rfl)
  · replace hf := (if_neg c5).symm.trans hf
    refine lv_iconst (v := 0) hx hb dL_law_1614 (by decide) ?_
    cases hf
set_option maxHeartbeats 4000000 in
set_option maxRecDepth 100000 in
theorem law_c25 {p : Program} {l : Launch} {e : Env} {s : State} {m : MethodId} {below : List Frame} {meth : Method} {c : Code} {E : Ev} {K : Kd} {b L : Nat} {xs : Nat → Int32} (hls : l.stackTraces = false) (hX : va_X b L xs s s.heap) (hbl : b < s.heap.size) (hbA : ¬ hA E b) (C : CX p l e s m #[Value.ref b] meth c code 10 RL ret E) {v1 v2 v3 v4 : Option Nat} {v5 : Int32} {w w' : Wd} {H : Heap} {locs : List Loc} {ls : Array Slot} {z jz : Nat} (hj : jz < 514) (hk : ∀ (H : Heap) (locs : List Loc) (ls : Array Slot) (z : Nat), HQ E K z w' s H locs → lv_has ls 10 [(5, .int v5), (4, rv E v4), (3, rv E v3), (2, rv E v2), (1, rv E v1), (0, .ref b)] → W p l e room_1 s m #[Value.ref b] below meth c H locs (439 + 7 * (jz + 1)) (21347 + 42 * (jz + 1)) (lw_Z below #[Value.ref b] s) (F0 m 2519 ls [])) (hH : HQ E K z w s H locs) (hl : lv_has ls 10 [(5, .int v5), (4, rv E v4), (3, rv E v3), (2, rv E v2), (1, rv E v1), (0, .ref b)]) (hf : f_law_c25 K L xs v1 v2 v3 v4 v5 w = some w') : W p l e room_1 s m #[Value.ref b] below meth c H locs (439 + 7 * jz) (21347 + 42 * jz) (lw_Z below #[Value.ref b] s) (F0 m 1616 ls []) := by
  obtain ⟨hx, hb, hml, hown, hts, hKs, hT, hb0, hlocks, hret⟩ := id C
  have hc9 : (439 + 7 * jz) + 7 ≤ 601024 := by omega
  have hs9 : (21347 + 42 * jz) + 42 ≤ 7293034 := by omega
  unfold f_law_c25 at hf
  refine hl_aload_n hx hb dL_law_1616 rfl (lv_at hl 4 rfl) ?_
  obtain ⟨a1, ha1, hf⟩ := bnd hf
  replace ha1 := chk_some ha1
  obtain ⟨q2, hq2, hf⟩ := bnd hf
  refine hcV_d hx hb hml hown hts hKs hT hb0 hH (As := []) (rest := []) (k_X12_meanSlack l E K H.size a1 w ha1.2 hq2) (gV m4_57 m4_58 m4_59 m1_1 m4_60) hd_X12_meanSlack ⟨Nat.le_of_ble_eq_true rfl, Nat.le_of_ble_eq_true rfl, rfl, rfl⟩ ha1.1 ha1.2 rfl rfl rfl hl.1 rfl rc0 rfl dL_law_1617 ⟨(Nat.le_trans (Nat.add_le_add_left (Nat.le_of_ble_eq_true rfl : 0 ≤ 7) _) hc9), (Nat.le_trans (Nat.add_le_add_left (Nat.le_of_ble_eq_true rfl : 0 ≤ 42) _) hs9)⟩ (fun H locs hH => ?_)
  refine lv_dstore (i := 6) (lv' := [(6, .double q2.1), (5, .int v5), (4, rv E v4), (3, rv E v3), (2, rv E v2), (1, rv E v1), (0, .ref b)]) hx hb dL_law_1620 hl (by decide) rfl (fun ls hl => ?_)
  refine hl_aload_n hx hb dL_law_1622 rfl (lv_at hl 4 rfl) ?_
  obtain ⟨a3, ha3, hf⟩ := bnd hf
  replace ha3 := chk_some ha3
  obtain ⟨q4, hq4, hf⟩ := bnd hf
  refine hcV_d hx hb hml hown hts hKs hT hb0 hH (As := []) (rest := []) (k_X13_meanSlack l E K H.size a3 q2.2 ha3.2 hq4) (gV m7_134 m7_135 m7_136 m1_16 m7_137) hd_X13_meanSlack ⟨Nat.le_of_ble_eq_true rfl, Nat.le_of_ble_eq_true rfl, rfl, rfl⟩ ha3.1 ha3.2 rfl rfl rfl hl.1 rfl rc0 rfl dL_law_1623 ⟨(Nat.le_trans (Nat.add_le_add_left (Nat.le_of_ble_eq_true rfl : 0 ≤ 7) _) hc9), (Nat.le_trans (Nat.add_le_add_left (Nat.le_of_ble_eq_true rfl : 0 ≤ 42) _) hs9)⟩ (fun H locs hH => ?_)
  refine lv_dstore (i := 8) (lv' := [(8, .double q4.1), (6, .double q2.1), (5, .int v5), (4, rv E v4), (3, rv E v3), (2, rv E v2), (1, rv E v1), (0, .ref b)]) hx hb dL_law_1626 hl (by decide) rfl (fun ls hl => ?_)
  refine lv_dload hx hb dL_law_1628 (lv_at hl 1 rfl) ?_
  refine lv_dload hx hb dL_law_1630 (lv_at hl 0 rfl) ?_
  refine lv_dcmp hx hb dL_law_1632 ?_
  refine lv_if_eq (tgt := 1654) hx hb dL_law_1633 (by decide) (fun c5 => ?_) (fun c5 => ?_)
  · replace hf := (if_pos c5).symm.trans hf
    refine lv_goto (tgt := 2519) hx hb dL_law_1654 (by decide) ?_
    cases hf
    refine W.widen (k := 439 + 7 * (jz + 1)) (n := 21347 + 42 * (jz + 1)) (by omega) (by omega) ?_
    exact hk _ _ _ _ hH (lv_sub hl [2, 3, 4, 5, 6, 7] rfl)
  · replace hf := (if_neg c5).symm.trans hf
    refine lv_dload hx hb dL_law_1636 (lv_at hl 1 rfl) ?_
    refine lv_dload hx hb dL_law_1638 (lv_at hl 1 rfl) ?_
    refine lv_dcmp hx hb dL_law_1640 ?_
    refine lv_if_eq (tgt := 1652) hx hb dL_law_1641 (by decide) (fun c6 => ?_) (fun c6 => ?_)
    · replace hf := (if_pos c6).symm.trans hf
      refine lv_iconst (v := 0) hx hb dL_law_1652 (by decide) ?_
      cases hf
    · replace hf := (if_neg c6).symm.trans hf
      refine lv_dload hx hb dL_law_1644 (lv_at hl 0 rfl) ?_
      refine lv_dload hx hb dL_law_1646 (lv_at hl 0 rfl) ?_
      refine lv_dcmp hx hb dL_law_1648 ?_
      refine lv_if_ne (tgt := 1654) hx hb dL_law_1649 (by decide) (fun c7 => ?_) (fun c7 => ?_)
      · replace hf := (if_neg c7).symm.trans hf
        refine lv_goto (tgt := 2519) hx hb dL_law_1654 (by decide) ?_
        cases hf
        refine W.widen (k := 439 + 7 * (jz + 1)) (n := 21347 + 42 * (jz + 1)) (by omega) (by omega) ?_
        exact hk _ _ _ _ hH (lv_sub hl [2, 3, 4, 5, 6, 7] rfl)
      · replace hf := (if_pos c7).symm.trans hf
        refine lv_iconst (v := 0) hx hb dL_law_1652 (by decide) ?_
        cases hf
set_option maxHeartbeats 4000000 in
set_option maxRecDepth 100000 in
theorem law_c26 {p : Program} {l : Launch} {e : Env} {s : State} {m : MethodId} {below : List Frame} {meth : Method} {c : Code} {E : Ev} {K : Kd} {b L : Nat} {xs : Nat → Int32} (hls : l.stackTraces = false) (hX : va_X b L xs s s.heap) (hbl : b < s.heap.size) (hbA : ¬ hA E b) (C : CX p l e s m #[Value.ref b] meth c code 10 RL ret E) {v1 v2 v3 v4 : Option Nat} {v5 : Int32} {w w' : Wd} {H : Heap} {locs : List Loc} {ls : Array Slot} {z jz : Nat} (hj : jz < 514) (hk : ∀ (H : Heap) (locs : List Loc) (ls : Array Slot) (z : Nat), HQ E K z w' s H locs → lv_has ls 10 [(5, .int v5), (4, rv E v4), (3, rv E v3), (2, rv E v2), (1, rv E v1), (0, .ref b)] → W p l e room_1 s m #[Value.ref b] below meth c H locs (439 + 7 * (jz + 1)) (21347 + 42 * (jz + 1)) (lw_Z below #[Value.ref b] s) (F0 m 2519 ls [])) (hH : HQ E K z w s H locs) (hl : lv_has ls 10 [(5, .int v5), (4, rv E v4), (3, rv E v3), (2, rv E v2), (1, rv E v1), (0, .ref b)]) (hf : f_law_c26 K L xs v1 v2 v3 v4 v5 w = some w') : W p l e room_1 s m #[Value.ref b] below meth c H locs (439 + 7 * jz) (21347 + 42 * jz) (lw_Z below #[Value.ref b] s) (F0 m 1657 ls []) := by
  obtain ⟨hx, hb, hml, hown, hts, hKs, hT, hb0, hlocks, hret⟩ := id C
  have hc9 : (439 + 7 * jz) + 7 ≤ 601024 := by omega
  have hs9 : (21347 + 42 * jz) + 42 ≤ 7293034 := by omega
  unfold f_law_c26 at hf
  refine hl_aload_n hx hb dL_law_1657 rfl (lv_at hl 4 rfl) ?_
  refine lv_aload_n hx hb dL_law_1658 rfl (lv_at hl 5 rfl) ?_
  refine lv_iload hx hb dL_law_1659 (lv_at hl 0 rfl) ?_
  refine lv_iconst (v := 1) hx hb dL_law_1661 (by decide) ?_
  refine lv_iadd hx hb dL_law_1662 ?_
  obtain ⟨j1, hj1, hf⟩ := bnd hf
  refine hw_sld hx hb hX hbl hbA hH hj1 dL_law_1663 ?_
  refine lv_aload_n hx hb dL_law_1664 rfl (lv_at hl 5 rfl) ?_
  refine lv_iload hx hb dL_law_1665 (lv_at hl 0 rfl) ?_
  refine lv_iconst (v := 2) hx hb dL_law_1667 (by decide) ?_
  refine lv_iadd hx hb dL_law_1668 ?_
  obtain ⟨j2, hj2, hf⟩ := bnd hf
  refine hw_sld hx hb hX hbl hbA hH hj2 dL_law_1669 ?_
  refine lv_aload_n hx hb dL_law_1670 rfl (lv_at hl 5 rfl) ?_
  refine lv_iload hx hb dL_law_1671 (lv_at hl 0 rfl) ?_
  refine lv_iconst (v := 3) hx hb dL_law_1673 (by decide) ?_
  refine lv_iadd hx hb dL_law_1674 ?_
  obtain ⟨j3, hj3, hf⟩ := bnd hf
  refine hw_sld hx hb hX hbl hbA hH hj3 dL_law_1675 ?_
  refine hl_aload hx hb dL_law_1676 (lv_at hl 1 rfl) ?_
  obtain ⟨q4, hq4, hf⟩ := bnd hf
  refine hcW hH (vx_runSW (As := [rv E v1, .int ((xs j1)), .int ((xs j2)), .int ((xs j3)), rv E v4]) (rest := []) ⟨hx, hb, hml, hown, hts⟩ (k_L_usage l hls E K H.size v1 (xs j1) (xs j2) (xs j3) v4 w hq4) (vx_cwSW (hh := [(0, 12, 15, 29), (0, 12, 19, 13)]) _ hts (gW m6_31 m6_32 m1_0 m6_33) rfl rfl rfl hs_L_usage ⟨Nat.le_of_ble_eq_true rfl, Nat.le_of_ble_eq_true rfl⟩) ⟨HB.blind, HB.pre hKs hT hb0 hH⟩ rfl rfl hl.1 rfl (lv_room rc0) dL_law_1678 ⟨(Nat.le_trans (Nat.add_le_add_left (Nat.le_of_ble_eq_true rfl : 2 ≤ 7) _) hc9), (Nat.le_trans (Nat.add_le_add_left (Nat.le_of_ble_eq_true rfl : 12 ≤ 42) _) hs9)⟩) (fun H locs hH => ?_)
  refine lv_istore (i := 6) (lv' := [(6, .int (q4.1)), (5, .int v5), (4, rv E v4), (3, rv E v3), (2, rv E v2), (1, rv E v1), (0, .ref b)]) hx hb dL_law_1681 hl (by decide) rfl (fun ls hl => ?_)
  refine hl_aload_n hx hb dL_law_1683 rfl (lv_at hl 4 rfl) ?_
  refine lv_aload_n hx hb dL_law_1684 rfl (lv_at hl 6 rfl) ?_
  refine lv_iload hx hb dL_law_1685 (lv_at hl 1 rfl) ?_
  refine lv_iconst (v := 1) hx hb dL_law_1687 (by decide) ?_
  refine lv_iadd hx hb dL_law_1688 ?_
  obtain ⟨j5, hj5, hf⟩ := bnd hf
  refine hw_sld hx hb hX hbl hbA hH hj5 dL_law_1689 ?_
  refine lv_aload_n hx hb dL_law_1690 rfl (lv_at hl 6 rfl) ?_
  refine lv_iload hx hb dL_law_1691 (lv_at hl 1 rfl) ?_
  refine lv_iconst (v := 2) hx hb dL_law_1693 (by decide) ?_
  refine lv_iadd hx hb dL_law_1694 ?_
  obtain ⟨j6, hj6, hf⟩ := bnd hf
  refine hw_sld hx hb hX hbl hbA hH hj6 dL_law_1695 ?_
  refine lv_aload_n hx hb dL_law_1696 rfl (lv_at hl 6 rfl) ?_
  refine lv_iload hx hb dL_law_1697 (lv_at hl 1 rfl) ?_
  refine lv_iconst (v := 3) hx hb dL_law_1699 (by decide) ?_
  refine lv_iadd hx hb dL_law_1700 ?_
  obtain ⟨j7, hj7, hf⟩ := bnd hf
  refine hw_sld hx hb hX hbl hbA hH hj7 dL_law_1701 ?_
  obtain ⟨a8, ha8, hf⟩ := bnd hf
  replace ha8 := chk_some ha8
  obtain ⟨q9, hq9, hf⟩ := bnd hf
  refine hcV_f hx hb hml hown hts hKs hT hb0 hH (As := [.int ((xs j5)), .int ((xs j6)), .int ((xs j7))]) (rest := []) (k_X13_usage l E K H.size a8 (xs j5) (xs j6) (xs j7) q4.2 ha8.2 hq9) (gV m8_171 m8_172 m8_173 m1_16 m8_174) hd_X13_usage ⟨Nat.le_of_ble_eq_true rfl, Nat.le_of_ble_eq_true rfl, rfl, rfl⟩ ha8.1 ha8.2 rfl rfl rfl hl.1 rfl rc0 rfl dL_law_1702 ⟨(Nat.le_trans (Nat.add_le_add_left (Nat.le_of_ble_eq_true rfl : 2 ≤ 7) _) hc9), (Nat.le_trans (Nat.add_le_add_left (Nat.le_of_ble_eq_true rfl : 12 ≤ 42) _) hs9)⟩ (fun H locs hH => ?_)
  refine lv_fstore (i := 7) (lv' := [(7, .float q9.1), (6, .int (q4.1)), (5, .int v5), (4, rv E v4), (3, rv E v3), (2, rv E v2), (1, rv E v1), (0, .ref b)]) hx hb dL_law_1705 hl (by decide) rfl (fun ls hl => ?_)
  refine hl_aload_n hx hb dL_law_1707 rfl (lv_at hl 5 rfl) ?_
  obtain ⟨q10, hq10, hf⟩ := bnd hf
  refine hcV_i hx hb hml hown hts hKs hT hb0 hH (As := []) (rest := []) (k_X13_thrown l E K H.size a8 q9.2 ha8.2 hq10) (gV m7_60 m7_61 m7_62 m1_16 m7_63) hd_X13_thrown ⟨Nat.le_of_ble_eq_true rfl, Nat.le_of_ble_eq_true rfl, rfl, rfl⟩ ha8.1 ha8.2 rfl rfl rfl hl.1 rfl rc0 rfl dL_law_1708 ⟨(Nat.le_trans (Nat.add_le_add_left (Nat.le_of_ble_eq_true rfl : 2 ≤ 7) _) hc9), (Nat.le_trans (Nat.add_le_add_left (Nat.le_of_ble_eq_true rfl : 12 ≤ 42) _) hs9)⟩ (fun H locs hH => ?_)
  refine lv_iload hx hb dL_law_1711 (lv_at hl 1 rfl) ?_
  refine lv_icmp_eq (tgt := 1718) hx hb dL_law_1713 (by decide) (fun c11 => ?_) (fun c11 => ?_)
  · replace hf := (if_pos c11).symm.trans hf
    refine lv_iload hx hb dL_law_1718 (lv_at hl 1 rfl) ?_
    refine lv_if_ne (tgt := 1756) hx hb dL_law_1720 (by decide) (fun c12 => ?_) (fun c12 => ?_)
    · replace hf := (if_neg c12).symm.trans hf
      refine lv_goto (tgt := 2519) hx hb dL_law_1756 (by decide) ?_
      cases hf
      refine W.widen (k := 439 + 7 * (jz + 1)) (n := 21347 + 42 * (jz + 1)) (by omega) (by omega) ?_
      exact hk _ _ _ _ hH (lv_sub hl [2, 3, 4, 5, 6, 7] rfl)
    · replace hf := (if_pos c12).symm.trans hf
      refine hl_aload hx hb dL_law_1723 (lv_at hl 3 rfl) ?_
      refine lv_iconst (v := 0) hx hb dL_law_1725 (by decide) ?_
      obtain ⟨a13, ha13, hf⟩ := bnd hf
      replace ha13 := cha_some ha13
      obtain ⟨j14, hj14, hf⟩ := bnd hf
      refine hw_dald hx hb hKs hH ha13.1 ha13.2 hj14 dL_law_1726 ?_
      refine lv_fload hx hb dL_law_1727 (lv_at hl 0 rfl) ?_
      obtain ⟨_, hg15, hf⟩ := bnd hf
      refine lv_f2d hx hb dL_law_1729 (n64_ok (grd_some hg15)) ?_
      refine lv_dcmp hx hb dL_law_1730 ?_
      refine lv_if_eq (tgt := 1756) hx hb dL_law_1731 (by decide) (fun c16 => ?_) (fun c16 => ?_)
      · replace hf := (if_pos c16).symm.trans hf
        refine lv_goto (tgt := 2519) hx hb dL_law_1756 (by decide) ?_
        cases hf
        refine W.widen (k := 439 + 7 * (jz + 1)) (n := 21347 + 42 * (jz + 1)) (by omega) (by omega) ?_
        exact hk _ _ _ _ hH (lv_sub hl [2, 3, 4, 5, 6, 7] rfl)
      · replace hf := (if_neg c16).symm.trans hf
        refine hl_aload hx hb dL_law_1734 (lv_at hl 3 rfl) ?_
        refine lv_iconst (v := 0) hx hb dL_law_1736 (by decide) ?_
        obtain ⟨j17, hj17, hf⟩ := bnd hf
        refine hw_dald hx hb hKs hH ha13.1 ha13.2 hj17 dL_law_1737 ?_
        refine hl_aload hx hb dL_law_1738 (lv_at hl 3 rfl) ?_
        refine lv_iconst (v := 0) hx hb dL_law_1740 (by decide) ?_
        obtain ⟨j18, hj18, hf⟩ := bnd hf
        refine hw_dald hx hb hKs hH ha13.1 ha13.2 hj18 dL_law_1741 ?_
        refine lv_dcmp hx hb dL_law_1742 ?_
        refine lv_if_eq (tgt := 1754) hx hb dL_law_1743 (by decide) (fun c19 => ?_) (fun c19 => ?_)
        · replace hf := (if_pos c19).symm.trans hf
          refine lv_iconst (v := 0) hx hb dL_law_1754 (by decide) ?_
          cases hf
        · replace hf := (if_neg c19).symm.trans hf
          refine lv_fload hx hb dL_law_1746 (lv_at hl 0 rfl) ?_
          refine lv_fload hx hb dL_law_1748 (lv_at hl 0 rfl) ?_
          refine lv_fcmp hx hb dL_law_1750 ?_
          refine lv_if_ne (tgt := 1756) hx hb dL_law_1751 (by decide) (fun c20 => ?_) (fun c20 => ?_)
          · replace hf := (if_neg c20).symm.trans hf
            refine lv_goto (tgt := 2519) hx hb dL_law_1756 (by decide) ?_
            cases hf
            refine W.widen (k := 439 + 7 * (jz + 1)) (n := 21347 + 42 * (jz + 1)) (by omega) (by omega) ?_
            exact hk _ _ _ _ hH (lv_sub hl [2, 3, 4, 5, 6, 7] rfl)
          · replace hf := (if_pos c20).symm.trans hf
            refine lv_iconst (v := 0) hx hb dL_law_1754 (by decide) ?_
            cases hf
  · replace hf := (if_neg c11).symm.trans hf
    refine lv_iconst (v := 0) hx hb dL_law_1716 (by decide) ?_
    cases hf
set_option maxHeartbeats 4000000 in
set_option maxRecDepth 100000 in
theorem law_c27 {p : Program} {l : Launch} {e : Env} {s : State} {m : MethodId} {below : List Frame} {meth : Method} {c : Code} {E : Ev} {K : Kd} {b L : Nat} {xs : Nat → Int32} (hls : l.stackTraces = false) (hX : va_X b L xs s s.heap) (hbl : b < s.heap.size) (hbA : ¬ hA E b) (C : CX p l e s m #[Value.ref b] meth c code 10 RL ret E) {v1 v2 v3 v4 : Option Nat} {v5 : Int32} {w w' : Wd} {H : Heap} {locs : List Loc} {ls : Array Slot} {z jz : Nat} (hj : jz < 514) (hk : ∀ (H : Heap) (locs : List Loc) (ls : Array Slot) (z : Nat), HQ E K z w' s H locs → lv_has ls 10 [(5, .int v5), (4, rv E v4), (3, rv E v3), (2, rv E v2), (1, rv E v1), (0, .ref b)] → W p l e room_1 s m #[Value.ref b] below meth c H locs (439 + 7 * (jz + 1)) (21347 + 42 * (jz + 1)) (lw_Z below #[Value.ref b] s) (F0 m 2519 ls [])) (hH : HQ E K z w s H locs) (hl : lv_has ls 10 [(5, .int v5), (4, rv E v4), (3, rv E v3), (2, rv E v2), (1, rv E v1), (0, .ref b)]) (hf : f_law_c27 K L xs v1 v2 v3 v4 v5 w = some w') : W p l e room_1 s m #[Value.ref b] below meth c H locs (439 + 7 * jz) (21347 + 42 * jz) (lw_Z below #[Value.ref b] s) (F0 m 1759 ls []) := by
  obtain ⟨hx, hb, hml, hown, hts, hKs, hT, hb0, hlocks, hret⟩ := id C
  have hc9 : (439 + 7 * jz) + 7 ≤ 601024 := by omega
  have hs9 : (21347 + 42 * jz) + 42 ≤ 7293034 := by omega
  unfold f_law_c27 at hf
  refine hl_aload_n hx hb dL_law_1759 rfl (lv_at hl 4 rfl) ?_
  refine lv_aload_n hx hb dL_law_1760 rfl (lv_at hl 5 rfl) ?_
  refine lv_iload hx hb dL_law_1761 (lv_at hl 0 rfl) ?_
  refine lv_iconst (v := 1) hx hb dL_law_1763 (by decide) ?_
  refine lv_iadd hx hb dL_law_1764 ?_
  obtain ⟨j1, hj1, hf⟩ := bnd hf
  refine hw_sld hx hb hX hbl hbA hH hj1 dL_law_1765 ?_
  refine hl_aload_n hx hb dL_law_1766 rfl (lv_at hl 2 rfl) ?_
  obtain ⟨q2, hq2, hf⟩ := bnd hf
  refine hcW hH (vx_runSW (As := [rv E v1, .int ((xs j1)), rv E v3]) (rest := []) ⟨hx, hb, hml, hown, hts⟩ (k_L_pass l hls E K H.size v1 (xs j1) v3 w hq2) (vx_cwSW (hh := [(0, 9, 12, 13)]) _ hts (gW m6_42 m6_43 m1_0 m6_44) rfl rfl rfl hs_L_pass ⟨Nat.le_of_ble_eq_true rfl, Nat.le_of_ble_eq_true rfl⟩) ⟨HB.blind, HB.pre hKs hT hb0 hH⟩ rfl rfl hl.1 rfl (lv_room rc0) dL_law_1767 ⟨(Nat.le_trans (Nat.add_le_add_left (Nat.le_of_ble_eq_true rfl : 1 ≤ 7) _) hc9), (Nat.le_trans (Nat.add_le_add_left (Nat.le_of_ble_eq_true rfl : 6 ≤ 42) _) hs9)⟩) (fun H locs hH => ?_)
  refine lv_istore (i := 6) (lv' := [(6, .int (q2.1)), (5, .int v5), (4, rv E v4), (3, rv E v3), (2, rv E v2), (1, rv E v1), (0, .ref b)]) hx hb dL_law_1770 hl (by decide) rfl (fun ls hl => ?_)
  refine hl_aload_n hx hb dL_law_1772 rfl (lv_at hl 4 rfl) ?_
  refine lv_aload_n hx hb dL_law_1773 rfl (lv_at hl 6 rfl) ?_
  refine lv_iload hx hb dL_law_1774 (lv_at hl 1 rfl) ?_
  refine lv_iconst (v := 1) hx hb dL_law_1776 (by decide) ?_
  refine lv_iadd hx hb dL_law_1777 ?_
  obtain ⟨j3, hj3, hf⟩ := bnd hf
  refine hw_sld hx hb hX hbl hbA hH hj3 dL_law_1778 ?_
  obtain ⟨a4, ha4, hf⟩ := bnd hf
  replace ha4 := chk_some ha4
  obtain ⟨q5, hq5, hf⟩ := bnd hf
  refine hcV_i hx hb hml hown hts hKs hT hb0 hH (As := [.int ((xs j3))]) (rest := []) (k_X13_pass l E K H.size a4 (xs j3) q2.2 ha4.2 hq5) (gV m8_101 m8_102 m8_103 m1_16 m8_104) hd_X13_pass ⟨Nat.le_of_ble_eq_true rfl, Nat.le_of_ble_eq_true rfl, rfl, rfl⟩ ha4.1 ha4.2 rfl rfl rfl hl.1 rfl rc0 rfl dL_law_1779 ⟨(Nat.le_trans (Nat.add_le_add_left (Nat.le_of_ble_eq_true rfl : 1 ≤ 7) _) hc9), (Nat.le_trans (Nat.add_le_add_left (Nat.le_of_ble_eq_true rfl : 6 ≤ 42) _) hs9)⟩ (fun H locs hH => ?_)
  refine lv_istore (i := 7) (lv' := [(7, .int (q5.1)), (6, .int (q2.1)), (5, .int v5), (4, rv E v4), (3, rv E v3), (2, rv E v2), (1, rv E v1), (0, .ref b)]) hx hb dL_law_1782 hl (by decide) rfl (fun ls hl => ?_)
  refine hl_aload_n hx hb dL_law_1784 rfl (lv_at hl 5 rfl) ?_
  obtain ⟨q6, hq6, hf⟩ := bnd hf
  refine hcV_i hx hb hml hown hts hKs hT hb0 hH (As := []) (rest := []) (k_X13_thrown l E K H.size a4 q5.2 ha4.2 hq6) (gV m7_60 m7_61 m7_62 m1_16 m7_63) hd_X13_thrown ⟨Nat.le_of_ble_eq_true rfl, Nat.le_of_ble_eq_true rfl, rfl, rfl⟩ ha4.1 ha4.2 rfl rfl rfl hl.1 rfl rc0 rfl dL_law_1785 ⟨(Nat.le_trans (Nat.add_le_add_left (Nat.le_of_ble_eq_true rfl : 1 ≤ 7) _) hc9), (Nat.le_trans (Nat.add_le_add_left (Nat.le_of_ble_eq_true rfl : 6 ≤ 42) _) hs9)⟩ (fun H locs hH => ?_)
  refine lv_iload hx hb dL_law_1788 (lv_at hl 1 rfl) ?_
  refine lv_icmp_eq (tgt := 1795) hx hb dL_law_1790 (by decide) (fun c7 => ?_) (fun c7 => ?_)
  · replace hf := (if_pos c7).symm.trans hf
    refine lv_iload hx hb dL_law_1795 (lv_at hl 1 rfl) ?_
    refine lv_if_ne (tgt := 1812) hx hb dL_law_1797 (by decide) (fun c8 => ?_) (fun c8 => ?_)
    · replace hf := (if_neg c8).symm.trans hf
      refine lv_goto (tgt := 2519) hx hb dL_law_1812 (by decide) ?_
      cases hf
      refine W.widen (k := 439 + 7 * (jz + 1)) (n := 21347 + 42 * (jz + 1)) (by omega) (by omega) ?_
      exact hk _ _ _ _ hH (lv_sub hl [2, 3, 4, 5, 6, 7] rfl)
    · replace hf := (if_pos c8).symm.trans hf
      refine hl_aload_n hx hb dL_law_1800 rfl (lv_at hl 4 rfl) ?_
      refine lv_iconst (v := 0) hx hb dL_law_1801 (by decide) ?_
      obtain ⟨a9, ha9, hf⟩ := bnd hf
      replace ha9 := cha_some ha9
      obtain ⟨j10, hj10, hf⟩ := bnd hf
      refine hw_lald hx hb hKs hH ha9.1 ha9.2 hj10 dL_law_1802 ?_
      refine lv_iload hx hb dL_law_1803 (lv_at hl 0 rfl) ?_
      refine lv_i2l (v := (q5.1.toInt64)) hx hb dL_law_1805 rfl ?_
      refine W.lcmp hx hb dL_law_1806 ?_
      refine lv_if_eq (tgt := 1812) hx hb dL_law_1807 (by decide) (fun c11 => ?_) (fun c11 => ?_)
      · replace hf := (if_pos c11).symm.trans hf
        refine lv_goto (tgt := 2519) hx hb dL_law_1812 (by decide) ?_
        cases hf
        refine W.widen (k := 439 + 7 * (jz + 1)) (n := 21347 + 42 * (jz + 1)) (by omega) (by omega) ?_
        exact hk _ _ _ _ hH (lv_sub hl [2, 3, 4, 5, 6, 7] rfl)
      · replace hf := (if_neg c11).symm.trans hf
        refine lv_iconst (v := 0) hx hb dL_law_1810 (by decide) ?_
        cases hf
  · replace hf := (if_neg c7).symm.trans hf
    refine lv_iconst (v := 0) hx hb dL_law_1793 (by decide) ?_
    cases hf
set_option maxHeartbeats 4000000 in
set_option maxRecDepth 100000 in
theorem law_c28 {p : Program} {l : Launch} {e : Env} {s : State} {m : MethodId} {below : List Frame} {meth : Method} {c : Code} {E : Ev} {K : Kd} {b L : Nat} {xs : Nat → Int32} (hls : l.stackTraces = false) (hX : va_X b L xs s s.heap) (hbl : b < s.heap.size) (hbA : ¬ hA E b) (C : CX p l e s m #[Value.ref b] meth c code 10 RL ret E) {v1 v2 v3 v4 : Option Nat} {v5 : Int32} {w w' : Wd} {H : Heap} {locs : List Loc} {ls : Array Slot} {z jz : Nat} (hj : jz < 514) (hk : ∀ (H : Heap) (locs : List Loc) (ls : Array Slot) (z : Nat), HQ E K z w' s H locs → lv_has ls 10 [(5, .int v5), (4, rv E v4), (3, rv E v3), (2, rv E v2), (1, rv E v1), (0, .ref b)] → W p l e room_1 s m #[Value.ref b] below meth c H locs (439 + 7 * (jz + 1)) (21347 + 42 * (jz + 1)) (lw_Z below #[Value.ref b] s) (F0 m 2519 ls [])) (hH : HQ E K z w s H locs) (hl : lv_has ls 10 [(5, .int v5), (4, rv E v4), (3, rv E v3), (2, rv E v2), (1, rv E v1), (0, .ref b)]) (hf : f_law_c28 K L xs v1 v2 v3 v4 v5 w = some w') : W p l e room_1 s m #[Value.ref b] below meth c H locs (439 + 7 * jz) (21347 + 42 * jz) (lw_Z below #[Value.ref b] s) (F0 m 1815 ls []) := by
  obtain ⟨hx, hb, hml, hown, hts, hKs, hT, hb0, hlocks, hret⟩ := id C
  have hc9 : (439 + 7 * jz) + 7 ≤ 601024 := by omega
  have hs9 : (21347 + 42 * jz) + 42 ≤ 7293034 := by omega
  unfold f_law_c28 at hf
  refine hl_aload_n hx hb dL_law_1815 rfl (lv_at hl 4 rfl) ?_
  refine lv_aload_n hx hb dL_law_1816 rfl (lv_at hl 5 rfl) ?_
  refine lv_iload hx hb dL_law_1817 (lv_at hl 0 rfl) ?_
  refine lv_iconst (v := 1) hx hb dL_law_1819 (by decide) ?_
  refine lv_iadd hx hb dL_law_1820 ?_
  obtain ⟨j1, hj1, hf⟩ := bnd hf
  refine hw_sld hx hb hX hbl hbA hH hj1 dL_law_1821 ?_
  refine lv_aload_n hx hb dL_law_1822 rfl (lv_at hl 5 rfl) ?_
  refine lv_iload hx hb dL_law_1823 (lv_at hl 0 rfl) ?_
  refine lv_iconst (v := 2) hx hb dL_law_1825 (by decide) ?_
  refine lv_iadd hx hb dL_law_1826 ?_
  obtain ⟨j2, hj2, hf⟩ := bnd hf
  refine hw_sld hx hb hX hbl hbA hH hj2 dL_law_1827 ?_
  refine lv_aload_n hx hb dL_law_1828 rfl (lv_at hl 5 rfl) ?_
  refine lv_iload hx hb dL_law_1829 (lv_at hl 0 rfl) ?_
  refine lv_iconst (v := 3) hx hb dL_law_1831 (by decide) ?_
  refine lv_iadd hx hb dL_law_1832 ?_
  obtain ⟨j3, hj3, hf⟩ := bnd hf
  refine hw_sld hx hb hX hbl hbA hH hj3 dL_law_1833 ?_
  refine lv_aload_n hx hb dL_law_1834 rfl (lv_at hl 5 rfl) ?_
  refine lv_iload hx hb dL_law_1835 (lv_at hl 0 rfl) ?_
  refine lv_iconst (v := 4) hx hb dL_law_1837 (by decide) ?_
  refine lv_iadd hx hb dL_law_1838 ?_
  obtain ⟨j4, hj4, hf⟩ := bnd hf
  refine hw_sld hx hb hX hbl hbA hH hj4 dL_law_1839 ?_
  refine lv_aload_n hx hb dL_law_1840 rfl (lv_at hl 5 rfl) ?_
  refine lv_iload hx hb dL_law_1841 (lv_at hl 0 rfl) ?_
  refine lv_iconst (v := 5) hx hb dL_law_1843 (by decide) ?_
  refine lv_iadd hx hb dL_law_1844 ?_
  obtain ⟨j5, hj5, hf⟩ := bnd hf
  refine hw_sld hx hb hX hbl hbA hH hj5 dL_law_1845 ?_
  refine hl_aload_n hx hb dL_law_1846 rfl (lv_at hl 2 rfl) ?_
  obtain ⟨q6, hq6, hf⟩ := bnd hf
  refine hcW hH (vx_runSW (As := [rv E v1, .int ((xs j1)), .int ((xs j2)), .int ((xs j3)), .int ((xs j4)), .int ((xs j5)), rv E v3]) (rest := []) ⟨hx, hb, hml, hown, hts⟩ (k_L_plan l hls E K H.size v1 (xs j1) (xs j2) (xs j3) (xs j4) (xs j5) v3 w hq6) (vx_cwSW (hh := [(0, 16, 19, 29), (0, 16, 23, 13), (0, 16, 27, 58)]) _ hts (gW m6_57 m6_58 m1_0 m6_59) rfl rfl rfl hs_L_plan ⟨Nat.le_of_ble_eq_true rfl, Nat.le_of_ble_eq_true rfl⟩) ⟨HB.blind, HB.pre hKs hT hb0 hH⟩ rfl rfl hl.1 rfl (lv_room rc0) dL_law_1847 ⟨(Nat.le_trans (Nat.add_le_add_left (Nat.le_of_ble_eq_true rfl : 7 ≤ 7) _) hc9), (Nat.le_trans (Nat.add_le_add_left (Nat.le_of_ble_eq_true rfl : 42 ≤ 42) _) hs9)⟩) (fun H locs hH => ?_)
  refine lv_istore (i := 6) (lv' := [(6, .int (q6.1)), (5, .int v5), (4, rv E v4), (3, rv E v3), (2, rv E v2), (1, rv E v1), (0, .ref b)]) hx hb dL_law_1850 hl (by decide) rfl (fun ls hl => ?_)
  refine hl_aload_n hx hb dL_law_1852 rfl (lv_at hl 4 rfl) ?_
  refine lv_aload_n hx hb dL_law_1853 rfl (lv_at hl 6 rfl) ?_
  refine lv_iload hx hb dL_law_1854 (lv_at hl 1 rfl) ?_
  refine lv_iconst (v := 1) hx hb dL_law_1856 (by decide) ?_
  refine lv_iadd hx hb dL_law_1857 ?_
  obtain ⟨j7, hj7, hf⟩ := bnd hf
  refine hw_sld hx hb hX hbl hbA hH hj7 dL_law_1858 ?_
  refine lv_aload_n hx hb dL_law_1859 rfl (lv_at hl 6 rfl) ?_
  refine lv_iload hx hb dL_law_1860 (lv_at hl 1 rfl) ?_
  refine lv_iconst (v := 2) hx hb dL_law_1862 (by decide) ?_
  refine lv_iadd hx hb dL_law_1863 ?_
  obtain ⟨j8, hj8, hf⟩ := bnd hf
  refine hw_sld hx hb hX hbl hbA hH hj8 dL_law_1864 ?_
  refine lv_aload_n hx hb dL_law_1865 rfl (lv_at hl 6 rfl) ?_
  refine lv_iload hx hb dL_law_1866 (lv_at hl 1 rfl) ?_
  refine lv_iconst (v := 3) hx hb dL_law_1868 (by decide) ?_
  refine lv_iadd hx hb dL_law_1869 ?_
  obtain ⟨j9, hj9, hf⟩ := bnd hf
  refine hw_sld hx hb hX hbl hbA hH hj9 dL_law_1870 ?_
  refine lv_aload_n hx hb dL_law_1871 rfl (lv_at hl 6 rfl) ?_
  refine lv_iload hx hb dL_law_1872 (lv_at hl 1 rfl) ?_
  refine lv_iconst (v := 4) hx hb dL_law_1874 (by decide) ?_
  refine lv_iadd hx hb dL_law_1875 ?_
  obtain ⟨j10, hj10, hf⟩ := bnd hf
  refine hw_sld hx hb hX hbl hbA hH hj10 dL_law_1876 ?_
  refine lv_aload_n hx hb dL_law_1877 rfl (lv_at hl 6 rfl) ?_
  refine lv_iload hx hb dL_law_1878 (lv_at hl 1 rfl) ?_
  refine lv_iconst (v := 5) hx hb dL_law_1880 (by decide) ?_
  refine lv_iadd hx hb dL_law_1881 ?_
  obtain ⟨j11, hj11, hf⟩ := bnd hf
  refine hw_sld hx hb hX hbl hbA hH hj11 dL_law_1882 ?_
  obtain ⟨a12, ha12, hf⟩ := bnd hf
  replace ha12 := chk_some ha12
  obtain ⟨q13, hq13, hf⟩ := bnd hf
  refine hcV_i hx hb hml hown hts hKs hT hb0 hH (As := [.int ((xs j7)), .int ((xs j8)), .int ((xs j9)), .int ((xs j10)), .int ((xs j11))]) (rest := []) (k_X13_plan l E K H.size a12 (xs j7) (xs j8) (xs j9) (xs j10) (xs j11) q6.2 ha12.2 hq13) (gV m8_34 m8_35 m8_36 m1_16 m8_37) hd_X13_plan ⟨Nat.le_of_ble_eq_true rfl, Nat.le_of_ble_eq_true rfl, rfl, rfl⟩ ha12.1 ha12.2 rfl rfl rfl hl.1 rfl rc0 rfl dL_law_1883 ⟨(Nat.le_trans (Nat.add_le_add_left (Nat.le_of_ble_eq_true rfl : 7 ≤ 7) _) hc9), (Nat.le_trans (Nat.add_le_add_left (Nat.le_of_ble_eq_true rfl : 42 ≤ 42) _) hs9)⟩ (fun H locs hH => ?_)
  refine lv_istore (i := 7) (lv' := [(7, .int (q13.1)), (6, .int (q6.1)), (5, .int v5), (4, rv E v4), (3, rv E v3), (2, rv E v2), (1, rv E v1), (0, .ref b)]) hx hb dL_law_1886 hl (by decide) rfl (fun ls hl => ?_)
  refine hl_aload_n hx hb dL_law_1888 rfl (lv_at hl 5 rfl) ?_
  obtain ⟨q14, hq14, hf⟩ := bnd hf
  refine hcV_i hx hb hml hown hts hKs hT hb0 hH (As := []) (rest := []) (k_X13_thrown l E K H.size a12 q13.2 ha12.2 hq14) (gV m7_60 m7_61 m7_62 m1_16 m7_63) hd_X13_thrown ⟨Nat.le_of_ble_eq_true rfl, Nat.le_of_ble_eq_true rfl, rfl, rfl⟩ ha12.1 ha12.2 rfl rfl rfl hl.1 rfl rc0 rfl dL_law_1889 ⟨(Nat.le_trans (Nat.add_le_add_left (Nat.le_of_ble_eq_true rfl : 7 ≤ 7) _) hc9), (Nat.le_trans (Nat.add_le_add_left (Nat.le_of_ble_eq_true rfl : 42 ≤ 42) _) hs9)⟩ (fun H locs hH => ?_)
  refine lv_iload hx hb dL_law_1892 (lv_at hl 1 rfl) ?_
  refine lv_icmp_eq (tgt := 1899) hx hb dL_law_1894 (by decide) (fun c15 => ?_) (fun c15 => ?_)
  · replace hf := (if_pos c15).symm.trans hf
    refine lv_iload hx hb dL_law_1899 (lv_at hl 1 rfl) ?_
    refine lv_if_ne (tgt := 1916) hx hb dL_law_1901 (by decide) (fun c16 => ?_) (fun c16 => ?_)
    · replace hf := (if_neg c16).symm.trans hf
      refine lv_goto (tgt := 2519) hx hb dL_law_1916 (by decide) ?_
      cases hf
      refine W.widen (k := 439 + 7 * (jz + 1)) (n := 21347 + 42 * (jz + 1)) (by omega) (by omega) ?_
      exact hk _ _ _ _ hH (lv_sub hl [2, 3, 4, 5, 6, 7] rfl)
    · replace hf := (if_pos c16).symm.trans hf
      refine hl_aload_n hx hb dL_law_1904 rfl (lv_at hl 4 rfl) ?_
      refine lv_iconst (v := 0) hx hb dL_law_1905 (by decide) ?_
      obtain ⟨a17, ha17, hf⟩ := bnd hf
      replace ha17 := cha_some ha17
      obtain ⟨j18, hj18, hf⟩ := bnd hf
      refine hw_lald hx hb hKs hH ha17.1 ha17.2 hj18 dL_law_1906 ?_
      refine lv_iload hx hb dL_law_1907 (lv_at hl 0 rfl) ?_
      refine lv_i2l (v := (q13.1.toInt64)) hx hb dL_law_1909 rfl ?_
      refine W.lcmp hx hb dL_law_1910 ?_
      refine lv_if_eq (tgt := 1916) hx hb dL_law_1911 (by decide) (fun c19 => ?_) (fun c19 => ?_)
      · replace hf := (if_pos c19).symm.trans hf
        refine lv_goto (tgt := 2519) hx hb dL_law_1916 (by decide) ?_
        cases hf
        refine W.widen (k := 439 + 7 * (jz + 1)) (n := 21347 + 42 * (jz + 1)) (by omega) (by omega) ?_
        exact hk _ _ _ _ hH (lv_sub hl [2, 3, 4, 5, 6, 7] rfl)
      · replace hf := (if_neg c19).symm.trans hf
        refine lv_iconst (v := 0) hx hb dL_law_1914 (by decide) ?_
        cases hf
  · replace hf := (if_neg c15).symm.trans hf
    refine lv_iconst (v := 0) hx hb dL_law_1897 (by decide) ?_
    cases hf
set_option maxHeartbeats 4000000 in
set_option maxRecDepth 100000 in
theorem law_c29 {p : Program} {l : Launch} {e : Env} {s : State} {m : MethodId} {below : List Frame} {meth : Method} {c : Code} {E : Ev} {K : Kd} {b L : Nat} {xs : Nat → Int32} (hls : l.stackTraces = false) (hX : va_X b L xs s s.heap) (hbl : b < s.heap.size) (hbA : ¬ hA E b) (C : CX p l e s m #[Value.ref b] meth c code 10 RL ret E) {v1 v2 v3 v4 : Option Nat} {v5 : Int32} {w w' : Wd} {H : Heap} {locs : List Loc} {ls : Array Slot} {z jz : Nat} (hj : jz < 514) (hk : ∀ (H : Heap) (locs : List Loc) (ls : Array Slot) (z : Nat), HQ E K z w' s H locs → lv_has ls 10 [(5, .int v5), (4, rv E v4), (3, rv E v3), (2, rv E v2), (1, rv E v1), (0, .ref b)] → W p l e room_1 s m #[Value.ref b] below meth c H locs (439 + 7 * (jz + 1)) (21347 + 42 * (jz + 1)) (lw_Z below #[Value.ref b] s) (F0 m 2519 ls [])) (hH : HQ E K z w s H locs) (hl : lv_has ls 10 [(5, .int v5), (4, rv E v4), (3, rv E v3), (2, rv E v2), (1, rv E v1), (0, .ref b)]) (hf : f_law_c29 K L xs v1 v2 v3 v4 v5 w = some w') : W p l e room_1 s m #[Value.ref b] below meth c H locs (439 + 7 * jz) (21347 + 42 * jz) (lw_Z below #[Value.ref b] s) (F0 m 1919 ls []) := by
  obtain ⟨hx, hb, hml, hown, hts, hKs, hT, hb0, hlocks, hret⟩ := id C
  have hc9 : (439 + 7 * jz) + 7 ≤ 601024 := by omega
  have hs9 : (21347 + 42 * jz) + 42 ≤ 7293034 := by omega
  unfold f_law_c29 at hf
  refine hl_aload_n hx hb dL_law_1919 rfl (lv_at hl 4 rfl) ?_
  refine lv_aload_n hx hb dL_law_1920 rfl (lv_at hl 5 rfl) ?_
  refine lv_iload hx hb dL_law_1921 (lv_at hl 0 rfl) ?_
  refine lv_iconst (v := 1) hx hb dL_law_1923 (by decide) ?_
  refine lv_iadd hx hb dL_law_1924 ?_
  obtain ⟨j1, hj1, hf⟩ := bnd hf
  refine hw_sld hx hb hX hbl hbA hH hj1 dL_law_1925 ?_
  refine hl_aload_n hx hb dL_law_1926 rfl (lv_at hl 2 rfl) ?_
  obtain ⟨q2, hq2, hf⟩ := bnd hf
  refine hcW hH (vx_runSW (As := [rv E v1, .int ((xs j1)), rv E v3]) (rest := []) ⟨hx, hb, hml, hown, hts⟩ (k_L_planNext l hls E K H.size v1 (xs j1) v3 w hq2) (vx_cwSW (hh := [(0, 9, 12, 29), (0, 9, 15, 58), (0, 9, 18, 69)]) _ hts (gW m6_65 m6_66 m1_0 m6_67) rfl rfl rfl hs_L_planNext ⟨Nat.le_of_ble_eq_true rfl, Nat.le_of_ble_eq_true rfl⟩) ⟨HB.blind, HB.pre hKs hT hb0 hH⟩ rfl rfl hl.1 rfl (lv_room rc0) dL_law_1927 ⟨(Nat.le_trans (Nat.add_le_add_left (Nat.le_of_ble_eq_true rfl : 2 ≤ 7) _) hc9), (Nat.le_trans (Nat.add_le_add_left (Nat.le_of_ble_eq_true rfl : 12 ≤ 42) _) hs9)⟩) (fun H locs hH => ?_)
  refine lv_istore (i := 6) (lv' := [(6, .int (q2.1)), (5, .int v5), (4, rv E v4), (3, rv E v3), (2, rv E v2), (1, rv E v1), (0, .ref b)]) hx hb dL_law_1930 hl (by decide) rfl (fun ls hl => ?_)
  refine hl_aload_n hx hb dL_law_1932 rfl (lv_at hl 4 rfl) ?_
  refine lv_aload_n hx hb dL_law_1933 rfl (lv_at hl 6 rfl) ?_
  refine lv_iload hx hb dL_law_1934 (lv_at hl 1 rfl) ?_
  refine lv_iconst (v := 1) hx hb dL_law_1936 (by decide) ?_
  refine lv_iadd hx hb dL_law_1937 ?_
  obtain ⟨j3, hj3, hf⟩ := bnd hf
  refine hw_sld hx hb hX hbl hbA hH hj3 dL_law_1938 ?_
  obtain ⟨a4, ha4, hf⟩ := bnd hf
  replace ha4 := chk_some ha4
  obtain ⟨q5, hq5, hf⟩ := bnd hf
  refine hcV_i hx hb hml hown hts hKs hT hb0 hH (As := [.int ((xs j3))]) (rest := []) (k_X13_planNext l E K H.size a4 (xs j3) q2.2 ha4.2 hq5) (gV m8_58 m8_59 m8_60 m1_16 m8_61) hd_X13_planNext ⟨Nat.le_of_ble_eq_true rfl, Nat.le_of_ble_eq_true rfl, rfl, rfl⟩ ha4.1 ha4.2 rfl rfl rfl hl.1 rfl rc0 rfl dL_law_1939 ⟨(Nat.le_trans (Nat.add_le_add_left (Nat.le_of_ble_eq_true rfl : 2 ≤ 7) _) hc9), (Nat.le_trans (Nat.add_le_add_left (Nat.le_of_ble_eq_true rfl : 12 ≤ 42) _) hs9)⟩ (fun H locs hH => ?_)
  refine lv_istore (i := 7) (lv' := [(7, .int (q5.1)), (6, .int (q2.1)), (5, .int v5), (4, rv E v4), (3, rv E v3), (2, rv E v2), (1, rv E v1), (0, .ref b)]) hx hb dL_law_1942 hl (by decide) rfl (fun ls hl => ?_)
  refine hl_aload_n hx hb dL_law_1944 rfl (lv_at hl 5 rfl) ?_
  obtain ⟨q6, hq6, hf⟩ := bnd hf
  refine hcV_i hx hb hml hown hts hKs hT hb0 hH (As := []) (rest := []) (k_X13_thrown l E K H.size a4 q5.2 ha4.2 hq6) (gV m7_60 m7_61 m7_62 m1_16 m7_63) hd_X13_thrown ⟨Nat.le_of_ble_eq_true rfl, Nat.le_of_ble_eq_true rfl, rfl, rfl⟩ ha4.1 ha4.2 rfl rfl rfl hl.1 rfl rc0 rfl dL_law_1945 ⟨(Nat.le_trans (Nat.add_le_add_left (Nat.le_of_ble_eq_true rfl : 2 ≤ 7) _) hc9), (Nat.le_trans (Nat.add_le_add_left (Nat.le_of_ble_eq_true rfl : 12 ≤ 42) _) hs9)⟩ (fun H locs hH => ?_)
  refine lv_iload hx hb dL_law_1948 (lv_at hl 1 rfl) ?_
  refine lv_icmp_eq (tgt := 1955) hx hb dL_law_1950 (by decide) (fun c7 => ?_) (fun c7 => ?_)
  · replace hf := (if_pos c7).symm.trans hf
    refine lv_iload hx hb dL_law_1955 (lv_at hl 1 rfl) ?_
    refine lv_if_ne (tgt := 1972) hx hb dL_law_1957 (by decide) (fun c8 => ?_) (fun c8 => ?_)
    · replace hf := (if_neg c8).symm.trans hf
      refine lv_goto (tgt := 2519) hx hb dL_law_1972 (by decide) ?_
      cases hf
      refine W.widen (k := 439 + 7 * (jz + 1)) (n := 21347 + 42 * (jz + 1)) (by omega) (by omega) ?_
      exact hk _ _ _ _ hH (lv_sub hl [2, 3, 4, 5, 6, 7] rfl)
    · replace hf := (if_pos c8).symm.trans hf
      refine hl_aload_n hx hb dL_law_1960 rfl (lv_at hl 4 rfl) ?_
      refine lv_iconst (v := 0) hx hb dL_law_1961 (by decide) ?_
      obtain ⟨a9, ha9, hf⟩ := bnd hf
      replace ha9 := cha_some ha9
      obtain ⟨j10, hj10, hf⟩ := bnd hf
      refine hw_lald hx hb hKs hH ha9.1 ha9.2 hj10 dL_law_1962 ?_
      refine lv_iload hx hb dL_law_1963 (lv_at hl 0 rfl) ?_
      refine lv_i2l (v := (q5.1.toInt64)) hx hb dL_law_1965 rfl ?_
      refine W.lcmp hx hb dL_law_1966 ?_
      refine lv_if_eq (tgt := 1972) hx hb dL_law_1967 (by decide) (fun c11 => ?_) (fun c11 => ?_)
      · replace hf := (if_pos c11).symm.trans hf
        refine lv_goto (tgt := 2519) hx hb dL_law_1972 (by decide) ?_
        cases hf
        refine W.widen (k := 439 + 7 * (jz + 1)) (n := 21347 + 42 * (jz + 1)) (by omega) (by omega) ?_
        exact hk _ _ _ _ hH (lv_sub hl [2, 3, 4, 5, 6, 7] rfl)
      · replace hf := (if_neg c11).symm.trans hf
        refine lv_iconst (v := 0) hx hb dL_law_1970 (by decide) ?_
        cases hf
  · replace hf := (if_neg c7).symm.trans hf
    refine lv_iconst (v := 0) hx hb dL_law_1953 (by decide) ?_
    cases hf
set_option maxHeartbeats 4000000 in
set_option maxRecDepth 100000 in
theorem law_c30 {p : Program} {l : Launch} {e : Env} {s : State} {m : MethodId} {below : List Frame} {meth : Method} {c : Code} {E : Ev} {K : Kd} {b L : Nat} {xs : Nat → Int32} (hls : l.stackTraces = false) (hX : va_X b L xs s s.heap) (hbl : b < s.heap.size) (hbA : ¬ hA E b) (C : CX p l e s m #[Value.ref b] meth c code 10 RL ret E) {v1 v2 v3 v4 : Option Nat} {v5 : Int32} {w w' : Wd} {H : Heap} {locs : List Loc} {ls : Array Slot} {z jz : Nat} (hj : jz < 514) (hk : ∀ (H : Heap) (locs : List Loc) (ls : Array Slot) (z : Nat), HQ E K z w' s H locs → lv_has ls 10 [(5, .int v5), (4, rv E v4), (3, rv E v3), (2, rv E v2), (1, rv E v1), (0, .ref b)] → W p l e room_1 s m #[Value.ref b] below meth c H locs (439 + 7 * (jz + 1)) (21347 + 42 * (jz + 1)) (lw_Z below #[Value.ref b] s) (F0 m 2519 ls [])) (hH : HQ E K z w s H locs) (hl : lv_has ls 10 [(5, .int v5), (4, rv E v4), (3, rv E v3), (2, rv E v2), (1, rv E v1), (0, .ref b)]) (hf : f_law_c30 K L xs v1 v2 v3 v4 v5 w = some w') : W p l e room_1 s m #[Value.ref b] below meth c H locs (439 + 7 * jz) (21347 + 42 * jz) (lw_Z below #[Value.ref b] s) (F0 m 1975 ls []) := by
  obtain ⟨hx, hb, hml, hown, hts, hKs, hT, hb0, hlocks, hret⟩ := id C
  have hc9 : (439 + 7 * jz) + 7 ≤ 601024 := by omega
  have hs9 : (21347 + 42 * jz) + 42 ≤ 7293034 := by omega
  unfold f_law_c30 at hf
  refine hl_aload_n hx hb dL_law_1975 rfl (lv_at hl 4 rfl) ?_
  obtain ⟨a1, ha1, hf⟩ := bnd hf
  replace ha1 := chk_some ha1
  obtain ⟨q2, hq2, hf⟩ := bnd hf
  refine hcV_i hx hb hml hown hts hKs hT hb0 hH (As := []) (rest := []) (k_X12_planAll l E K H.size a1 w ha1.2 hq2) (gV m4_78 m4_79 m4_80 m1_1 m4_81) hd_X12_planAll ⟨Nat.le_of_ble_eq_true rfl, Nat.le_of_ble_eq_true rfl, rfl, rfl⟩ ha1.1 ha1.2 rfl rfl rfl hl.1 rfl rc0 rfl dL_law_1976 ⟨(Nat.le_trans (Nat.add_le_add_left (Nat.le_of_ble_eq_true rfl : 0 ≤ 7) _) hc9), (Nat.le_trans (Nat.add_le_add_left (Nat.le_of_ble_eq_true rfl : 0 ≤ 42) _) hs9)⟩ (fun H locs hH => ?_)
  refine hl_aload_n hx hb dL_law_1979 rfl (lv_at hl 3 rfl) ?_
  obtain ⟨a3, ha3, hf⟩ := bnd hf
  replace ha3 := chk_some ha3
  obtain ⟨q4, hq4, hf⟩ := bnd hf
  refine hcV_i hx hb hml hown hts hKs hT hb0 hH (As := []) (rest := [.int (q2.1)]) (k_X13_planAll l E K H.size a3 q2.2 ha3.2 hq4) (gV m8_62 m8_63 m8_64 m1_16 m8_65) hd_X13_planAll ⟨Nat.le_of_ble_eq_true rfl, Nat.le_of_ble_eq_true rfl, rfl, rfl⟩ ha3.1 ha3.2 rfl rfl rfl hl.1 rfl (rcI rc0) rfl dL_law_1980 ⟨(Nat.le_trans (Nat.add_le_add_left (Nat.le_of_ble_eq_true rfl : 0 ≤ 7) _) hc9), (Nat.le_trans (Nat.add_le_add_left (Nat.le_of_ble_eq_true rfl : 0 ≤ 42) _) hs9)⟩ (fun H locs hH => ?_)
  refine lv_icmp_eq (tgt := 2519) hx hb dL_law_1983 (by decide) (fun c5 => ?_) (fun c5 => ?_)
  · replace hf := (if_pos c5).symm.trans hf
    cases hf
    refine W.widen (k := 439 + 7 * (jz + 1)) (n := 21347 + 42 * (jz + 1)) (by omega) (by omega) ?_
    exact hk _ _ _ _ hH (lv_sub hl [0, 1, 2, 3, 4, 5] rfl)
  · replace hf := (if_neg c5).symm.trans hf
    refine lv_iconst (v := 0) hx hb dL_law_1986 (by decide) ?_
    cases hf
set_option maxHeartbeats 4000000 in
set_option maxRecDepth 100000 in
theorem law_c31 {p : Program} {l : Launch} {e : Env} {s : State} {m : MethodId} {below : List Frame} {meth : Method} {c : Code} {E : Ev} {K : Kd} {b L : Nat} {xs : Nat → Int32} (hls : l.stackTraces = false) (hX : va_X b L xs s s.heap) (hbl : b < s.heap.size) (hbA : ¬ hA E b) (C : CX p l e s m #[Value.ref b] meth c code 10 RL ret E) {v1 v2 v3 v4 : Option Nat} {v5 : Int32} {w w' : Wd} {H : Heap} {locs : List Loc} {ls : Array Slot} {z jz : Nat} (hj : jz < 514) (hk : ∀ (H : Heap) (locs : List Loc) (ls : Array Slot) (z : Nat), HQ E K z w' s H locs → lv_has ls 10 [(5, .int v5), (4, rv E v4), (3, rv E v3), (2, rv E v2), (1, rv E v1), (0, .ref b)] → W p l e room_1 s m #[Value.ref b] below meth c H locs (439 + 7 * (jz + 1)) (21347 + 42 * (jz + 1)) (lw_Z below #[Value.ref b] s) (F0 m 2519 ls [])) (hH : HQ E K z w s H locs) (hl : lv_has ls 10 [(5, .int v5), (4, rv E v4), (3, rv E v3), (2, rv E v2), (1, rv E v1), (0, .ref b)]) (hf : f_law_c31 K L xs v1 v2 v3 v4 v5 w = some w') : W p l e room_1 s m #[Value.ref b] below meth c H locs (439 + 7 * jz) (21347 + 42 * jz) (lw_Z below #[Value.ref b] s) (F0 m 1988 ls []) := by
  obtain ⟨hx, hb, hml, hown, hts, hKs, hT, hb0, hlocks, hret⟩ := id C
  have hc9 : (439 + 7 * jz) + 7 ≤ 601024 := by omega
  have hs9 : (21347 + 42 * jz) + 42 ≤ 7293034 := by omega
  unfold f_law_c31 at hf
  refine hl_aload_n hx hb dL_law_1988 rfl (lv_at hl 4 rfl) ?_
  refine lv_aload_n hx hb dL_law_1989 rfl (lv_at hl 5 rfl) ?_
  refine lv_iload hx hb dL_law_1990 (lv_at hl 0 rfl) ?_
  refine lv_iconst (v := 1) hx hb dL_law_1992 (by decide) ?_
  refine lv_iadd hx hb dL_law_1993 ?_
  obtain ⟨j1, hj1, hf⟩ := bnd hf
  refine hw_sld hx hb hX hbl hbA hH hj1 dL_law_1994 ?_
  refine lv_aload_n hx hb dL_law_1995 rfl (lv_at hl 5 rfl) ?_
  refine lv_iload hx hb dL_law_1996 (lv_at hl 0 rfl) ?_
  refine lv_iconst (v := 2) hx hb dL_law_1998 (by decide) ?_
  refine lv_iadd hx hb dL_law_1999 ?_
  obtain ⟨j2, hj2, hf⟩ := bnd hf
  refine hw_sld hx hb hX hbl hbA hH hj2 dL_law_2000 ?_
  refine hl_aload_n hx hb dL_law_2001 rfl (lv_at hl 2 rfl) ?_
  obtain ⟨q3, hq3, hf⟩ := bnd hf
  refine hcW hH (vx_runSW (As := [rv E v1, .int ((xs j1)), .int ((xs j2)), rv E v3]) (rest := []) ⟨hx, hb, hml, hown, hts⟩ (k_L_adjourn l hls E K H.size v1 (xs j1) (xs j2) v3 w hq3) (vx_cwSW (hh := [(0, 10, 13, 29), (0, 10, 17, 13), (0, 10, 21, 58)]) _ hts (gW m6_73 m6_74 m1_0 m6_75) rfl rfl rfl hs_L_adjourn ⟨Nat.le_of_ble_eq_true rfl, Nat.le_of_ble_eq_true rfl⟩) ⟨HB.blind, HB.pre hKs hT hb0 hH⟩ rfl rfl hl.1 rfl (lv_room rc0) dL_law_2002 ⟨(Nat.le_trans (Nat.add_le_add_left (Nat.le_of_ble_eq_true rfl : 3 ≤ 7) _) hc9), (Nat.le_trans (Nat.add_le_add_left (Nat.le_of_ble_eq_true rfl : 18 ≤ 42) _) hs9)⟩) (fun H locs hH => ?_)
  refine lv_istore (i := 6) (lv' := [(6, .int (q3.1)), (5, .int v5), (4, rv E v4), (3, rv E v3), (2, rv E v2), (1, rv E v1), (0, .ref b)]) hx hb dL_law_2005 hl (by decide) rfl (fun ls hl => ?_)
  refine hl_aload_n hx hb dL_law_2007 rfl (lv_at hl 4 rfl) ?_
  refine lv_aload_n hx hb dL_law_2008 rfl (lv_at hl 6 rfl) ?_
  refine lv_iload hx hb dL_law_2009 (lv_at hl 1 rfl) ?_
  refine lv_iconst (v := 1) hx hb dL_law_2011 (by decide) ?_
  refine lv_iadd hx hb dL_law_2012 ?_
  obtain ⟨j4, hj4, hf⟩ := bnd hf
  refine hw_sld hx hb hX hbl hbA hH hj4 dL_law_2013 ?_
  refine lv_aload_n hx hb dL_law_2014 rfl (lv_at hl 6 rfl) ?_
  refine lv_iload hx hb dL_law_2015 (lv_at hl 1 rfl) ?_
  refine lv_iconst (v := 2) hx hb dL_law_2017 (by decide) ?_
  refine lv_iadd hx hb dL_law_2018 ?_
  obtain ⟨j5, hj5, hf⟩ := bnd hf
  refine hw_sld hx hb hX hbl hbA hH hj5 dL_law_2019 ?_
  obtain ⟨a6, ha6, hf⟩ := bnd hf
  replace ha6 := chk_some ha6
  obtain ⟨q7, hq7, hf⟩ := bnd hf
  refine hcV_i hx hb hml hown hts hKs hT hb0 hH (As := [.int ((xs j4)), .int ((xs j5))]) (rest := []) (k_X13_adjourn l E K H.size a6 (xs j4) (xs j5) q3.2 ha6.2 hq7) (gV m8_74 m8_75 m8_76 m1_16 m8_77) hd_X13_adjourn ⟨Nat.le_of_ble_eq_true rfl, Nat.le_of_ble_eq_true rfl, rfl, rfl⟩ ha6.1 ha6.2 rfl rfl rfl hl.1 rfl rc0 rfl dL_law_2020 ⟨(Nat.le_trans (Nat.add_le_add_left (Nat.le_of_ble_eq_true rfl : 3 ≤ 7) _) hc9), (Nat.le_trans (Nat.add_le_add_left (Nat.le_of_ble_eq_true rfl : 18 ≤ 42) _) hs9)⟩ (fun H locs hH => ?_)
  refine lv_istore (i := 7) (lv' := [(7, .int (q7.1)), (6, .int (q3.1)), (5, .int v5), (4, rv E v4), (3, rv E v3), (2, rv E v2), (1, rv E v1), (0, .ref b)]) hx hb dL_law_2023 hl (by decide) rfl (fun ls hl => ?_)
  refine hl_aload_n hx hb dL_law_2025 rfl (lv_at hl 5 rfl) ?_
  obtain ⟨q8, hq8, hf⟩ := bnd hf
  refine hcV_i hx hb hml hown hts hKs hT hb0 hH (As := []) (rest := []) (k_X13_thrown l E K H.size a6 q7.2 ha6.2 hq8) (gV m7_60 m7_61 m7_62 m1_16 m7_63) hd_X13_thrown ⟨Nat.le_of_ble_eq_true rfl, Nat.le_of_ble_eq_true rfl, rfl, rfl⟩ ha6.1 ha6.2 rfl rfl rfl hl.1 rfl rc0 rfl dL_law_2026 ⟨(Nat.le_trans (Nat.add_le_add_left (Nat.le_of_ble_eq_true rfl : 3 ≤ 7) _) hc9), (Nat.le_trans (Nat.add_le_add_left (Nat.le_of_ble_eq_true rfl : 18 ≤ 42) _) hs9)⟩ (fun H locs hH => ?_)
  refine lv_iload hx hb dL_law_2029 (lv_at hl 1 rfl) ?_
  refine lv_icmp_eq (tgt := 2036) hx hb dL_law_2031 (by decide) (fun c9 => ?_) (fun c9 => ?_)
  · replace hf := (if_pos c9).symm.trans hf
    refine lv_iload hx hb dL_law_2036 (lv_at hl 1 rfl) ?_
    refine lv_if_ne (tgt := 2053) hx hb dL_law_2038 (by decide) (fun c10 => ?_) (fun c10 => ?_)
    · replace hf := (if_neg c10).symm.trans hf
      refine lv_goto (tgt := 2519) hx hb dL_law_2053 (by decide) ?_
      cases hf
      refine W.widen (k := 439 + 7 * (jz + 1)) (n := 21347 + 42 * (jz + 1)) (by omega) (by omega) ?_
      exact hk _ _ _ _ hH (lv_sub hl [2, 3, 4, 5, 6, 7] rfl)
    · replace hf := (if_pos c10).symm.trans hf
      refine hl_aload_n hx hb dL_law_2041 rfl (lv_at hl 4 rfl) ?_
      refine lv_iconst (v := 0) hx hb dL_law_2042 (by decide) ?_
      obtain ⟨a11, ha11, hf⟩ := bnd hf
      replace ha11 := cha_some ha11
      obtain ⟨j12, hj12, hf⟩ := bnd hf
      refine hw_lald hx hb hKs hH ha11.1 ha11.2 hj12 dL_law_2043 ?_
      refine lv_iload hx hb dL_law_2044 (lv_at hl 0 rfl) ?_
      refine lv_i2l (v := (q7.1.toInt64)) hx hb dL_law_2046 rfl ?_
      refine W.lcmp hx hb dL_law_2047 ?_
      refine lv_if_eq (tgt := 2053) hx hb dL_law_2048 (by decide) (fun c13 => ?_) (fun c13 => ?_)
      · replace hf := (if_pos c13).symm.trans hf
        refine lv_goto (tgt := 2519) hx hb dL_law_2053 (by decide) ?_
        cases hf
        refine W.widen (k := 439 + 7 * (jz + 1)) (n := 21347 + 42 * (jz + 1)) (by omega) (by omega) ?_
        exact hk _ _ _ _ hH (lv_sub hl [2, 3, 4, 5, 6, 7] rfl)
      · replace hf := (if_neg c13).symm.trans hf
        refine lv_iconst (v := 0) hx hb dL_law_2051 (by decide) ?_
        cases hf
  · replace hf := (if_neg c9).symm.trans hf
    refine lv_iconst (v := 0) hx hb dL_law_2034 (by decide) ?_
    cases hf
set_option maxHeartbeats 4000000 in
set_option maxRecDepth 100000 in
theorem law_c32 {p : Program} {l : Launch} {e : Env} {s : State} {m : MethodId} {below : List Frame} {meth : Method} {c : Code} {E : Ev} {K : Kd} {b L : Nat} {xs : Nat → Int32} (hls : l.stackTraces = false) (hX : va_X b L xs s s.heap) (hbl : b < s.heap.size) (hbA : ¬ hA E b) (C : CX p l e s m #[Value.ref b] meth c code 10 RL ret E) {v1 v2 v3 v4 : Option Nat} {v5 : Int32} {w w' : Wd} {H : Heap} {locs : List Loc} {ls : Array Slot} {z jz : Nat} (hj : jz < 514) (hk : ∀ (H : Heap) (locs : List Loc) (ls : Array Slot) (z : Nat), HQ E K z w' s H locs → lv_has ls 10 [(5, .int v5), (4, rv E v4), (3, rv E v3), (2, rv E v2), (1, rv E v1), (0, .ref b)] → W p l e room_1 s m #[Value.ref b] below meth c H locs (439 + 7 * (jz + 1)) (21347 + 42 * (jz + 1)) (lw_Z below #[Value.ref b] s) (F0 m 2519 ls [])) (hH : HQ E K z w s H locs) (hl : lv_has ls 10 [(5, .int v5), (4, rv E v4), (3, rv E v3), (2, rv E v2), (1, rv E v1), (0, .ref b)]) (hf : f_law_c32 K L xs v1 v2 v3 v4 v5 w = some w') : W p l e room_1 s m #[Value.ref b] below meth c H locs (439 + 7 * jz) (21347 + 42 * jz) (lw_Z below #[Value.ref b] s) (F0 m 2056 ls []) := by
  obtain ⟨hx, hb, hml, hown, hts, hKs, hT, hb0, hlocks, hret⟩ := id C
  have hc9 : (439 + 7 * jz) + 7 ≤ 601024 := by omega
  have hs9 : (21347 + 42 * jz) + 42 ≤ 7293034 := by omega
  unfold f_law_c32 at hf
  refine hl_aload_n hx hb dL_law_2056 rfl (lv_at hl 4 rfl) ?_
  refine lv_aload_n hx hb dL_law_2057 rfl (lv_at hl 5 rfl) ?_
  refine lv_iload hx hb dL_law_2058 (lv_at hl 0 rfl) ?_
  refine lv_iconst (v := 1) hx hb dL_law_2060 (by decide) ?_
  refine lv_iadd hx hb dL_law_2061 ?_
  obtain ⟨j1, hj1, hf⟩ := bnd hf
  refine hw_sld hx hb hX hbl hbA hH hj1 dL_law_2062 ?_
  refine lv_aload_n hx hb dL_law_2063 rfl (lv_at hl 5 rfl) ?_
  refine lv_iload hx hb dL_law_2064 (lv_at hl 0 rfl) ?_
  refine lv_iconst (v := 2) hx hb dL_law_2066 (by decide) ?_
  refine lv_iadd hx hb dL_law_2067 ?_
  obtain ⟨j2, hj2, hf⟩ := bnd hf
  refine hw_sld hx hb hX hbl hbA hH hj2 dL_law_2068 ?_
  refine hl_aload_n hx hb dL_law_2069 rfl (lv_at hl 2 rfl) ?_
  obtain ⟨q3, hq3, hf⟩ := bnd hf
  refine hcW hH (vx_runSW (As := [rv E v1, .int ((xs j1)), .int ((xs j2)), rv E v3]) (rest := []) ⟨hx, hb, hml, hown, hts⟩ (k_L_withdraw l hls E K H.size v1 (xs j1) (xs j2) v3 w hq3) (vx_cwSW (hh := [(0, 10, 13, 29), (0, 10, 17, 13)]) _ hts (gW m6_90 m6_91 m1_0 m6_92) rfl rfl rfl hs_L_withdraw ⟨Nat.le_of_ble_eq_true rfl, Nat.le_of_ble_eq_true rfl⟩) ⟨HB.blind, HB.pre hKs hT hb0 hH⟩ rfl rfl hl.1 rfl (lv_room rc0) dL_law_2070 ⟨(Nat.le_trans (Nat.add_le_add_left (Nat.le_of_ble_eq_true rfl : 2 ≤ 7) _) hc9), (Nat.le_trans (Nat.add_le_add_left (Nat.le_of_ble_eq_true rfl : 12 ≤ 42) _) hs9)⟩) (fun H locs hH => ?_)
  refine lv_istore (i := 6) (lv' := [(6, .int (q3.1)), (5, .int v5), (4, rv E v4), (3, rv E v3), (2, rv E v2), (1, rv E v1), (0, .ref b)]) hx hb dL_law_2073 hl (by decide) rfl (fun ls hl => ?_)
  refine hl_aload_n hx hb dL_law_2075 rfl (lv_at hl 4 rfl) ?_
  refine lv_aload_n hx hb dL_law_2076 rfl (lv_at hl 6 rfl) ?_
  refine lv_iload hx hb dL_law_2077 (lv_at hl 1 rfl) ?_
  refine lv_iconst (v := 1) hx hb dL_law_2079 (by decide) ?_
  refine lv_iadd hx hb dL_law_2080 ?_
  obtain ⟨j4, hj4, hf⟩ := bnd hf
  refine hw_sld hx hb hX hbl hbA hH hj4 dL_law_2081 ?_
  refine lv_aload_n hx hb dL_law_2082 rfl (lv_at hl 6 rfl) ?_
  refine lv_iload hx hb dL_law_2083 (lv_at hl 1 rfl) ?_
  refine lv_iconst (v := 2) hx hb dL_law_2085 (by decide) ?_
  refine lv_iadd hx hb dL_law_2086 ?_
  obtain ⟨j5, hj5, hf⟩ := bnd hf
  refine hw_sld hx hb hX hbl hbA hH hj5 dL_law_2087 ?_
  obtain ⟨a6, ha6, hf⟩ := bnd hf
  replace ha6 := chk_some ha6
  obtain ⟨q7, hq7, hf⟩ := bnd hf
  refine hcV_i hx hb hml hown hts hKs hT hb0 hH (As := [.int ((xs j4)), .int ((xs j5))]) (rest := []) (k_X13_withdraw l E K H.size a6 (xs j4) (xs j5) q3.2 ha6.2 hq7) (gV m8_85 m8_86 m8_87 m1_16 m8_88) hd_X13_withdraw ⟨Nat.le_of_ble_eq_true rfl, Nat.le_of_ble_eq_true rfl, rfl, rfl⟩ ha6.1 ha6.2 rfl rfl rfl hl.1 rfl rc0 rfl dL_law_2088 ⟨(Nat.le_trans (Nat.add_le_add_left (Nat.le_of_ble_eq_true rfl : 2 ≤ 7) _) hc9), (Nat.le_trans (Nat.add_le_add_left (Nat.le_of_ble_eq_true rfl : 12 ≤ 42) _) hs9)⟩ (fun H locs hH => ?_)
  refine lv_istore (i := 7) (lv' := [(7, .int (q7.1)), (6, .int (q3.1)), (5, .int v5), (4, rv E v4), (3, rv E v3), (2, rv E v2), (1, rv E v1), (0, .ref b)]) hx hb dL_law_2091 hl (by decide) rfl (fun ls hl => ?_)
  refine hl_aload_n hx hb dL_law_2093 rfl (lv_at hl 5 rfl) ?_
  obtain ⟨q8, hq8, hf⟩ := bnd hf
  refine hcV_i hx hb hml hown hts hKs hT hb0 hH (As := []) (rest := []) (k_X13_thrown l E K H.size a6 q7.2 ha6.2 hq8) (gV m7_60 m7_61 m7_62 m1_16 m7_63) hd_X13_thrown ⟨Nat.le_of_ble_eq_true rfl, Nat.le_of_ble_eq_true rfl, rfl, rfl⟩ ha6.1 ha6.2 rfl rfl rfl hl.1 rfl rc0 rfl dL_law_2094 ⟨(Nat.le_trans (Nat.add_le_add_left (Nat.le_of_ble_eq_true rfl : 2 ≤ 7) _) hc9), (Nat.le_trans (Nat.add_le_add_left (Nat.le_of_ble_eq_true rfl : 12 ≤ 42) _) hs9)⟩ (fun H locs hH => ?_)
  refine lv_iload hx hb dL_law_2097 (lv_at hl 1 rfl) ?_
  refine lv_icmp_eq (tgt := 2104) hx hb dL_law_2099 (by decide) (fun c9 => ?_) (fun c9 => ?_)
  · replace hf := (if_pos c9).symm.trans hf
    refine lv_iload hx hb dL_law_2104 (lv_at hl 1 rfl) ?_
    refine lv_if_ne (tgt := 2121) hx hb dL_law_2106 (by decide) (fun c10 => ?_) (fun c10 => ?_)
    · replace hf := (if_neg c10).symm.trans hf
      refine lv_goto (tgt := 2519) hx hb dL_law_2121 (by decide) ?_
      cases hf
      refine W.widen (k := 439 + 7 * (jz + 1)) (n := 21347 + 42 * (jz + 1)) (by omega) (by omega) ?_
      exact hk _ _ _ _ hH (lv_sub hl [2, 3, 4, 5, 6, 7] rfl)
    · replace hf := (if_pos c10).symm.trans hf
      refine hl_aload_n hx hb dL_law_2109 rfl (lv_at hl 4 rfl) ?_
      refine lv_iconst (v := 0) hx hb dL_law_2110 (by decide) ?_
      obtain ⟨a11, ha11, hf⟩ := bnd hf
      replace ha11 := cha_some ha11
      obtain ⟨j12, hj12, hf⟩ := bnd hf
      refine hw_lald hx hb hKs hH ha11.1 ha11.2 hj12 dL_law_2111 ?_
      refine lv_iload hx hb dL_law_2112 (lv_at hl 0 rfl) ?_
      refine lv_i2l (v := (q7.1.toInt64)) hx hb dL_law_2114 rfl ?_
      refine W.lcmp hx hb dL_law_2115 ?_
      refine lv_if_eq (tgt := 2121) hx hb dL_law_2116 (by decide) (fun c13 => ?_) (fun c13 => ?_)
      · replace hf := (if_pos c13).symm.trans hf
        refine lv_goto (tgt := 2519) hx hb dL_law_2121 (by decide) ?_
        cases hf
        refine W.widen (k := 439 + 7 * (jz + 1)) (n := 21347 + 42 * (jz + 1)) (by omega) (by omega) ?_
        exact hk _ _ _ _ hH (lv_sub hl [2, 3, 4, 5, 6, 7] rfl)
      · replace hf := (if_neg c13).symm.trans hf
        refine lv_iconst (v := 0) hx hb dL_law_2119 (by decide) ?_
        cases hf
  · replace hf := (if_neg c9).symm.trans hf
    refine lv_iconst (v := 0) hx hb dL_law_2102 (by decide) ?_
    cases hf
set_option maxHeartbeats 4000000 in
set_option maxRecDepth 100000 in
theorem law_c33 {p : Program} {l : Launch} {e : Env} {s : State} {m : MethodId} {below : List Frame} {meth : Method} {c : Code} {E : Ev} {K : Kd} {b L : Nat} {xs : Nat → Int32} (hls : l.stackTraces = false) (hX : va_X b L xs s s.heap) (hbl : b < s.heap.size) (hbA : ¬ hA E b) (C : CX p l e s m #[Value.ref b] meth c code 10 RL ret E) {v1 v2 v3 v4 : Option Nat} {v5 : Int32} {w w' : Wd} {H : Heap} {locs : List Loc} {ls : Array Slot} {z jz : Nat} (hj : jz < 514) (hk : ∀ (H : Heap) (locs : List Loc) (ls : Array Slot) (z : Nat), HQ E K z w' s H locs → lv_has ls 10 [(5, .int v5), (4, rv E v4), (3, rv E v3), (2, rv E v2), (1, rv E v1), (0, .ref b)] → W p l e room_1 s m #[Value.ref b] below meth c H locs (439 + 7 * (jz + 1)) (21347 + 42 * (jz + 1)) (lw_Z below #[Value.ref b] s) (F0 m 2519 ls [])) (hH : HQ E K z w s H locs) (hl : lv_has ls 10 [(5, .int v5), (4, rv E v4), (3, rv E v3), (2, rv E v2), (1, rv E v1), (0, .ref b)]) (hf : f_law_c33 K L xs v1 v2 v3 v4 v5 w = some w') : W p l e room_1 s m #[Value.ref b] below meth c H locs (439 + 7 * jz) (21347 + 42 * jz) (lw_Z below #[Value.ref b] s) (F0 m 2124 ls []) := by
  obtain ⟨hx, hb, hml, hown, hts, hKs, hT, hb0, hlocks, hret⟩ := id C
  have hc9 : (439 + 7 * jz) + 7 ≤ 601024 := by omega
  have hs9 : (21347 + 42 * jz) + 42 ≤ 7293034 := by omega
  unfold f_law_c33 at hf
  refine hl_aload_n hx hb dL_law_2124 rfl (lv_at hl 4 rfl) ?_
  refine lv_aload_n hx hb dL_law_2125 rfl (lv_at hl 5 rfl) ?_
  refine lv_iload hx hb dL_law_2126 (lv_at hl 0 rfl) ?_
  refine lv_iconst (v := 1) hx hb dL_law_2128 (by decide) ?_
  refine lv_iadd hx hb dL_law_2129 ?_
  obtain ⟨j1, hj1, hf⟩ := bnd hf
  refine hw_sld hx hb hX hbl hbA hH hj1 dL_law_2130 ?_
  refine hl_aload_n hx hb dL_law_2131 rfl (lv_at hl 2 rfl) ?_
  obtain ⟨q2, hq2, hf⟩ := bnd hf
  refine hcW hH (vx_runSW (As := [rv E v1, .int ((xs j1)), rv E v3]) (rest := []) ⟨hx, hb, hml, hown, hts⟩ (k_L_addHoliday l hls E K H.size v1 (xs j1) v3 w hq2) (vx_cwSW (hh := [(0, 9, 12, 13), (0, 9, 15, 58)]) _ hts (gW m6_102 m6_103 m1_0 m6_104) rfl rfl rfl hs_L_addHoliday ⟨Nat.le_of_ble_eq_true rfl, Nat.le_of_ble_eq_true rfl⟩) ⟨HB.blind, HB.pre hKs hT hb0 hH⟩ rfl rfl hl.1 rfl (lv_room rc0) dL_law_2132 ⟨(Nat.le_trans (Nat.add_le_add_left (Nat.le_of_ble_eq_true rfl : 2 ≤ 7) _) hc9), (Nat.le_trans (Nat.add_le_add_left (Nat.le_of_ble_eq_true rfl : 12 ≤ 42) _) hs9)⟩) (fun H locs hH => ?_)
  refine lv_istore (i := 6) (lv' := [(6, .int (q2.1)), (5, .int v5), (4, rv E v4), (3, rv E v3), (2, rv E v2), (1, rv E v1), (0, .ref b)]) hx hb dL_law_2135 hl (by decide) rfl (fun ls hl => ?_)
  refine hl_aload_n hx hb dL_law_2137 rfl (lv_at hl 4 rfl) ?_
  refine lv_aload_n hx hb dL_law_2138 rfl (lv_at hl 6 rfl) ?_
  refine lv_iload hx hb dL_law_2139 (lv_at hl 1 rfl) ?_
  refine lv_iconst (v := 1) hx hb dL_law_2141 (by decide) ?_
  refine lv_iadd hx hb dL_law_2142 ?_
  obtain ⟨j3, hj3, hf⟩ := bnd hf
  refine hw_sld hx hb hX hbl hbA hH hj3 dL_law_2143 ?_
  obtain ⟨a4, ha4, hf⟩ := bnd hf
  replace ha4 := chk_some ha4
  obtain ⟨q5, hq5, hf⟩ := bnd hf
  refine hcV_i hx hb hml hown hts hKs hT hb0 hH (As := [.int ((xs j3))]) (rest := []) (k_X13_addHoliday l E K H.size a4 (xs j3) q2.2 ha4.2 hq5) (gV m8_93 m8_94 m8_95 m1_16 m8_96) hd_X13_addHoliday ⟨Nat.le_of_ble_eq_true rfl, Nat.le_of_ble_eq_true rfl, rfl, rfl⟩ ha4.1 ha4.2 rfl rfl rfl hl.1 rfl rc0 rfl dL_law_2144 ⟨(Nat.le_trans (Nat.add_le_add_left (Nat.le_of_ble_eq_true rfl : 2 ≤ 7) _) hc9), (Nat.le_trans (Nat.add_le_add_left (Nat.le_of_ble_eq_true rfl : 12 ≤ 42) _) hs9)⟩ (fun H locs hH => ?_)
  refine lv_istore (i := 7) (lv' := [(7, .int (q5.1)), (6, .int (q2.1)), (5, .int v5), (4, rv E v4), (3, rv E v3), (2, rv E v2), (1, rv E v1), (0, .ref b)]) hx hb dL_law_2147 hl (by decide) rfl (fun ls hl => ?_)
  refine hl_aload_n hx hb dL_law_2149 rfl (lv_at hl 5 rfl) ?_
  obtain ⟨q6, hq6, hf⟩ := bnd hf
  refine hcV_i hx hb hml hown hts hKs hT hb0 hH (As := []) (rest := []) (k_X13_thrown l E K H.size a4 q5.2 ha4.2 hq6) (gV m7_60 m7_61 m7_62 m1_16 m7_63) hd_X13_thrown ⟨Nat.le_of_ble_eq_true rfl, Nat.le_of_ble_eq_true rfl, rfl, rfl⟩ ha4.1 ha4.2 rfl rfl rfl hl.1 rfl rc0 rfl dL_law_2150 ⟨(Nat.le_trans (Nat.add_le_add_left (Nat.le_of_ble_eq_true rfl : 2 ≤ 7) _) hc9), (Nat.le_trans (Nat.add_le_add_left (Nat.le_of_ble_eq_true rfl : 12 ≤ 42) _) hs9)⟩ (fun H locs hH => ?_)
  refine lv_iload hx hb dL_law_2153 (lv_at hl 1 rfl) ?_
  refine lv_icmp_eq (tgt := 2160) hx hb dL_law_2155 (by decide) (fun c7 => ?_) (fun c7 => ?_)
  · replace hf := (if_pos c7).symm.trans hf
    refine lv_iload hx hb dL_law_2160 (lv_at hl 1 rfl) ?_
    refine lv_if_ne (tgt := 2177) hx hb dL_law_2162 (by decide) (fun c8 => ?_) (fun c8 => ?_)
    · replace hf := (if_neg c8).symm.trans hf
      refine lv_goto (tgt := 2519) hx hb dL_law_2177 (by decide) ?_
      cases hf
      refine W.widen (k := 439 + 7 * (jz + 1)) (n := 21347 + 42 * (jz + 1)) (by omega) (by omega) ?_
      exact hk _ _ _ _ hH (lv_sub hl [2, 3, 4, 5, 6, 7] rfl)
    · replace hf := (if_pos c8).symm.trans hf
      refine hl_aload_n hx hb dL_law_2165 rfl (lv_at hl 4 rfl) ?_
      refine lv_iconst (v := 0) hx hb dL_law_2166 (by decide) ?_
      obtain ⟨a9, ha9, hf⟩ := bnd hf
      replace ha9 := cha_some ha9
      obtain ⟨j10, hj10, hf⟩ := bnd hf
      refine hw_lald hx hb hKs hH ha9.1 ha9.2 hj10 dL_law_2167 ?_
      refine lv_iload hx hb dL_law_2168 (lv_at hl 0 rfl) ?_
      refine lv_i2l (v := (q5.1.toInt64)) hx hb dL_law_2170 rfl ?_
      refine W.lcmp hx hb dL_law_2171 ?_
      refine lv_if_eq (tgt := 2177) hx hb dL_law_2172 (by decide) (fun c11 => ?_) (fun c11 => ?_)
      · replace hf := (if_pos c11).symm.trans hf
        refine lv_goto (tgt := 2519) hx hb dL_law_2177 (by decide) ?_
        cases hf
        refine W.widen (k := 439 + 7 * (jz + 1)) (n := 21347 + 42 * (jz + 1)) (by omega) (by omega) ?_
        exact hk _ _ _ _ hH (lv_sub hl [2, 3, 4, 5, 6, 7] rfl)
      · replace hf := (if_neg c11).symm.trans hf
        refine lv_iconst (v := 0) hx hb dL_law_2175 (by decide) ?_
        cases hf
  · replace hf := (if_neg c7).symm.trans hf
    refine lv_iconst (v := 0) hx hb dL_law_2158 (by decide) ?_
    cases hf
set_option maxHeartbeats 4000000 in
set_option maxRecDepth 100000 in
theorem law_c34 {p : Program} {l : Launch} {e : Env} {s : State} {m : MethodId} {below : List Frame} {meth : Method} {c : Code} {E : Ev} {K : Kd} {b L : Nat} {xs : Nat → Int32} (hls : l.stackTraces = false) (hX : va_X b L xs s s.heap) (hbl : b < s.heap.size) (hbA : ¬ hA E b) (C : CX p l e s m #[Value.ref b] meth c code 10 RL ret E) {v1 v2 v3 v4 : Option Nat} {v5 : Int32} {w w' : Wd} {H : Heap} {locs : List Loc} {ls : Array Slot} {z jz : Nat} (hj : jz < 514) (hk : ∀ (H : Heap) (locs : List Loc) (ls : Array Slot) (z : Nat), HQ E K z w' s H locs → lv_has ls 10 [(5, .int v5), (4, rv E v4), (3, rv E v3), (2, rv E v2), (1, rv E v1), (0, .ref b)] → W p l e room_1 s m #[Value.ref b] below meth c H locs (439 + 7 * (jz + 1)) (21347 + 42 * (jz + 1)) (lw_Z below #[Value.ref b] s) (F0 m 2519 ls [])) (hH : HQ E K z w s H locs) (hl : lv_has ls 10 [(5, .int v5), (4, rv E v4), (3, rv E v3), (2, rv E v2), (1, rv E v1), (0, .ref b)]) (hf : f_law_c34 K L xs v1 v2 v3 v4 v5 w = some w') : W p l e room_1 s m #[Value.ref b] below meth c H locs (439 + 7 * jz) (21347 + 42 * jz) (lw_Z below #[Value.ref b] s) (F0 m 2180 ls []) := by
  obtain ⟨hx, hb, hml, hown, hts, hKs, hT, hb0, hlocks, hret⟩ := id C
  have hc9 : (439 + 7 * jz) + 7 ≤ 601024 := by omega
  have hs9 : (21347 + 42 * jz) + 42 ≤ 7293034 := by omega
  unfold f_law_c34 at hf
  refine hl_aload_n hx hb dL_law_2180 rfl (lv_at hl 4 rfl) ?_
  refine lv_aload_n hx hb dL_law_2181 rfl (lv_at hl 5 rfl) ?_
  refine lv_iload hx hb dL_law_2182 (lv_at hl 0 rfl) ?_
  refine lv_iconst (v := 1) hx hb dL_law_2184 (by decide) ?_
  refine lv_iadd hx hb dL_law_2185 ?_
  obtain ⟨j1, hj1, hf⟩ := bnd hf
  refine hw_sld hx hb hX hbl hbA hH hj1 dL_law_2186 ?_
  refine lv_aload_n hx hb dL_law_2187 rfl (lv_at hl 5 rfl) ?_
  refine lv_iload hx hb dL_law_2188 (lv_at hl 0 rfl) ?_
  refine lv_iconst (v := 2) hx hb dL_law_2190 (by decide) ?_
  refine lv_iadd hx hb dL_law_2191 ?_
  obtain ⟨j2, hj2, hf⟩ := bnd hf
  refine hw_sld hx hb hX hbl hbA hH hj2 dL_law_2192 ?_
  refine hl_aload_n hx hb dL_law_2193 rfl (lv_at hl 2 rfl) ?_
  obtain ⟨q3, hq3, hf⟩ := bnd hf
  refine hcW hH (vx_runSW (As := [rv E v1, .int ((xs j1)), .int ((xs j2)), rv E v3]) (rest := []) ⟨hx, hb, hml, hown, hts⟩ (k_L_addBar l hls E K H.size v1 (xs j1) (xs j2) v3 w hq3) (vx_cwSW (hh := [(0, 17, 20, 29), (0, 17, 24, 58)]) _ hts (gW m6_110 m6_111 m1_0 m6_112) rfl rfl rfl hs_L_addBar ⟨Nat.le_of_ble_eq_true rfl, Nat.le_of_ble_eq_true rfl⟩) ⟨HB.blind, HB.pre hKs hT hb0 hH⟩ rfl rfl hl.1 rfl (lv_room rc0) dL_law_2194 ⟨(Nat.le_trans (Nat.add_le_add_left (Nat.le_of_ble_eq_true rfl : 3 ≤ 7) _) hc9), (Nat.le_trans (Nat.add_le_add_left (Nat.le_of_ble_eq_true rfl : 18 ≤ 42) _) hs9)⟩) (fun H locs hH => ?_)
  refine lv_istore (i := 6) (lv' := [(6, .int (q3.1)), (5, .int v5), (4, rv E v4), (3, rv E v3), (2, rv E v2), (1, rv E v1), (0, .ref b)]) hx hb dL_law_2197 hl (by decide) rfl (fun ls hl => ?_)
  refine hl_aload_n hx hb dL_law_2199 rfl (lv_at hl 4 rfl) ?_
  refine lv_aload_n hx hb dL_law_2200 rfl (lv_at hl 6 rfl) ?_
  refine lv_iload hx hb dL_law_2201 (lv_at hl 1 rfl) ?_
  refine lv_iconst (v := 1) hx hb dL_law_2203 (by decide) ?_
  refine lv_iadd hx hb dL_law_2204 ?_
  obtain ⟨j4, hj4, hf⟩ := bnd hf
  refine hw_sld hx hb hX hbl hbA hH hj4 dL_law_2205 ?_
  refine lv_aload_n hx hb dL_law_2206 rfl (lv_at hl 6 rfl) ?_
  refine lv_iload hx hb dL_law_2207 (lv_at hl 1 rfl) ?_
  refine lv_iconst (v := 2) hx hb dL_law_2209 (by decide) ?_
  refine lv_iadd hx hb dL_law_2210 ?_
  obtain ⟨j5, hj5, hf⟩ := bnd hf
  refine hw_sld hx hb hX hbl hbA hH hj5 dL_law_2211 ?_
  obtain ⟨a6, ha6, hf⟩ := bnd hf
  replace ha6 := chk_some ha6
  obtain ⟨q7, hq7, hf⟩ := bnd hf
  refine hcV_i hx hb hml hown hts hKs hT hb0 hH (As := [.int ((xs j4)), .int ((xs j5))]) (rest := []) (k_X13_addBar l E K H.size a6 (xs j4) (xs j5) q3.2 ha6.2 hq7) (gV m8_97 m8_98 m8_99 m1_16 m8_100) hd_X13_addBar ⟨Nat.le_of_ble_eq_true rfl, Nat.le_of_ble_eq_true rfl, rfl, rfl⟩ ha6.1 ha6.2 rfl rfl rfl hl.1 rfl rc0 rfl dL_law_2212 ⟨(Nat.le_trans (Nat.add_le_add_left (Nat.le_of_ble_eq_true rfl : 3 ≤ 7) _) hc9), (Nat.le_trans (Nat.add_le_add_left (Nat.le_of_ble_eq_true rfl : 18 ≤ 42) _) hs9)⟩ (fun H locs hH => ?_)
  refine lv_istore (i := 7) (lv' := [(7, .int (b2i q7.1)), (6, .int (q3.1)), (5, .int v5), (4, rv E v4), (3, rv E v3), (2, rv E v2), (1, rv E v1), (0, .ref b)]) hx hb dL_law_2215 hl (by decide) rfl (fun ls hl => ?_)
  refine hl_aload_n hx hb dL_law_2217 rfl (lv_at hl 5 rfl) ?_
  obtain ⟨q8, hq8, hf⟩ := bnd hf
  refine hcV_i hx hb hml hown hts hKs hT hb0 hH (As := []) (rest := []) (k_X13_thrown l E K H.size a6 q7.2 ha6.2 hq8) (gV m7_60 m7_61 m7_62 m1_16 m7_63) hd_X13_thrown ⟨Nat.le_of_ble_eq_true rfl, Nat.le_of_ble_eq_true rfl, rfl, rfl⟩ ha6.1 ha6.2 rfl rfl rfl hl.1 rfl rc0 rfl dL_law_2218 ⟨(Nat.le_trans (Nat.add_le_add_left (Nat.le_of_ble_eq_true rfl : 3 ≤ 7) _) hc9), (Nat.le_trans (Nat.add_le_add_left (Nat.le_of_ble_eq_true rfl : 18 ≤ 42) _) hs9)⟩ (fun H locs hH => ?_)
  refine lv_iload hx hb dL_law_2221 (lv_at hl 1 rfl) ?_
  refine lv_icmp_eq (tgt := 2228) hx hb dL_law_2223 (by decide) (fun c9 => ?_) (fun c9 => ?_)
  · replace hf := (if_pos c9).symm.trans hf
    refine lv_iload hx hb dL_law_2228 (lv_at hl 1 rfl) ?_
    refine lv_if_ne (tgt := 2252) hx hb dL_law_2230 (by decide) (fun c10 => ?_) (fun c10 => ?_)
    · replace hf := (if_neg c10).symm.trans hf
      refine lv_goto (tgt := 2519) hx hb dL_law_2252 (by decide) ?_
      cases hf
      refine W.widen (k := 439 + 7 * (jz + 1)) (n := 21347 + 42 * (jz + 1)) (by omega) (by omega) ?_
      exact hk _ _ _ _ hH (lv_sub hl [2, 3, 4, 5, 6, 7] rfl)
    · replace hf := (if_pos c10).symm.trans hf
      refine hl_aload_n hx hb dL_law_2233 rfl (lv_at hl 4 rfl) ?_
      refine lv_iconst (v := 0) hx hb dL_law_2234 (by decide) ?_
      obtain ⟨a11, ha11, hf⟩ := bnd hf
      replace ha11 := cha_some ha11
      obtain ⟨j12, hj12, hf⟩ := bnd hf
      refine hw_lald hx hb hKs hH ha11.1 ha11.2 hj12 dL_law_2235 ?_
      refine lv_iload hx hb dL_law_2236 (lv_at hl 0 rfl) ?_
      refine lv_if_eq (tgt := 2245) hx hb dL_law_2238 (by decide) (fun c13 => ?_) (fun c13 => ?_)
      · replace hf := (if_pos c13).symm.trans hf
        refine lv_lconst (v := 0) hx hb dL_law_2245 rfl ?_
        refine W.lcmp hx hb dL_law_2246 ?_
        refine lv_if_eq (tgt := 2252) hx hb dL_law_2247 (by decide) (fun c14 => ?_) (fun c14 => ?_)
        · replace hf := (if_pos c14).symm.trans hf
          refine lv_goto (tgt := 2519) hx hb dL_law_2252 (by decide) ?_
          cases hf
          refine W.widen (k := 439 + 7 * (jz + 1)) (n := 21347 + 42 * (jz + 1)) (by omega) (by omega) ?_
          exact hk _ _ _ _ hH (lv_sub hl [2, 3, 4, 5, 6, 7] rfl)
        · replace hf := (if_neg c14).symm.trans hf
          refine lv_iconst (v := 0) hx hb dL_law_2250 (by decide) ?_
          cases hf
      · replace hf := (if_neg c13).symm.trans hf
        refine lv_lconst (v := 1) hx hb dL_law_2241 rfl ?_
        refine lv_goto (tgt := 2246) hx hb dL_law_2242 (by decide) ?_
        refine W.lcmp hx hb dL_law_2246 ?_
        refine lv_if_eq (tgt := 2252) hx hb dL_law_2247 (by decide) (fun c15 => ?_) (fun c15 => ?_)
        · replace hf := (if_pos c15).symm.trans hf
          refine lv_goto (tgt := 2519) hx hb dL_law_2252 (by decide) ?_
          cases hf
          refine W.widen (k := 439 + 7 * (jz + 1)) (n := 21347 + 42 * (jz + 1)) (by omega) (by omega) ?_
          exact hk _ _ _ _ hH (lv_sub hl [2, 3, 4, 5, 6, 7] rfl)
        · replace hf := (if_neg c15).symm.trans hf
          refine lv_iconst (v := 0) hx hb dL_law_2250 (by decide) ?_
          cases hf
  · replace hf := (if_neg c9).symm.trans hf
    refine lv_iconst (v := 0) hx hb dL_law_2226 (by decide) ?_
    cases hf
set_option maxHeartbeats 4000000 in
set_option maxRecDepth 100000 in
theorem law_c35 {p : Program} {l : Launch} {e : Env} {s : State} {m : MethodId} {below : List Frame} {meth : Method} {c : Code} {E : Ev} {K : Kd} {b L : Nat} {xs : Nat → Int32} (hls : l.stackTraces = false) (hX : va_X b L xs s s.heap) (hbl : b < s.heap.size) (hbA : ¬ hA E b) (C : CX p l e s m #[Value.ref b] meth c code 10 RL ret E) {v1 v2 v3 v4 : Option Nat} {v5 : Int32} {w w' : Wd} {H : Heap} {locs : List Loc} {ls : Array Slot} {z jz : Nat} (hj : jz < 514) (hk : ∀ (H : Heap) (locs : List Loc) (ls : Array Slot) (z : Nat), HQ E K z w' s H locs → lv_has ls 10 [(5, .int v5), (4, rv E v4), (3, rv E v3), (2, rv E v2), (1, rv E v1), (0, .ref b)] → W p l e room_1 s m #[Value.ref b] below meth c H locs (439 + 7 * (jz + 1)) (21347 + 42 * (jz + 1)) (lw_Z below #[Value.ref b] s) (F0 m 2519 ls [])) (hH : HQ E K z w s H locs) (hl : lv_has ls 10 [(5, .int v5), (4, rv E v4), (3, rv E v3), (2, rv E v2), (1, rv E v1), (0, .ref b)]) (hf : f_law_c35 K L xs v1 v2 v3 v4 v5 w = some w') : W p l e room_1 s m #[Value.ref b] below meth c H locs (439 + 7 * jz) (21347 + 42 * jz) (lw_Z below #[Value.ref b] s) (F0 m 2255 ls []) := by
  obtain ⟨hx, hb, hml, hown, hts, hKs, hT, hb0, hlocks, hret⟩ := id C
  have hc9 : (439 + 7 * jz) + 7 ≤ 601024 := by omega
  have hs9 : (21347 + 42 * jz) + 42 ≤ 7293034 := by omega
  unfold f_law_c35 at hf
  refine hl_aload_n hx hb dL_law_2255 rfl (lv_at hl 4 rfl) ?_
  refine hl_aload_n hx hb dL_law_2256 rfl (lv_at hl 2 rfl) ?_
  obtain ⟨q1, hq1, hf⟩ := bnd hf
  refine hcW hH (vx_runSW (As := [rv E v1, rv E v3]) (rest := []) ⟨hx, hb, hml, hown, hts⟩ (k_L_undo l hls E K H.size v1 v3 w hq1) (vx_cwSW (hh := [(0, 8, 11, 58)]) _ hts (gW m6_117 m6_118 m1_0 m6_119) rfl rfl rfl hs_L_undo ⟨Nat.le_of_ble_eq_true rfl, Nat.le_of_ble_eq_true rfl⟩) ⟨HB.blind, HB.pre hKs hT hb0 hH⟩ rfl rfl hl.1 rfl (lv_room rc0) dL_law_2257 ⟨(Nat.le_trans (Nat.add_le_add_left (Nat.le_of_ble_eq_true rfl : 1 ≤ 7) _) hc9), (Nat.le_trans (Nat.add_le_add_left (Nat.le_of_ble_eq_true rfl : 6 ≤ 42) _) hs9)⟩) (fun H locs hH => ?_)
  refine lv_istore (i := 6) (lv' := [(6, .int (q1.1)), (5, .int v5), (4, rv E v4), (3, rv E v3), (2, rv E v2), (1, rv E v1), (0, .ref b)]) hx hb dL_law_2260 hl (by decide) rfl (fun ls hl => ?_)
  refine hl_aload_n hx hb dL_law_2262 rfl (lv_at hl 4 rfl) ?_
  obtain ⟨a2, ha2, hf⟩ := bnd hf
  replace ha2 := chk_some ha2
  obtain ⟨q3, hq3, hf⟩ := bnd hf
  refine hcV_i hx hb hml hown hts hKs hT hb0 hH (As := []) (rest := []) (k_X13_undo l E K H.size a2 q1.2 ha2.2 hq3) (gV m7_64 m7_65 m7_66 m1_16 m7_67) hd_X13_undo ⟨Nat.le_of_ble_eq_true rfl, Nat.le_of_ble_eq_true rfl, rfl, rfl⟩ ha2.1 ha2.2 rfl rfl rfl hl.1 rfl rc0 rfl dL_law_2263 ⟨(Nat.le_trans (Nat.add_le_add_left (Nat.le_of_ble_eq_true rfl : 1 ≤ 7) _) hc9), (Nat.le_trans (Nat.add_le_add_left (Nat.le_of_ble_eq_true rfl : 6 ≤ 42) _) hs9)⟩ (fun H locs hH => ?_)
  refine lv_istore (i := 7) (lv' := [(7, .int (q3.1)), (6, .int (q1.1)), (5, .int v5), (4, rv E v4), (3, rv E v3), (2, rv E v2), (1, rv E v1), (0, .ref b)]) hx hb dL_law_2266 hl (by decide) rfl (fun ls hl => ?_)
  refine hl_aload_n hx hb dL_law_2268 rfl (lv_at hl 5 rfl) ?_
  obtain ⟨q4, hq4, hf⟩ := bnd hf
  refine hcV_i hx hb hml hown hts hKs hT hb0 hH (As := []) (rest := []) (k_X13_thrown l E K H.size a2 q3.2 ha2.2 hq4) (gV m7_60 m7_61 m7_62 m1_16 m7_63) hd_X13_thrown ⟨Nat.le_of_ble_eq_true rfl, Nat.le_of_ble_eq_true rfl, rfl, rfl⟩ ha2.1 ha2.2 rfl rfl rfl hl.1 rfl rc0 rfl dL_law_2269 ⟨(Nat.le_trans (Nat.add_le_add_left (Nat.le_of_ble_eq_true rfl : 1 ≤ 7) _) hc9), (Nat.le_trans (Nat.add_le_add_left (Nat.le_of_ble_eq_true rfl : 6 ≤ 42) _) hs9)⟩ (fun H locs hH => ?_)
  refine lv_iload hx hb dL_law_2272 (lv_at hl 1 rfl) ?_
  refine lv_icmp_eq (tgt := 2279) hx hb dL_law_2274 (by decide) (fun c5 => ?_) (fun c5 => ?_)
  · replace hf := (if_pos c5).symm.trans hf
    refine lv_iload hx hb dL_law_2279 (lv_at hl 1 rfl) ?_
    refine lv_if_ne (tgt := 2296) hx hb dL_law_2281 (by decide) (fun c6 => ?_) (fun c6 => ?_)
    · replace hf := (if_neg c6).symm.trans hf
      refine lv_goto (tgt := 2519) hx hb dL_law_2296 (by decide) ?_
      cases hf
      refine W.widen (k := 439 + 7 * (jz + 1)) (n := 21347 + 42 * (jz + 1)) (by omega) (by omega) ?_
      exact hk _ _ _ _ hH (lv_sub hl [2, 3, 4, 5, 6, 7] rfl)
    · replace hf := (if_pos c6).symm.trans hf
      refine hl_aload_n hx hb dL_law_2284 rfl (lv_at hl 4 rfl) ?_
      refine lv_iconst (v := 0) hx hb dL_law_2285 (by decide) ?_
      obtain ⟨a7, ha7, hf⟩ := bnd hf
      replace ha7 := cha_some ha7
      obtain ⟨j8, hj8, hf⟩ := bnd hf
      refine hw_lald hx hb hKs hH ha7.1 ha7.2 hj8 dL_law_2286 ?_
      refine lv_iload hx hb dL_law_2287 (lv_at hl 0 rfl) ?_
      refine lv_i2l (v := (q3.1.toInt64)) hx hb dL_law_2289 rfl ?_
      refine W.lcmp hx hb dL_law_2290 ?_
      refine lv_if_eq (tgt := 2296) hx hb dL_law_2291 (by decide) (fun c9 => ?_) (fun c9 => ?_)
      · replace hf := (if_pos c9).symm.trans hf
        refine lv_goto (tgt := 2519) hx hb dL_law_2296 (by decide) ?_
        cases hf
        refine W.widen (k := 439 + 7 * (jz + 1)) (n := 21347 + 42 * (jz + 1)) (by omega) (by omega) ?_
        exact hk _ _ _ _ hH (lv_sub hl [2, 3, 4, 5, 6, 7] rfl)
      · replace hf := (if_neg c9).symm.trans hf
        refine lv_iconst (v := 0) hx hb dL_law_2294 (by decide) ?_
        cases hf
  · replace hf := (if_neg c5).symm.trans hf
    refine lv_iconst (v := 0) hx hb dL_law_2277 (by decide) ?_
    cases hf
set_option maxHeartbeats 4000000 in
set_option maxRecDepth 100000 in
theorem law_c36 {p : Program} {l : Launch} {e : Env} {s : State} {m : MethodId} {below : List Frame} {meth : Method} {c : Code} {E : Ev} {K : Kd} {b L : Nat} {xs : Nat → Int32} (hls : l.stackTraces = false) (hX : va_X b L xs s s.heap) (hbl : b < s.heap.size) (hbA : ¬ hA E b) (C : CX p l e s m #[Value.ref b] meth c code 10 RL ret E) {v1 v2 v3 v4 : Option Nat} {v5 : Int32} {w w' : Wd} {H : Heap} {locs : List Loc} {ls : Array Slot} {z jz : Nat} (hj : jz < 514) (hk : ∀ (H : Heap) (locs : List Loc) (ls : Array Slot) (z : Nat), HQ E K z w' s H locs → lv_has ls 10 [(5, .int v5), (4, rv E v4), (3, rv E v3), (2, rv E v2), (1, rv E v1), (0, .ref b)] → W p l e room_1 s m #[Value.ref b] below meth c H locs (439 + 7 * (jz + 1)) (21347 + 42 * (jz + 1)) (lw_Z below #[Value.ref b] s) (F0 m 2519 ls [])) (hH : HQ E K z w s H locs) (hl : lv_has ls 10 [(5, .int v5), (4, rv E v4), (3, rv E v3), (2, rv E v2), (1, rv E v1), (0, .ref b)]) (hf : f_law_c36 K L xs v1 v2 v3 v4 v5 w = some w') : W p l e room_1 s m #[Value.ref b] below meth c H locs (439 + 7 * jz) (21347 + 42 * jz) (lw_Z below #[Value.ref b] s) (F0 m 2299 ls []) := by
  obtain ⟨hx, hb, hml, hown, hts, hKs, hT, hb0, hlocks, hret⟩ := id C
  have hc9 : (439 + 7 * jz) + 7 ≤ 601024 := by omega
  have hs9 : (21347 + 42 * jz) + 42 ≤ 7293034 := by omega
  unfold f_law_c36 at hf
  refine hl_aload_n hx hb dL_law_2299 rfl (lv_at hl 4 rfl) ?_
  refine lv_aload_n hx hb dL_law_2300 rfl (lv_at hl 5 rfl) ?_
  refine lv_iload hx hb dL_law_2301 (lv_at hl 0 rfl) ?_
  refine lv_iconst (v := 1) hx hb dL_law_2303 (by decide) ?_
  refine lv_iadd hx hb dL_law_2304 ?_
  obtain ⟨j1, hj1, hf⟩ := bnd hf
  refine hw_sld hx hb hX hbl hbA hH hj1 dL_law_2305 ?_
  refine hl_aload_n hx hb dL_law_2306 rfl (lv_at hl 2 rfl) ?_
  obtain ⟨q2, hq2, hf⟩ := bnd hf
  refine hcW hH (vx_runSW (As := [rv E v1, .int ((xs j1)), rv E v3]) (rest := []) ⟨hx, hb, hml, hown, hts⟩ (k_L_lapsesIn l hls E K H.size v1 (xs j1) v3 w hq2) (vx_cwSW (hh := [(0, 9, 12, 13)]) _ hts (gW m6_124 m6_125 m1_0 m6_126) rfl rfl rfl hs_L_lapsesIn ⟨Nat.le_of_ble_eq_true rfl, Nat.le_of_ble_eq_true rfl⟩) ⟨HB.blind, HB.pre hKs hT hb0 hH⟩ rfl rfl hl.1 rfl (lv_room rc0) dL_law_2307 ⟨(Nat.le_trans (Nat.add_le_add_left (Nat.le_of_ble_eq_true rfl : 1 ≤ 7) _) hc9), (Nat.le_trans (Nat.add_le_add_left (Nat.le_of_ble_eq_true rfl : 6 ≤ 42) _) hs9)⟩) (fun H locs hH => ?_)
  refine lv_istore (i := 6) (lv' := [(6, .int (q2.1)), (5, .int v5), (4, rv E v4), (3, rv E v3), (2, rv E v2), (1, rv E v1), (0, .ref b)]) hx hb dL_law_2310 hl (by decide) rfl (fun ls hl => ?_)
  refine hl_aload_n hx hb dL_law_2312 rfl (lv_at hl 4 rfl) ?_
  refine lv_aload_n hx hb dL_law_2313 rfl (lv_at hl 6 rfl) ?_
  refine lv_iload hx hb dL_law_2314 (lv_at hl 1 rfl) ?_
  refine lv_iconst (v := 1) hx hb dL_law_2316 (by decide) ?_
  refine lv_iadd hx hb dL_law_2317 ?_
  obtain ⟨j3, hj3, hf⟩ := bnd hf
  refine hw_sld hx hb hX hbl hbA hH hj3 dL_law_2318 ?_
  obtain ⟨a4, ha4, hf⟩ := bnd hf
  replace ha4 := chk_some ha4
  obtain ⟨q5, hq5, hf⟩ := bnd hf
  refine hcV_i hx hb hml hown hts hKs hT hb0 hH (As := [.int ((xs j3))]) (rest := []) (k_X13_lapsesIn l E K H.size a4 (xs j3) q2.2 ha4.2 hq5) (gV m8_118 m8_119 m8_120 m1_16 m8_121) hd_X13_lapsesIn ⟨Nat.le_of_ble_eq_true rfl, Nat.le_of_ble_eq_true rfl, rfl, rfl⟩ ha4.1 ha4.2 rfl rfl rfl hl.1 rfl rc0 rfl dL_law_2319 ⟨(Nat.le_trans (Nat.add_le_add_left (Nat.le_of_ble_eq_true rfl : 1 ≤ 7) _) hc9), (Nat.le_trans (Nat.add_le_add_left (Nat.le_of_ble_eq_true rfl : 6 ≤ 42) _) hs9)⟩ (fun H locs hH => ?_)
  refine lv_istore (i := 7) (lv' := [(7, .int (q5.1)), (6, .int (q2.1)), (5, .int v5), (4, rv E v4), (3, rv E v3), (2, rv E v2), (1, rv E v1), (0, .ref b)]) hx hb dL_law_2322 hl (by decide) rfl (fun ls hl => ?_)
  refine hl_aload_n hx hb dL_law_2324 rfl (lv_at hl 5 rfl) ?_
  obtain ⟨q6, hq6, hf⟩ := bnd hf
  refine hcV_i hx hb hml hown hts hKs hT hb0 hH (As := []) (rest := []) (k_X13_thrown l E K H.size a4 q5.2 ha4.2 hq6) (gV m7_60 m7_61 m7_62 m1_16 m7_63) hd_X13_thrown ⟨Nat.le_of_ble_eq_true rfl, Nat.le_of_ble_eq_true rfl, rfl, rfl⟩ ha4.1 ha4.2 rfl rfl rfl hl.1 rfl rc0 rfl dL_law_2325 ⟨(Nat.le_trans (Nat.add_le_add_left (Nat.le_of_ble_eq_true rfl : 1 ≤ 7) _) hc9), (Nat.le_trans (Nat.add_le_add_left (Nat.le_of_ble_eq_true rfl : 6 ≤ 42) _) hs9)⟩ (fun H locs hH => ?_)
  refine lv_iload hx hb dL_law_2328 (lv_at hl 1 rfl) ?_
  refine lv_icmp_eq (tgt := 2335) hx hb dL_law_2330 (by decide) (fun c7 => ?_) (fun c7 => ?_)
  · replace hf := (if_pos c7).symm.trans hf
    refine lv_iload hx hb dL_law_2335 (lv_at hl 1 rfl) ?_
    refine lv_if_ne (tgt := 2352) hx hb dL_law_2337 (by decide) (fun c8 => ?_) (fun c8 => ?_)
    · replace hf := (if_neg c8).symm.trans hf
      refine lv_goto (tgt := 2519) hx hb dL_law_2352 (by decide) ?_
      cases hf
      refine W.widen (k := 439 + 7 * (jz + 1)) (n := 21347 + 42 * (jz + 1)) (by omega) (by omega) ?_
      exact hk _ _ _ _ hH (lv_sub hl [2, 3, 4, 5, 6, 7] rfl)
    · replace hf := (if_pos c8).symm.trans hf
      refine hl_aload_n hx hb dL_law_2340 rfl (lv_at hl 4 rfl) ?_
      refine lv_iconst (v := 0) hx hb dL_law_2341 (by decide) ?_
      obtain ⟨a9, ha9, hf⟩ := bnd hf
      replace ha9 := cha_some ha9
      obtain ⟨j10, hj10, hf⟩ := bnd hf
      refine hw_lald hx hb hKs hH ha9.1 ha9.2 hj10 dL_law_2342 ?_
      refine lv_iload hx hb dL_law_2343 (lv_at hl 0 rfl) ?_
      refine lv_i2l (v := (q5.1.toInt64)) hx hb dL_law_2345 rfl ?_
      refine W.lcmp hx hb dL_law_2346 ?_
      refine lv_if_eq (tgt := 2352) hx hb dL_law_2347 (by decide) (fun c11 => ?_) (fun c11 => ?_)
      · replace hf := (if_pos c11).symm.trans hf
        refine lv_goto (tgt := 2519) hx hb dL_law_2352 (by decide) ?_
        cases hf
        refine W.widen (k := 439 + 7 * (jz + 1)) (n := 21347 + 42 * (jz + 1)) (by omega) (by omega) ?_
        exact hk _ _ _ _ hH (lv_sub hl [2, 3, 4, 5, 6, 7] rfl)
      · replace hf := (if_neg c11).symm.trans hf
        refine lv_iconst (v := 0) hx hb dL_law_2350 (by decide) ?_
        cases hf
  · replace hf := (if_neg c7).symm.trans hf
    refine lv_iconst (v := 0) hx hb dL_law_2333 (by decide) ?_
    cases hf
set_option maxHeartbeats 4000000 in
set_option maxRecDepth 100000 in
theorem law_c37 {p : Program} {l : Launch} {e : Env} {s : State} {m : MethodId} {below : List Frame} {meth : Method} {c : Code} {E : Ev} {K : Kd} {b L : Nat} {xs : Nat → Int32} (hls : l.stackTraces = false) (hX : va_X b L xs s s.heap) (hbl : b < s.heap.size) (hbA : ¬ hA E b) (C : CX p l e s m #[Value.ref b] meth c code 10 RL ret E) {v1 v2 v3 v4 : Option Nat} {v5 : Int32} {w w' : Wd} {H : Heap} {locs : List Loc} {ls : Array Slot} {z jz : Nat} (hj : jz < 514) (hk : ∀ (H : Heap) (locs : List Loc) (ls : Array Slot) (z : Nat), HQ E K z w' s H locs → lv_has ls 10 [(5, .int v5), (4, rv E v4), (3, rv E v3), (2, rv E v2), (1, rv E v1), (0, .ref b)] → W p l e room_1 s m #[Value.ref b] below meth c H locs (439 + 7 * (jz + 1)) (21347 + 42 * (jz + 1)) (lw_Z below #[Value.ref b] s) (F0 m 2519 ls [])) (hH : HQ E K z w s H locs) (hl : lv_has ls 10 [(5, .int v5), (4, rv E v4), (3, rv E v3), (2, rv E v2), (1, rv E v1), (0, .ref b)]) (hf : f_law_c37 K L xs v1 v2 v3 v4 v5 w = some w') : W p l e room_1 s m #[Value.ref b] below meth c H locs (439 + 7 * jz) (21347 + 42 * jz) (lw_Z below #[Value.ref b] s) (F0 m 2355 ls []) := by
  obtain ⟨hx, hb, hml, hown, hts, hKs, hT, hb0, hlocks, hret⟩ := id C
  have hc9 : (439 + 7 * jz) + 7 ≤ 601024 := by omega
  have hs9 : (21347 + 42 * jz) + 42 ≤ 7293034 := by omega
  unfold f_law_c37 at hf
  refine hl_aload_n hx hb dL_law_2355 rfl (lv_at hl 4 rfl) ?_
  obtain ⟨a1, ha1, hf⟩ := bnd hf
  replace ha1 := chk_some ha1
  obtain ⟨q2, hq2, hf⟩ := bnd hf
  refine hcV_i hx hb hml hown hts hKs hT hb0 hH (As := []) (rest := []) (k_X12_plannable l E K H.size a1 w ha1.2 hq2) (gV m4_189 m4_190 m4_191 m1_1 m4_192) hd_X12_plannable ⟨Nat.le_of_ble_eq_true rfl, Nat.le_of_ble_eq_true rfl, rfl, rfl⟩ ha1.1 ha1.2 rfl rfl rfl hl.1 rfl rc0 rfl dL_law_2356 ⟨(Nat.le_trans (Nat.add_le_add_left (Nat.le_of_ble_eq_true rfl : 0 ≤ 7) _) hc9), (Nat.le_trans (Nat.add_le_add_left (Nat.le_of_ble_eq_true rfl : 0 ≤ 42) _) hs9)⟩ (fun H locs hH => ?_)
  refine hl_aload_n hx hb dL_law_2359 rfl (lv_at hl 3 rfl) ?_
  obtain ⟨a3, ha3, hf⟩ := bnd hf
  replace ha3 := chk_some ha3
  obtain ⟨q4, hq4, hf⟩ := bnd hf
  refine hcV_i hx hb hml hown hts hKs hT hb0 hH (As := []) (rest := [.int (q2.1)]) (k_X13_plannable l E K H.size a3 q2.2 ha3.2 hq4) (gV m8_130 m8_131 m8_132 m1_16 m8_133) hd_X13_plannable ⟨Nat.le_of_ble_eq_true rfl, Nat.le_of_ble_eq_true rfl, rfl, rfl⟩ ha3.1 ha3.2 rfl rfl rfl hl.1 rfl (rcI rc0) rfl dL_law_2360 ⟨(Nat.le_trans (Nat.add_le_add_left (Nat.le_of_ble_eq_true rfl : 0 ≤ 7) _) hc9), (Nat.le_trans (Nat.add_le_add_left (Nat.le_of_ble_eq_true rfl : 0 ≤ 42) _) hs9)⟩ (fun H locs hH => ?_)
  refine lv_icmp_eq (tgt := 2519) hx hb dL_law_2363 (by decide) (fun c5 => ?_) (fun c5 => ?_)
  · replace hf := (if_pos c5).symm.trans hf
    cases hf
    refine W.widen (k := 439 + 7 * (jz + 1)) (n := 21347 + 42 * (jz + 1)) (by omega) (by omega) ?_
    exact hk _ _ _ _ hH (lv_sub hl [0, 1, 2, 3, 4, 5] rfl)
  · replace hf := (if_neg c5).symm.trans hf
    refine lv_iconst (v := 0) hx hb dL_law_2366 (by decide) ?_
    cases hf
set_option maxHeartbeats 4000000 in
set_option maxRecDepth 100000 in
theorem law_c38 {p : Program} {l : Launch} {e : Env} {s : State} {m : MethodId} {below : List Frame} {meth : Method} {c : Code} {E : Ev} {K : Kd} {b L : Nat} {xs : Nat → Int32} (hls : l.stackTraces = false) (hX : va_X b L xs s s.heap) (hbl : b < s.heap.size) (hbA : ¬ hA E b) (C : CX p l e s m #[Value.ref b] meth c code 10 RL ret E) {v1 v2 v3 v4 : Option Nat} {v5 : Int32} {w w' : Wd} {H : Heap} {locs : List Loc} {ls : Array Slot} {z jz : Nat} (hj : jz < 514) (hk : ∀ (H : Heap) (locs : List Loc) (ls : Array Slot) (z : Nat), HQ E K z w' s H locs → lv_has ls 10 [(5, .int v5), (4, rv E v4), (3, rv E v3), (2, rv E v2), (1, rv E v1), (0, .ref b)] → W p l e room_1 s m #[Value.ref b] below meth c H locs (439 + 7 * (jz + 1)) (21347 + 42 * (jz + 1)) (lw_Z below #[Value.ref b] s) (F0 m 2519 ls [])) (hH : HQ E K z w s H locs) (hl : lv_has ls 10 [(5, .int v5), (4, rv E v4), (3, rv E v3), (2, rv E v2), (1, rv E v1), (0, .ref b)]) (hf : f_law_c38 K L xs v1 v2 v3 v4 v5 w = some w') : W p l e room_1 s m #[Value.ref b] below meth c H locs (439 + 7 * jz) (21347 + 42 * jz) (lw_Z below #[Value.ref b] s) (F0 m 2368 ls []) := by
  obtain ⟨hx, hb, hml, hown, hts, hKs, hT, hb0, hlocks, hret⟩ := id C
  have hc9 : (439 + 7 * jz) + 7 ≤ 601024 := by omega
  have hs9 : (21347 + 42 * jz) + 42 ≤ 7293034 := by omega
  unfold f_law_c38 at hf
  refine hl_aload_n hx hb dL_law_2368 rfl (lv_at hl 4 rfl) ?_
  obtain ⟨a1, ha1, hf⟩ := bnd hf
  replace ha1 := chk_some ha1
  obtain ⟨q2, hq2, hf⟩ := bnd hf
  refine hcV_i hx hb hml hown hts hKs hT hb0 hH (As := []) (rest := []) (k_X12_keyOfficer l E K H.size a1 w ha1.2 hq2) (gV m4_197 m4_198 m4_199 m1_1 m4_200) hd_X12_keyOfficer ⟨Nat.le_of_ble_eq_true rfl, Nat.le_of_ble_eq_true rfl, rfl, rfl⟩ ha1.1 ha1.2 rfl rfl rfl hl.1 rfl rc0 rfl dL_law_2369 ⟨(Nat.le_trans (Nat.add_le_add_left (Nat.le_of_ble_eq_true rfl : 0 ≤ 7) _) hc9), (Nat.le_trans (Nat.add_le_add_left (Nat.le_of_ble_eq_true rfl : 0 ≤ 42) _) hs9)⟩ (fun H locs hH => ?_)
  refine hl_aload_n hx hb dL_law_2372 rfl (lv_at hl 3 rfl) ?_
  obtain ⟨a3, ha3, hf⟩ := bnd hf
  replace ha3 := chk_some ha3
  obtain ⟨q4, hq4, hf⟩ := bnd hf
  refine hcV_i hx hb hml hown hts hKs hT hb0 hH (As := []) (rest := [.int (q2.1)]) (k_X13_keyOfficer l E K H.size a3 q2.2 ha3.2 hq4) (gV m8_138 m8_139 m8_140 m1_16 m8_141) hd_X13_keyOfficer ⟨Nat.le_of_ble_eq_true rfl, Nat.le_of_ble_eq_true rfl, rfl, rfl⟩ ha3.1 ha3.2 rfl rfl rfl hl.1 rfl (rcI rc0) rfl dL_law_2373 ⟨(Nat.le_trans (Nat.add_le_add_left (Nat.le_of_ble_eq_true rfl : 0 ≤ 7) _) hc9), (Nat.le_trans (Nat.add_le_add_left (Nat.le_of_ble_eq_true rfl : 0 ≤ 42) _) hs9)⟩ (fun H locs hH => ?_)
  refine lv_icmp_eq (tgt := 2519) hx hb dL_law_2376 (by decide) (fun c5 => ?_) (fun c5 => ?_)
  · replace hf := (if_pos c5).symm.trans hf
    cases hf
    refine W.widen (k := 439 + 7 * (jz + 1)) (n := 21347 + 42 * (jz + 1)) (by omega) (by omega) ?_
    exact hk _ _ _ _ hH (lv_sub hl [0, 1, 2, 3, 4, 5] rfl)
  · replace hf := (if_neg c5).symm.trans hf
    refine lv_iconst (v := 0) hx hb dL_law_2379 (by decide) ?_
    cases hf
set_option maxHeartbeats 4000000 in
set_option maxRecDepth 100000 in
theorem law_c39 {p : Program} {l : Launch} {e : Env} {s : State} {m : MethodId} {below : List Frame} {meth : Method} {c : Code} {E : Ev} {K : Kd} {b L : Nat} {xs : Nat → Int32} (hls : l.stackTraces = false) (hX : va_X b L xs s s.heap) (hbl : b < s.heap.size) (hbA : ¬ hA E b) (C : CX p l e s m #[Value.ref b] meth c code 10 RL ret E) {v1 v2 v3 v4 : Option Nat} {v5 : Int32} {w w' : Wd} {H : Heap} {locs : List Loc} {ls : Array Slot} {z jz : Nat} (hj : jz < 514) (hk : ∀ (H : Heap) (locs : List Loc) (ls : Array Slot) (z : Nat), HQ E K z w' s H locs → lv_has ls 10 [(5, .int v5), (4, rv E v4), (3, rv E v3), (2, rv E v2), (1, rv E v1), (0, .ref b)] → W p l e room_1 s m #[Value.ref b] below meth c H locs (439 + 7 * (jz + 1)) (21347 + 42 * (jz + 1)) (lw_Z below #[Value.ref b] s) (F0 m 2519 ls [])) (hH : HQ E K z w s H locs) (hl : lv_has ls 10 [(5, .int v5), (4, rv E v4), (3, rv E v3), (2, rv E v2), (1, rv E v1), (0, .ref b)]) (hf : f_law_c39 K L xs v1 v2 v3 v4 v5 w = some w') : W p l e room_1 s m #[Value.ref b] below meth c H locs (439 + 7 * jz) (21347 + 42 * jz) (lw_Z below #[Value.ref b] s) (F0 m 2381 ls []) := by
  obtain ⟨hx, hb, hml, hown, hts, hKs, hT, hb0, hlocks, hret⟩ := id C
  have hc9 : (439 + 7 * jz) + 7 ≤ 601024 := by omega
  have hs9 : (21347 + 42 * jz) + 42 ≤ 7293034 := by omega
  unfold f_law_c39 at hf
  refine hl_aload_n hx hb dL_law_2381 rfl (lv_at hl 4 rfl) ?_
  refine lv_aload_n hx hb dL_law_2382 rfl (lv_at hl 5 rfl) ?_
  refine lv_iload hx hb dL_law_2383 (lv_at hl 0 rfl) ?_
  refine lv_iconst (v := 1) hx hb dL_law_2385 (by decide) ?_
  refine lv_iadd hx hb dL_law_2386 ?_
  obtain ⟨j1, hj1, hf⟩ := bnd hf
  refine hw_sld hx hb hX hbl hbA hH hj1 dL_law_2387 ?_
  refine hl_aload_n hx hb dL_law_2388 rfl (lv_at hl 2 rfl) ?_
  obtain ⟨q2, hq2, hf⟩ := bnd hf
  refine hcW hH (vx_runSW (As := [rv E v1, .int ((xs j1)), rv E v3]) (rest := []) ⟨hx, hb, hml, hown, hts⟩ (k_L_printDay l hls E K H.size v1 (xs j1) v3 w hq2) (vx_cwSW (hh := [(0, 9, 12, 13)]) _ hts (gW m6_131 m6_132 m1_0 m6_133) rfl rfl rfl hs_L_printDay ⟨Nat.le_of_ble_eq_true rfl, Nat.le_of_ble_eq_true rfl⟩) ⟨HB.blind, HB.pre hKs hT hb0 hH⟩ rfl rfl hl.1 rfl (lv_room rc0) dL_law_2389 ⟨(Nat.le_trans (Nat.add_le_add_left (Nat.le_of_ble_eq_true rfl : 1 ≤ 7) _) hc9), (Nat.le_trans (Nat.add_le_add_left (Nat.le_of_ble_eq_true rfl : 6 ≤ 42) _) hs9)⟩) (fun H locs hH => ?_)
  refine lv_istore (i := 6) (lv' := [(6, .int (q2.1)), (5, .int v5), (4, rv E v4), (3, rv E v3), (2, rv E v2), (1, rv E v1), (0, .ref b)]) hx hb dL_law_2392 hl (by decide) rfl (fun ls hl => ?_)
  refine hl_aload_n hx hb dL_law_2394 rfl (lv_at hl 4 rfl) ?_
  refine lv_aload_n hx hb dL_law_2395 rfl (lv_at hl 6 rfl) ?_
  refine lv_iload hx hb dL_law_2396 (lv_at hl 1 rfl) ?_
  refine lv_iconst (v := 1) hx hb dL_law_2398 (by decide) ?_
  refine lv_iadd hx hb dL_law_2399 ?_
  obtain ⟨j3, hj3, hf⟩ := bnd hf
  refine hw_sld hx hb hX hbl hbA hH hj3 dL_law_2400 ?_
  obtain ⟨a4, ha4, hf⟩ := bnd hf
  replace ha4 := chk_some ha4
  obtain ⟨q5, hq5, hf⟩ := bnd hf
  refine hcV_i hx hb hml hown hts hKs hT hb0 hH (As := [.int ((xs j3))]) (rest := []) (k_X13_printDay l E K H.size a4 (xs j3) q2.2 ha4.2 hq5) (gV m9_167 m9_168 m9_169 m1_16 m9_170) hd_X13_printDay ⟨Nat.le_of_ble_eq_true rfl, Nat.le_of_ble_eq_true rfl, rfl, rfl⟩ ha4.1 ha4.2 rfl rfl rfl hl.1 rfl rc0 rfl dL_law_2401 ⟨(Nat.le_trans (Nat.add_le_add_left (Nat.le_of_ble_eq_true rfl : 1 ≤ 7) _) hc9), (Nat.le_trans (Nat.add_le_add_left (Nat.le_of_ble_eq_true rfl : 6 ≤ 42) _) hs9)⟩ (fun H locs hH => ?_)
  refine lv_istore (i := 7) (lv' := [(7, .int (q5.1)), (6, .int (q2.1)), (5, .int v5), (4, rv E v4), (3, rv E v3), (2, rv E v2), (1, rv E v1), (0, .ref b)]) hx hb dL_law_2404 hl (by decide) rfl (fun ls hl => ?_)
  refine hl_aload_n hx hb dL_law_2406 rfl (lv_at hl 5 rfl) ?_
  obtain ⟨q6, hq6, hf⟩ := bnd hf
  refine hcV_i hx hb hml hown hts hKs hT hb0 hH (As := []) (rest := []) (k_X13_thrown l E K H.size a4 q5.2 ha4.2 hq6) (gV m7_60 m7_61 m7_62 m1_16 m7_63) hd_X13_thrown ⟨Nat.le_of_ble_eq_true rfl, Nat.le_of_ble_eq_true rfl, rfl, rfl⟩ ha4.1 ha4.2 rfl rfl rfl hl.1 rfl rc0 rfl dL_law_2407 ⟨(Nat.le_trans (Nat.add_le_add_left (Nat.le_of_ble_eq_true rfl : 1 ≤ 7) _) hc9), (Nat.le_trans (Nat.add_le_add_left (Nat.le_of_ble_eq_true rfl : 6 ≤ 42) _) hs9)⟩ (fun H locs hH => ?_)
  refine lv_iload hx hb dL_law_2410 (lv_at hl 1 rfl) ?_
  refine lv_icmp_eq (tgt := 2417) hx hb dL_law_2412 (by decide) (fun c7 => ?_) (fun c7 => ?_)
  · replace hf := (if_pos c7).symm.trans hf
    refine lv_iload hx hb dL_law_2417 (lv_at hl 1 rfl) ?_
    refine lv_if_ne (tgt := 2434) hx hb dL_law_2419 (by decide) (fun c8 => ?_) (fun c8 => ?_)
    · replace hf := (if_neg c8).symm.trans hf
      refine lv_goto (tgt := 2519) hx hb dL_law_2434 (by decide) ?_
      cases hf
      refine W.widen (k := 439 + 7 * (jz + 1)) (n := 21347 + 42 * (jz + 1)) (by omega) (by omega) ?_
      exact hk _ _ _ _ hH (lv_sub hl [2, 3, 4, 5, 6, 7] rfl)
    · replace hf := (if_pos c8).symm.trans hf
      refine hl_aload_n hx hb dL_law_2422 rfl (lv_at hl 4 rfl) ?_
      refine lv_iconst (v := 0) hx hb dL_law_2423 (by decide) ?_
      obtain ⟨a9, ha9, hf⟩ := bnd hf
      replace ha9 := cha_some ha9
      obtain ⟨j10, hj10, hf⟩ := bnd hf
      refine hw_lald hx hb hKs hH ha9.1 ha9.2 hj10 dL_law_2424 ?_
      refine lv_iload hx hb dL_law_2425 (lv_at hl 0 rfl) ?_
      refine lv_i2l (v := (q5.1.toInt64)) hx hb dL_law_2427 rfl ?_
      refine W.lcmp hx hb dL_law_2428 ?_
      refine lv_if_eq (tgt := 2434) hx hb dL_law_2429 (by decide) (fun c11 => ?_) (fun c11 => ?_)
      · replace hf := (if_pos c11).symm.trans hf
        refine lv_goto (tgt := 2519) hx hb dL_law_2434 (by decide) ?_
        cases hf
        refine W.widen (k := 439 + 7 * (jz + 1)) (n := 21347 + 42 * (jz + 1)) (by omega) (by omega) ?_
        exact hk _ _ _ _ hH (lv_sub hl [2, 3, 4, 5, 6, 7] rfl)
      · replace hf := (if_neg c11).symm.trans hf
        refine lv_iconst (v := 0) hx hb dL_law_2432 (by decide) ?_
        cases hf
  · replace hf := (if_neg c7).symm.trans hf
    refine lv_iconst (v := 0) hx hb dL_law_2415 (by decide) ?_
    cases hf
set_option maxHeartbeats 4000000 in
set_option maxRecDepth 100000 in
theorem law_c40 {p : Program} {l : Launch} {e : Env} {s : State} {m : MethodId} {below : List Frame} {meth : Method} {c : Code} {E : Ev} {K : Kd} {b L : Nat} {xs : Nat → Int32} (hls : l.stackTraces = false) (hX : va_X b L xs s s.heap) (hbl : b < s.heap.size) (hbA : ¬ hA E b) (C : CX p l e s m #[Value.ref b] meth c code 10 RL ret E) {v1 v2 v3 v4 : Option Nat} {v5 : Int32} {w w' : Wd} {H : Heap} {locs : List Loc} {ls : Array Slot} {z jz : Nat} (hj : jz < 514) (hk : ∀ (H : Heap) (locs : List Loc) (ls : Array Slot) (z : Nat), HQ E K z w' s H locs → lv_has ls 10 [(5, .int v5), (4, rv E v4), (3, rv E v3), (2, rv E v2), (1, rv E v1), (0, .ref b)] → W p l e room_1 s m #[Value.ref b] below meth c H locs (439 + 7 * (jz + 1)) (21347 + 42 * (jz + 1)) (lw_Z below #[Value.ref b] s) (F0 m 2519 ls [])) (hH : HQ E K z w s H locs) (hl : lv_has ls 10 [(5, .int v5), (4, rv E v4), (3, rv E v3), (2, rv E v2), (1, rv E v1), (0, .ref b)]) (hf : f_law_c40 K L xs v1 v2 v3 v4 v5 w = some w') : W p l e room_1 s m #[Value.ref b] below meth c H locs (439 + 7 * jz) (21347 + 42 * jz) (lw_Z below #[Value.ref b] s) (F0 m 2437 ls []) := by
  obtain ⟨hx, hb, hml, hown, hts, hKs, hT, hb0, hlocks, hret⟩ := id C
  have hc9 : (439 + 7 * jz) + 7 ≤ 601024 := by omega
  have hs9 : (21347 + 42 * jz) + 42 ≤ 7293034 := by omega
  unfold f_law_c40 at hf
  refine hl_aload_n hx hb dL_law_2437 rfl (lv_at hl 4 rfl) ?_
  refine lv_aload_n hx hb dL_law_2438 rfl (lv_at hl 5 rfl) ?_
  refine lv_iload hx hb dL_law_2439 (lv_at hl 0 rfl) ?_
  refine lv_iconst (v := 1) hx hb dL_law_2441 (by decide) ?_
  refine lv_iadd hx hb dL_law_2442 ?_
  obtain ⟨j1, hj1, hf⟩ := bnd hf
  refine hw_sld hx hb hX hbl hbA hH hj1 dL_law_2443 ?_
  obtain ⟨a2, ha2, hf⟩ := bnd hf
  replace ha2 := chk_some ha2
  obtain ⟨q3, hq3, hf⟩ := bnd hf
  refine hcV_i hx hb hml hown hts hKs hT hb0 hH (As := [.int ((xs j1))]) (rest := []) (k_X12_outputByte l E K H.size a2 (xs j1) w ha2.2 hq3) (gV m4_201 m4_202 m4_203 m1_1 m4_204) hd_X12_outputByte ⟨Nat.le_of_ble_eq_true rfl, Nat.le_of_ble_eq_true rfl, rfl, rfl⟩ ha2.1 ha2.2 rfl rfl rfl hl.1 rfl rc0 rfl dL_law_2444 ⟨(Nat.le_trans (Nat.add_le_add_left (Nat.le_of_ble_eq_true rfl : 0 ≤ 7) _) hc9), (Nat.le_trans (Nat.add_le_add_left (Nat.le_of_ble_eq_true rfl : 0 ≤ 42) _) hs9)⟩ (fun H locs hH => ?_)
  refine hl_aload_n hx hb dL_law_2447 rfl (lv_at hl 3 rfl) ?_
  refine lv_aload_n hx hb dL_law_2448 rfl (lv_at hl 5 rfl) ?_
  refine lv_iload hx hb dL_law_2449 (lv_at hl 0 rfl) ?_
  refine lv_iconst (v := 1) hx hb dL_law_2451 (by decide) ?_
  refine lv_iadd hx hb dL_law_2452 ?_
  obtain ⟨j4, hj4, hf⟩ := bnd hf
  refine hw_sld hx hb hX hbl hbA hH hj4 dL_law_2453 ?_
  obtain ⟨a5, ha5, hf⟩ := bnd hf
  replace ha5 := chk_some ha5
  obtain ⟨q6, hq6, hf⟩ := bnd hf
  refine hcV_i hx hb hml hown hts hKs hT hb0 hH (As := [.int ((xs j4))]) (rest := [.int (q3.1)]) (k_X13_outputByte l E K H.size a5 (xs j4) q3.2 ha5.2 hq6) (gV m9_183 m9_184 m9_185 m1_16 m9_186) hd_X13_outputByte ⟨Nat.le_of_ble_eq_true rfl, Nat.le_of_ble_eq_true rfl, rfl, rfl⟩ ha5.1 ha5.2 rfl rfl rfl hl.1 rfl (rcI rc0) rfl dL_law_2454 ⟨(Nat.le_trans (Nat.add_le_add_left (Nat.le_of_ble_eq_true rfl : 0 ≤ 7) _) hc9), (Nat.le_trans (Nat.add_le_add_left (Nat.le_of_ble_eq_true rfl : 0 ≤ 42) _) hs9)⟩ (fun H locs hH => ?_)
  refine lv_icmp_eq (tgt := 2519) hx hb dL_law_2457 (by decide) (fun c7 => ?_) (fun c7 => ?_)
  · replace hf := (if_pos c7).symm.trans hf
    cases hf
    refine W.widen (k := 439 + 7 * (jz + 1)) (n := 21347 + 42 * (jz + 1)) (by omega) (by omega) ?_
    exact hk _ _ _ _ hH (lv_sub hl [0, 1, 2, 3, 4, 5] rfl)
  · replace hf := (if_neg c7).symm.trans hf
    refine lv_iconst (v := 0) hx hb dL_law_2460 (by decide) ?_
    cases hf
set_option maxHeartbeats 4000000 in
set_option maxRecDepth 100000 in
theorem law_c41 {p : Program} {l : Launch} {e : Env} {s : State} {m : MethodId} {below : List Frame} {meth : Method} {c : Code} {E : Ev} {K : Kd} {b L : Nat} {xs : Nat → Int32} (hls : l.stackTraces = false) (hX : va_X b L xs s s.heap) (hbl : b < s.heap.size) (hbA : ¬ hA E b) (C : CX p l e s m #[Value.ref b] meth c code 10 RL ret E) {v1 v2 v3 v4 : Option Nat} {v5 : Int32} {w w' : Wd} {H : Heap} {locs : List Loc} {ls : Array Slot} {z jz : Nat} (hj : jz < 514) (hk : ∀ (H : Heap) (locs : List Loc) (ls : Array Slot) (z : Nat), HQ E K z w' s H locs → lv_has ls 10 [(5, .int v5), (4, rv E v4), (3, rv E v3), (2, rv E v2), (1, rv E v1), (0, .ref b)] → W p l e room_1 s m #[Value.ref b] below meth c H locs (439 + 7 * (jz + 1)) (21347 + 42 * (jz + 1)) (lw_Z below #[Value.ref b] s) (F0 m 2519 ls [])) (hH : HQ E K z w s H locs) (hl : lv_has ls 10 [(5, .int v5), (4, rv E v4), (3, rv E v3), (2, rv E v2), (1, rv E v1), (0, .ref b)]) (hf : f_law_c41 K L xs v1 v2 v3 v4 v5 w = some w') : W p l e room_1 s m #[Value.ref b] below meth c H locs (439 + 7 * jz) (21347 + 42 * jz) (lw_Z below #[Value.ref b] s) (F0 m 2462 ls []) := by
  obtain ⟨hx, hb, hml, hown, hts, hKs, hT, hb0, hlocks, hret⟩ := id C
  have hc9 : (439 + 7 * jz) + 7 ≤ 601024 := by omega
  have hs9 : (21347 + 42 * jz) + 42 ≤ 7293034 := by omega
  unfold f_law_c41 at hf
  refine hl_aload_n hx hb dL_law_2462 rfl (lv_at hl 4 rfl) ?_
  obtain ⟨a1, ha1, hf⟩ := bnd hf
  replace ha1 := chk_some ha1
  obtain ⟨q2, hq2, hf⟩ := bnd hf
  refine hcV_i hx hb hml hown hts hKs hT hb0 hH (As := []) (rest := []) (k_X12_saveState l E K H.size a1 w ha1.2 hq2) (gV m4_205 m4_206 m4_207 m1_1 m4_208) hd_X12_saveState ⟨Nat.le_of_ble_eq_true rfl, Nat.le_of_ble_eq_true rfl, rfl, rfl⟩ ha1.1 ha1.2 rfl rfl rfl hl.1 rfl rc0 rfl dL_law_2463 ⟨(Nat.le_trans (Nat.add_le_add_left (Nat.le_of_ble_eq_true rfl : 0 ≤ 7) _) hc9), (Nat.le_trans (Nat.add_le_add_left (Nat.le_of_ble_eq_true rfl : 0 ≤ 42) _) hs9)⟩ (fun H locs hH => ?_)
  refine hl_aload_n hx hb dL_law_2466 rfl (lv_at hl 3 rfl) ?_
  obtain ⟨a3, ha3, hf⟩ := bnd hf
  replace ha3 := chk_some ha3
  obtain ⟨q4, hq4, hf⟩ := bnd hf
  refine hcV_i hx hb hml hown hts hKs hT hb0 hH (As := []) (rest := [.int (q2.1)]) (k_X13_saveState l E K H.size a3 q2.2 ha3.2 hq4) (gV m7_72 m7_73 m7_74 m1_16 m7_75) hd_X13_saveState ⟨Nat.le_of_ble_eq_true rfl, Nat.le_of_ble_eq_true rfl, rfl, rfl⟩ ha3.1 ha3.2 rfl rfl rfl hl.1 rfl (rcI rc0) rfl dL_law_2467 ⟨(Nat.le_trans (Nat.add_le_add_left (Nat.le_of_ble_eq_true rfl : 0 ≤ 7) _) hc9), (Nat.le_trans (Nat.add_le_add_left (Nat.le_of_ble_eq_true rfl : 0 ≤ 42) _) hs9)⟩ (fun H locs hH => ?_)
  refine lv_icmp_eq (tgt := 2519) hx hb dL_law_2470 (by decide) (fun c5 => ?_) (fun c5 => ?_)
  · replace hf := (if_pos c5).symm.trans hf
    cases hf
    refine W.widen (k := 439 + 7 * (jz + 1)) (n := 21347 + 42 * (jz + 1)) (by omega) (by omega) ?_
    exact hk _ _ _ _ hH (lv_sub hl [0, 1, 2, 3, 4, 5] rfl)
  · replace hf := (if_neg c5).symm.trans hf
    refine lv_iconst (v := 0) hx hb dL_law_2473 (by decide) ?_
    cases hf
set_option maxHeartbeats 4000000 in
set_option maxRecDepth 100000 in
theorem law_c42 {p : Program} {l : Launch} {e : Env} {s : State} {m : MethodId} {below : List Frame} {meth : Method} {c : Code} {E : Ev} {K : Kd} {b L : Nat} {xs : Nat → Int32} (hls : l.stackTraces = false) (hX : va_X b L xs s s.heap) (hbl : b < s.heap.size) (hbA : ¬ hA E b) (C : CX p l e s m #[Value.ref b] meth c code 10 RL ret E) {v1 v2 v3 v4 : Option Nat} {v5 : Int32} {w w' : Wd} {H : Heap} {locs : List Loc} {ls : Array Slot} {z jz : Nat} (hj : jz < 514) (hk : ∀ (H : Heap) (locs : List Loc) (ls : Array Slot) (z : Nat), HQ E K z w' s H locs → lv_has ls 10 [(5, .int v5), (4, rv E v4), (3, rv E v3), (2, rv E v2), (1, rv E v1), (0, .ref b)] → W p l e room_1 s m #[Value.ref b] below meth c H locs (439 + 7 * (jz + 1)) (21347 + 42 * (jz + 1)) (lw_Z below #[Value.ref b] s) (F0 m 2519 ls [])) (hH : HQ E K z w s H locs) (hl : lv_has ls 10 [(5, .int v5), (4, rv E v4), (3, rv E v3), (2, rv E v2), (1, rv E v1), (0, .ref b)]) (hf : f_law_c42 K L xs v1 v2 v3 v4 v5 w = some w') : W p l e room_1 s m #[Value.ref b] below meth c H locs (439 + 7 * jz) (21347 + 42 * jz) (lw_Z below #[Value.ref b] s) (F0 m 2475 ls []) := by
  obtain ⟨hx, hb, hml, hown, hts, hKs, hT, hb0, hlocks, hret⟩ := id C
  have hc9 : (439 + 7 * jz) + 7 ≤ 601024 := by omega
  have hs9 : (21347 + 42 * jz) + 42 ≤ 7293034 := by omega
  unfold f_law_c42 at hf
  refine hl_aload_n hx hb dL_law_2475 rfl (lv_at hl 4 rfl) ?_
  refine hl_aload_n hx hb dL_law_2476 rfl (lv_at hl 2 rfl) ?_
  obtain ⟨q1, hq1, hf⟩ := bnd hf
  refine hcW hH (vx_runSW (As := [rv E v1, rv E v3]) (rest := []) ⟨hx, hb, hml, hown, hts⟩ (k_L_restoreState l hls E K H.size v1 v3 w hq1) (vx_cwSW (hh := [(0, 8, 11, 58)]) _ hts (gW m6_154 m6_155 m1_0 m6_156) rfl rfl rfl hs_L_restoreState ⟨Nat.le_of_ble_eq_true rfl, Nat.le_of_ble_eq_true rfl⟩) ⟨HB.blind, HB.pre hKs hT hb0 hH⟩ rfl rfl hl.1 rfl (lv_room rc0) dL_law_2477 ⟨(Nat.le_trans (Nat.add_le_add_left (Nat.le_of_ble_eq_true rfl : 1 ≤ 7) _) hc9), (Nat.le_trans (Nat.add_le_add_left (Nat.le_of_ble_eq_true rfl : 6 ≤ 42) _) hs9)⟩) (fun H locs hH => ?_)
  refine lv_istore (i := 6) (lv' := [(6, .int (q1.1)), (5, .int v5), (4, rv E v4), (3, rv E v3), (2, rv E v2), (1, rv E v1), (0, .ref b)]) hx hb dL_law_2480 hl (by decide) rfl (fun ls hl => ?_)
  refine hl_aload_n hx hb dL_law_2482 rfl (lv_at hl 4 rfl) ?_
  obtain ⟨a2, ha2, hf⟩ := bnd hf
  replace ha2 := chk_some ha2
  obtain ⟨q3, hq3, hf⟩ := bnd hf
  refine hcV_i hx hb hml hown hts hKs hT hb0 hH (As := []) (rest := []) (k_X13_restoreState l E K H.size a2 q1.2 ha2.2 hq3) (gV m7_76 m7_77 m7_78 m1_16 m7_79) hd_X13_restoreState ⟨Nat.le_of_ble_eq_true rfl, Nat.le_of_ble_eq_true rfl, rfl, rfl⟩ ha2.1 ha2.2 rfl rfl rfl hl.1 rfl rc0 rfl dL_law_2483 ⟨(Nat.le_trans (Nat.add_le_add_left (Nat.le_of_ble_eq_true rfl : 1 ≤ 7) _) hc9), (Nat.le_trans (Nat.add_le_add_left (Nat.le_of_ble_eq_true rfl : 6 ≤ 42) _) hs9)⟩ (fun H locs hH => ?_)
  refine lv_istore (i := 7) (lv' := [(7, .int (q3.1)), (6, .int (q1.1)), (5, .int v5), (4, rv E v4), (3, rv E v3), (2, rv E v2), (1, rv E v1), (0, .ref b)]) hx hb dL_law_2486 hl (by decide) rfl (fun ls hl => ?_)
  refine hl_aload_n hx hb dL_law_2488 rfl (lv_at hl 5 rfl) ?_
  obtain ⟨q4, hq4, hf⟩ := bnd hf
  refine hcV_i hx hb hml hown hts hKs hT hb0 hH (As := []) (rest := []) (k_X13_thrown l E K H.size a2 q3.2 ha2.2 hq4) (gV m7_60 m7_61 m7_62 m1_16 m7_63) hd_X13_thrown ⟨Nat.le_of_ble_eq_true rfl, Nat.le_of_ble_eq_true rfl, rfl, rfl⟩ ha2.1 ha2.2 rfl rfl rfl hl.1 rfl rc0 rfl dL_law_2489 ⟨(Nat.le_trans (Nat.add_le_add_left (Nat.le_of_ble_eq_true rfl : 1 ≤ 7) _) hc9), (Nat.le_trans (Nat.add_le_add_left (Nat.le_of_ble_eq_true rfl : 6 ≤ 42) _) hs9)⟩ (fun H locs hH => ?_)
  refine lv_iload hx hb dL_law_2492 (lv_at hl 1 rfl) ?_
  refine lv_icmp_eq (tgt := 2499) hx hb dL_law_2494 (by decide) (fun c5 => ?_) (fun c5 => ?_)
  · replace hf := (if_pos c5).symm.trans hf
    refine lv_iload hx hb dL_law_2499 (lv_at hl 1 rfl) ?_
    refine lv_if_ne (tgt := 2516) hx hb dL_law_2501 (by decide) (fun c6 => ?_) (fun c6 => ?_)
    · replace hf := (if_neg c6).symm.trans hf
      refine lv_goto (tgt := 2519) hx hb dL_law_2516 (by decide) ?_
      cases hf
      refine W.widen (k := 439 + 7 * (jz + 1)) (n := 21347 + 42 * (jz + 1)) (by omega) (by omega) ?_
      exact hk _ _ _ _ hH (lv_sub hl [2, 3, 4, 5, 6, 7] rfl)
    · replace hf := (if_pos c6).symm.trans hf
      refine hl_aload_n hx hb dL_law_2504 rfl (lv_at hl 4 rfl) ?_
      refine lv_iconst (v := 0) hx hb dL_law_2505 (by decide) ?_
      obtain ⟨a7, ha7, hf⟩ := bnd hf
      replace ha7 := cha_some ha7
      obtain ⟨j8, hj8, hf⟩ := bnd hf
      refine hw_lald hx hb hKs hH ha7.1 ha7.2 hj8 dL_law_2506 ?_
      refine lv_iload hx hb dL_law_2507 (lv_at hl 0 rfl) ?_
      refine lv_i2l (v := (q3.1.toInt64)) hx hb dL_law_2509 rfl ?_
      refine W.lcmp hx hb dL_law_2510 ?_
      refine lv_if_eq (tgt := 2516) hx hb dL_law_2511 (by decide) (fun c9 => ?_) (fun c9 => ?_)
      · replace hf := (if_pos c9).symm.trans hf
        refine lv_goto (tgt := 2519) hx hb dL_law_2516 (by decide) ?_
        cases hf
        refine W.widen (k := 439 + 7 * (jz + 1)) (n := 21347 + 42 * (jz + 1)) (by omega) (by omega) ?_
        exact hk _ _ _ _ hH (lv_sub hl [2, 3, 4, 5, 6, 7] rfl)
      · replace hf := (if_neg c9).symm.trans hf
        refine lv_iconst (v := 0) hx hb dL_law_2514 (by decide) ?_
        cases hf
  · replace hf := (if_neg c5).symm.trans hf
    refine lv_iconst (v := 0) hx hb dL_law_2497 (by decide) ?_
    cases hf
set_option maxHeartbeats 4000000 in
set_option maxRecDepth 100000 in
theorem law_step {p : Program} {l : Launch} {e : Env} {s : State} {m : MethodId} {below : List Frame} {meth : Method} {c : Code} {E : Ev} {K : Kd} {b L : Nat} {xs : Nat → Int32} (hls : l.stackTraces = false) (hX : va_X b L xs s s.heap) (hbl : b < s.heap.size) (hbA : ¬ hA E b) (C : CX p l e s m #[Value.ref b] meth c code 10 RL ret E) {v1 v2 v3 v4 : Option Nat} {v5 : Int32} {w w' : Wd} {H : Heap} {locs : List Loc} {ls : Array Slot} {z jz : Nat} (hj : jz < 514) (hk : ∀ (H : Heap) (locs : List Loc) (ls : Array Slot) (z : Nat), HQ E K z w' s H locs → lv_has ls 10 [(5, .int v5), (4, rv E v4), (3, rv E v3), (2, rv E v2), (1, rv E v1), (0, .ref b)] → W p l e room_1 s m #[Value.ref b] below meth c H locs (439 + 7 * (jz + 1)) (21347 + 42 * (jz + 1)) (lw_Z below #[Value.ref b] s) (F0 m 2519 ls [])) (hH : HQ E K z w s H locs) (hl : lv_has ls 10 [(5, .int v5), (4, rv E v4), (3, rv E v3), (2, rv E v2), (1, rv E v1), (0, .ref b)]) (hf : f_law_step K L xs v1 v2 v3 v4 v5 w = some w') : W p l e room_1 s m #[Value.ref b] below meth c H locs (439 + 7 * jz) (21347 + 42 * jz) (lw_Z below #[Value.ref b] s) (F0 m 38 ls []) := by
  obtain ⟨hx, hb, hml, hown, hts, hKs, hT, hb0, hlocks, hret⟩ := id C
  unfold f_law_step at hf
  refine lv_aload_n hx hb dL_law_38 rfl (lv_at hl 5 rfl) ?_
  refine lv_iload hx hb dL_law_39 (lv_at hl 0 rfl) ?_
  obtain ⟨j2, hj2, hf⟩ := bnd hf
  refine hw_sld hx hb hX hbl hbA hH hj2 dL_law_41 ?_
  refine lv_bipush (v := 63) hx hb dL_law_42 (by decide) ?_
  refine lv_iand hx hb dL_law_44 ?_
  by_cases c0 : ((xs j2) &&& 63) < 0 ∨ 42 < ((xs j2) &&& 63)
  · replace hf := (if_pos c0).symm.trans hf
    refine hl_tabOut (tgt := 2519) hx hb dL_law_45 c0 (by decide) (by decide) (by decide) ?_
    cases hf
    refine W.widen (k := 439 + 7 * (jz + 1)) (n := 21347 + 42 * (jz + 1)) (by omega) (by omega) ?_
    exact hk _ _ _ _ hH hl
  replace hf := (if_neg c0).symm.trans hf
  by_cases d0 : ((xs j2) &&& 63) = 0
  · replace hf := (if_pos d0).symm.trans hf
    exact hl_tabIn (tgt := 232) hx hb dL_law_45 d0 (by decide) (by decide) rfl (by decide) (law_c0 hls hX hbl hbA C hj hk hH hl hf)
  replace hf := (if_neg d0).symm.trans hf
  by_cases d1 : ((xs j2) &&& 63) = 1
  · replace hf := (if_pos d1).symm.trans hf
    exact hl_tabIn (tgt := 305) hx hb dL_law_45 d1 (by decide) (by decide) rfl (by decide) (law_c1 hls hX hbl hbA C hj hk hH hl hf)
  replace hf := (if_neg d1).symm.trans hf
  by_cases d2 : ((xs j2) &&& 63) = 2
  · replace hf := (if_pos d2).symm.trans hf
    exact hl_tabIn (tgt := 330) hx hb dL_law_45 d2 (by decide) (by decide) rfl (by decide) (law_c2 hls hX hbl hbA C hj hk hH hl hf)
  replace hf := (if_neg d2).symm.trans hf
  by_cases d3 : ((xs j2) &&& 63) = 3
  · replace hf := (if_pos d3).symm.trans hf
    exact hl_tabIn (tgt := 343) hx hb dL_law_45 d3 (by decide) (by decide) rfl (by decide) (law_c3 hls hX hbl hbA C hj hk hH hl hf)
  replace hf := (if_neg d3).symm.trans hf
  by_cases d4 : ((xs j2) &&& 63) = 4
  · replace hf := (if_pos d4).symm.trans hf
    exact hl_tabIn (tgt := 356) hx hb dL_law_45 d4 (by decide) (by decide) rfl (by decide) (law_c4 hls hX hbl hbA C hj hk hH hl hf)
  replace hf := (if_neg d4).symm.trans hf
  by_cases d5 : ((xs j2) &&& 63) = 5
  · replace hf := (if_pos d5).symm.trans hf
    exact hl_tabIn (tgt := 369) hx hb dL_law_45 d5 (by decide) (by decide) rfl (by decide) (law_c5 hls hX hbl hbA C hj hk hH hl hf)
  replace hf := (if_neg d5).symm.trans hf
  by_cases d6 : ((xs j2) &&& 63) = 6
  · replace hf := (if_pos d6).symm.trans hf
    exact hl_tabIn (tgt := 394) hx hb dL_law_45 d6 (by decide) (by decide) rfl (by decide) (law_c6 hls hX hbl hbA C hj hk hH hl hf)
  replace hf := (if_neg d6).symm.trans hf
  by_cases d7 : ((xs j2) &&& 63) = 7
  · replace hf := (if_pos d7).symm.trans hf
    exact hl_tabIn (tgt := 450) hx hb dL_law_45 d7 (by decide) (by decide) rfl (by decide) (law_c7 hls hX hbl hbA C hj hk hH hl hf)
  replace hf := (if_neg d7).symm.trans hf
  by_cases d8 : ((xs j2) &&& 63) = 8
  · replace hf := (if_pos d8).symm.trans hf
    exact hl_tabIn (tgt := 513) hx hb dL_law_45 d8 (by decide) (by decide) rfl (by decide) (law_c8 hls hX hbl hbA C hj hk hH hl hf)
  replace hf := (if_neg d8).symm.trans hf
  by_cases d9 : ((xs j2) &&& 63) = 9
  · replace hf := (if_pos d9).symm.trans hf
    exact hl_tabIn (tgt := 581) hx hb dL_law_45 d9 (by decide) (by decide) rfl (by decide) (law_c9 hls hX hbl hbA C hj hk hH hl hf)
  replace hf := (if_neg d9).symm.trans hf
  by_cases d10 : ((xs j2) &&& 63) = 10
  · replace hf := (if_pos d10).symm.trans hf
    exact hl_tabIn (tgt := 637) hx hb dL_law_45 d10 (by decide) (by decide) rfl (by decide) (law_c10 hls hX hbl hbA C hj hk hH hl hf)
  replace hf := (if_neg d10).symm.trans hf
  by_cases d11 : ((xs j2) &&& 63) = 11
  · replace hf := (if_pos d11).symm.trans hf
    exact hl_tabIn (tgt := 705) hx hb dL_law_45 d11 (by decide) (by decide) rfl (by decide) (law_c11 hls hX hbl hbA C hj hk hH hl hf)
  replace hf := (if_neg d11).symm.trans hf
  by_cases d12 : ((xs j2) &&& 63) = 12
  · replace hf := (if_pos d12).symm.trans hf
    exact hl_tabIn (tgt := 780) hx hb dL_law_45 d12 (by decide) (by decide) rfl (by decide) (law_c12 hls hX hbl hbA C hj hk hH hl hf)
  replace hf := (if_neg d12).symm.trans hf
  by_cases d13 : ((xs j2) &&& 63) = 13
  · replace hf := (if_pos d13).symm.trans hf
    exact hl_tabIn (tgt := 855) hx hb dL_law_45 d13 (by decide) (by decide) rfl (by decide) (law_c13 hls hX hbl hbA C hj hk hH hl hf)
  replace hf := (if_neg d13).symm.trans hf
  by_cases d14 : ((xs j2) &&& 63) = 14
  · replace hf := (if_pos d14).symm.trans hf
    exact hl_tabIn (tgt := 911) hx hb dL_law_45 d14 (by decide) (by decide) rfl (by decide) (law_c14 hls hX hbl hbA C hj hk hH hl hf)
  replace hf := (if_neg d14).symm.trans hf
  by_cases d15 : ((xs j2) &&& 63) = 15
  · replace hf := (if_pos d15).symm.trans hf
    exact hl_tabIn (tgt := 979) hx hb dL_law_45 d15 (by decide) (by decide) rfl (by decide) (law_c15 hls hX hbl hbA C hj hk hH hl hf)
  replace hf := (if_neg d15).symm.trans hf
  by_cases d16 : ((xs j2) &&& 63) = 16
  · replace hf := (if_pos d16).symm.trans hf
    exact hl_tabIn (tgt := 1047) hx hb dL_law_45 d16 (by decide) (by decide) rfl (by decide) (law_c16 hls hX hbl hbA C hj hk hH hl hf)
  replace hf := (if_neg d16).symm.trans hf
  by_cases d17 : ((xs j2) &&& 63) = 17
  · replace hf := (if_pos d17).symm.trans hf
    exact hl_tabIn (tgt := 1127) hx hb dL_law_45 d17 (by decide) (by decide) rfl (by decide) (law_c17 hls hX hbl hbA C hj hk hH hl hf)
  replace hf := (if_neg d17).symm.trans hf
  by_cases d18 : ((xs j2) &&& 63) = 18
  · replace hf := (if_pos d18).symm.trans hf
    exact hl_tabIn (tgt := 1207) hx hb dL_law_45 d18 (by decide) (by decide) rfl (by decide) (law_c18 hls hX hbl hbA C hj hk hH hl hf)
  replace hf := (if_neg d18).symm.trans hf
  by_cases d19 : ((xs j2) &&& 63) = 19
  · replace hf := (if_pos d19).symm.trans hf
    exact hl_tabIn (tgt := 1311) hx hb dL_law_45 d19 (by decide) (by decide) rfl (by decide) (law_c19 hls hX hbl hbA C hj hk hH hl hf)
  replace hf := (if_neg d19).symm.trans hf
  by_cases d20 : ((xs j2) &&& 63) = 20
  · replace hf := (if_pos d20).symm.trans hf
    exact hl_tabIn (tgt := 1379) hx hb dL_law_45 d20 (by decide) (by decide) rfl (by decide) (law_c20 hls hX hbl hbA C hj hk hH hl hf)
  replace hf := (if_neg d20).symm.trans hf
  by_cases d21 : ((xs j2) &&& 63) = 21
  · replace hf := (if_pos d21).symm.trans hf
    exact hl_tabIn (tgt := 1435) hx hb dL_law_45 d21 (by decide) (by decide) rfl (by decide) (law_c21 hls hX hbl hbA C hj hk hH hl hf)
  replace hf := (if_neg d21).symm.trans hf
  by_cases d22 : ((xs j2) &&& 63) = 22
  · replace hf := (if_pos d22).symm.trans hf
    exact hl_tabIn (tgt := 1491) hx hb dL_law_45 d22 (by decide) (by decide) rfl (by decide) (law_c22 hls hX hbl hbA C hj hk hH hl hf)
  replace hf := (if_neg d22).symm.trans hf
  by_cases d23 : ((xs j2) &&& 63) = 23
  · replace hf := (if_pos d23).symm.trans hf
    exact hl_tabIn (tgt := 1547) hx hb dL_law_45 d23 (by decide) (by decide) rfl (by decide) (law_c23 hls hX hbl hbA C hj hk hH hl hf)
  replace hf := (if_neg d23).symm.trans hf
  by_cases d24 : ((xs j2) &&& 63) = 24
  · replace hf := (if_pos d24).symm.trans hf
    exact hl_tabIn (tgt := 1603) hx hb dL_law_45 d24 (by decide) (by decide) rfl (by decide) (law_c24 hls hX hbl hbA C hj hk hH hl hf)
  replace hf := (if_neg d24).symm.trans hf
  by_cases d25 : ((xs j2) &&& 63) = 25
  · replace hf := (if_pos d25).symm.trans hf
    exact hl_tabIn (tgt := 1616) hx hb dL_law_45 d25 (by decide) (by decide) rfl (by decide) (law_c25 hls hX hbl hbA C hj hk hH hl hf)
  replace hf := (if_neg d25).symm.trans hf
  by_cases d26 : ((xs j2) &&& 63) = 26
  · replace hf := (if_pos d26).symm.trans hf
    exact hl_tabIn (tgt := 1657) hx hb dL_law_45 d26 (by decide) (by decide) rfl (by decide) (law_c26 hls hX hbl hbA C hj hk hH hl hf)
  replace hf := (if_neg d26).symm.trans hf
  by_cases d27 : ((xs j2) &&& 63) = 27
  · replace hf := (if_pos d27).symm.trans hf
    exact hl_tabIn (tgt := 1759) hx hb dL_law_45 d27 (by decide) (by decide) rfl (by decide) (law_c27 hls hX hbl hbA C hj hk hH hl hf)
  replace hf := (if_neg d27).symm.trans hf
  by_cases d28 : ((xs j2) &&& 63) = 28
  · replace hf := (if_pos d28).symm.trans hf
    exact hl_tabIn (tgt := 1815) hx hb dL_law_45 d28 (by decide) (by decide) rfl (by decide) (law_c28 hls hX hbl hbA C hj hk hH hl hf)
  replace hf := (if_neg d28).symm.trans hf
  by_cases d29 : ((xs j2) &&& 63) = 29
  · replace hf := (if_pos d29).symm.trans hf
    exact hl_tabIn (tgt := 1919) hx hb dL_law_45 d29 (by decide) (by decide) rfl (by decide) (law_c29 hls hX hbl hbA C hj hk hH hl hf)
  replace hf := (if_neg d29).symm.trans hf
  by_cases d30 : ((xs j2) &&& 63) = 30
  · replace hf := (if_pos d30).symm.trans hf
    exact hl_tabIn (tgt := 1975) hx hb dL_law_45 d30 (by decide) (by decide) rfl (by decide) (law_c30 hls hX hbl hbA C hj hk hH hl hf)
  replace hf := (if_neg d30).symm.trans hf
  by_cases d31 : ((xs j2) &&& 63) = 31
  · replace hf := (if_pos d31).symm.trans hf
    exact hl_tabIn (tgt := 1988) hx hb dL_law_45 d31 (by decide) (by decide) rfl (by decide) (law_c31 hls hX hbl hbA C hj hk hH hl hf)
  replace hf := (if_neg d31).symm.trans hf
  by_cases d32 : ((xs j2) &&& 63) = 32
  · replace hf := (if_pos d32).symm.trans hf
    exact hl_tabIn (tgt := 2056) hx hb dL_law_45 d32 (by decide) (by decide) rfl (by decide) (law_c32 hls hX hbl hbA C hj hk hH hl hf)
  replace hf := (if_neg d32).symm.trans hf
  by_cases d33 : ((xs j2) &&& 63) = 33
  · replace hf := (if_pos d33).symm.trans hf
    exact hl_tabIn (tgt := 2124) hx hb dL_law_45 d33 (by decide) (by decide) rfl (by decide) (law_c33 hls hX hbl hbA C hj hk hH hl hf)
  replace hf := (if_neg d33).symm.trans hf
  by_cases d34 : ((xs j2) &&& 63) = 34
  · replace hf := (if_pos d34).symm.trans hf
    exact hl_tabIn (tgt := 2180) hx hb dL_law_45 d34 (by decide) (by decide) rfl (by decide) (law_c34 hls hX hbl hbA C hj hk hH hl hf)
  replace hf := (if_neg d34).symm.trans hf
  by_cases d35 : ((xs j2) &&& 63) = 35
  · replace hf := (if_pos d35).symm.trans hf
    exact hl_tabIn (tgt := 2255) hx hb dL_law_45 d35 (by decide) (by decide) rfl (by decide) (law_c35 hls hX hbl hbA C hj hk hH hl hf)
  replace hf := (if_neg d35).symm.trans hf
  by_cases d36 : ((xs j2) &&& 63) = 36
  · replace hf := (if_pos d36).symm.trans hf
    exact hl_tabIn (tgt := 2299) hx hb dL_law_45 d36 (by decide) (by decide) rfl (by decide) (law_c36 hls hX hbl hbA C hj hk hH hl hf)
  replace hf := (if_neg d36).symm.trans hf
  by_cases d37 : ((xs j2) &&& 63) = 37
  · replace hf := (if_pos d37).symm.trans hf
    exact hl_tabIn (tgt := 2355) hx hb dL_law_45 d37 (by decide) (by decide) rfl (by decide) (law_c37 hls hX hbl hbA C hj hk hH hl hf)
  replace hf := (if_neg d37).symm.trans hf
  by_cases d38 : ((xs j2) &&& 63) = 38
  · replace hf := (if_pos d38).symm.trans hf
    exact hl_tabIn (tgt := 2368) hx hb dL_law_45 d38 (by decide) (by decide) rfl (by decide) (law_c38 hls hX hbl hbA C hj hk hH hl hf)
  replace hf := (if_neg d38).symm.trans hf
  by_cases d39 : ((xs j2) &&& 63) = 39
  · replace hf := (if_pos d39).symm.trans hf
    exact hl_tabIn (tgt := 2381) hx hb dL_law_45 d39 (by decide) (by decide) rfl (by decide) (law_c39 hls hX hbl hbA C hj hk hH hl hf)
  replace hf := (if_neg d39).symm.trans hf
  by_cases d40 : ((xs j2) &&& 63) = 40
  · replace hf := (if_pos d40).symm.trans hf
    exact hl_tabIn (tgt := 2437) hx hb dL_law_45 d40 (by decide) (by decide) rfl (by decide) (law_c40 hls hX hbl hbA C hj hk hH hl hf)
  replace hf := (if_neg d40).symm.trans hf
  by_cases d41 : ((xs j2) &&& 63) = 41
  · replace hf := (if_pos d41).symm.trans hf
    exact hl_tabIn (tgt := 2462) hx hb dL_law_45 d41 (by decide) (by decide) rfl (by decide) (law_c41 hls hX hbl hbA C hj hk hH hl hf)
  replace hf := (if_neg d41).symm.trans hf
  by_cases d42 : ((xs j2) &&& 63) = 42
  · replace hf := (if_pos d42).symm.trans hf
    exact hl_tabIn (tgt := 2475) hx hb dL_law_45 d42 (by decide) (by decide) rfl (by decide) (law_c42 hls hX hbl hbA C hj hk hH hl hf)
  replace hf := (if_neg d42).symm.trans hf
  cases hf
set_option maxHeartbeats 4000000 in
set_option maxRecDepth 100000 in
theorem law_loop {p : Program} {l : Launch} {e : Env} {s : State} {m : MethodId} {below : List Frame} {meth : Method} {c : Code} {E : Ev} {K : Kd} {b L : Nat} {xs : Nat → Int32} (hls : l.stackTraces = false) (hX : va_X b L xs s s.heap) (hbl : b < s.heap.size) (hbA : ¬ hA E b) (C : CX p l e s m #[Value.ref b] meth c code 10 RL ret E) (hE : E.2.1 = s.heap.size) {v1 v2 v3 v4 : Option Nat} {w' : Wd} : ∀ (n jz : Nat), jz + n ≤ 514 → ∀ (v5 : Int32) (w : Wd) (H : Heap) (locs : List Loc) (ls : Array Slot) (z : Nat), HQ E K z w s H locs → lv_has ls 10 [(5, .int v5), (4, rv E v4), (3, rv E v3), (2, rv E v2), (1, rv E v1), (0, .ref b)] → f_law_L28 K L xs v1 v2 v3 v4 n v5 w = some w' → W p l e room_1 s m #[Value.ref b] below meth c H locs (439 + 7 * jz) (21347 + 42 * jz) (lw_Z below #[Value.ref b] s) (F0 m 28 ls []) := by
  obtain ⟨hx, hb, hml, hown, hts, hKs, hT, hb0, hlocks, hret⟩ := id C
  intro n
  induction n with
  | zero => intro jz hj v5 w H locs ls z hH hl hf; cases hf
  | succ n ih =>
    intro jz hj v5 w H locs ls z hH hl hf
    rw [f_law_L28] at hf
    refine lv_iload hx hb dL_law_28 (lv_at hl 0 rfl) ?_
    refine lv_aload_n hx hb dL_law_30 rfl (lv_at hl 5 rfl) ?_
    refine va_slen hx hb hX hbl hbA hH.2.1 dL_law_31 ?_
    refine lv_bipush (v := 6) hx hb dL_law_32 (by decide) ?_
    refine lv_isub hx hb dL_law_34 ?_
    refine lv_icmp_gt (tgt := 2525) hx hb dL_law_35 (by decide) (fun c1 => ?_) (fun c1 => ?_)
    · replace hf := (if_pos c1).symm.trans hf
      refine lv_iconst (v := 1) hx hb dL_law_2525 (by decide) ?_
      exact law_end hx hb hret hlocks hE hH (by omega) (by omega) dL_law_2526
    · replace hf := (if_neg c1).symm.trans hf
      obtain ⟨w1, hw1, hf⟩ := bnd hf
      refine law_step hls hX hbl hbA C (jz := jz) (by omega) (fun H locs ls z hH hl => ?_) hH hl hw1
      refine lv_iinc (v := (v5 + 6)) (lv' := [(5, .int (v5 + 6)), (4, rv E v4), (3, rv E v3), (2, rv E v2), (1, rv E v1), (0, .ref b)]) hx hb dL_law_2519 hl (k := 0) rfl rfl (by decide) (by simp [List.filter_cons, cat_q, cat_i, cat_j, imax, imin]) (fun ls hl => ?_)
      refine lv_goto (tgt := 28) hx hb dL_law_2522 (by decide) ?_
      exact ih (jz + 1) (by omega) _ _ _ _ _ _ hH hl hf
