/-! The law's last check, and the way back before it. -/
set_option maxHeartbeats 4000000 in
set_option maxRecDepth 100000 in
theorem law_279 {p : Program} {l : Launch} {e : Env} {s : State} {m : MethodId} {below : List Frame} {meth : Method} {c : Code} {E : Ev} {X : Kd} {z : Nat} {w : Wd} {H : Heap} {locs : List Loc} {ls : Array Slot} {cells slots bb : Nat} {S T : Nat → Nat} {v2 v4 v5 v6 v7 : Int32} {hs : Nat → Nat → Nat} (C : CX p l e s m #[Value.ref (E.2.2.2.1 500)] meth c code 9 RL ret E) (hE : E.2.1 = s.heap.size) (hS : S 1 = 2 ∧ S 3 = 4) (hC : Cst w bb S T 0 hs) (hG : GI (fun _ => false) S T) (hH : HQ E (Kx X) z w s H locs) (hl : lv_has ls 9 [(8, .int (nI (cnt (fun i => cs T i 0 == 2) (S 3)))), (7, .int v7), (6, .int v6), (5, .int v5), (4, .int v4), (3, .int (nI (T 0))), (2, .int v2), (1, rv E (some 0)), (0, .ref (E.2.2.2.1 500))]) (h1 : cells ≤ 900) (h2 : slots ≤ 190000) : W p l e room_1 s m #[Value.ref (E.2.2.2.1 500)] below meth c H locs cells slots (lw_Z below #[Value.ref (E.2.2.2.1 500)] s) (F0 m 279 ls []) := by
  obtain ⟨hx, hb, hml, hown, hts, hKs, hT, hb0, hlocks, hret⟩ := id C
  refine hl_aload_n hx hb dlaw_279 rfl (lv_at hl 7 rfl) ?_
  obtain ⟨n280, hn280, hH⟩ := hq_n hH
  obtain ⟨v280, g280, u280⟩ := good_ok (X := X) hC hG (by omega) (by omega) hn280
  refine hcWk hH (va_runS (As := [rv E (some 0)]) (rest := []) ⟨hx, hb, hml, hown, hts⟩ (k_L_isGood l E (Kx X) n280 (some 0) _ g280) (va_cwS _ hts (gS m6_179 m6_180 m1_0 m6_181) rfl rfl rfl hs_L_isGood ⟨Nat.le_of_ble_eq_true rfl, Nat.le_of_ble_eq_true rfl⟩) ⟨HB.blind, HB.preN hKs hT hb0 hH⟩ rfl rfl hl.1 rfl (lv_room rc0) dlaw_280 ⟨rm_c (by omega), rm_s (by omega)⟩) (fun H locs z1 hH => ?_)
  rw [kup_x hn280] at hH
  generalize kup X n280 (20, 2) = X at hH
  refine lv_if_eq (tgt := 311) hx hb dlaw_283 (by decide) (fun cc => ?_) (fun cc => ?_)
  · first | exact (cc lw_bt).elim | exact absurd cc lw_bt
  refine hl_aload_n hx hb dlaw_286 rfl (lv_at hl 7 rfl) ?_
  refine lv_bipush (v := 7) hx hb dlaw_287 (by decide) ?_
  have q289 := n_count7 (X := X) u280.1
  refine hcV_i hx hb hml hown hts hKs hT hb0 hH (As := [.int 7]) (rest := []) (k_X12_count l E (Kx X) H.size 0 7 _ kx0 q289) (gV m3_17 m3_18 m3_19 m1_1 m3_20) hd_X12_count ⟨Nat.le_of_ble_eq_true rfl, Nat.le_of_ble_eq_true rfl, rfl, rfl⟩ rfl kx0 rfl rfl rfl hl.1 rfl rc0 rfl dlaw_289 ⟨rm_c (by omega), rm_s (by omega)⟩ (fun H locs hH => ?_)
  refine lv_iload_n hx hb dlaw_292 rfl (lv_at hl 5 rfl) ?_
  refine lv_icmp_ne (tgt := 311) hx hb dlaw_293 (by decide) (fun cc => ?_) (fun cc => ?_)
  · first | exact (cc rfl).elim | exact absurd cc rfl
  refine hl_aload_n hx hb dlaw_296 rfl (lv_at hl 7 rfl) ?_
  refine lv_bipush (v := 12) hx hb dlaw_297 (by decide) ?_
  have q299 := n_count12 (X := X) u280.1
  refine hcV_i hx hb hml hown hts hKs hT hb0 hH (As := [.int 12]) (rest := []) (k_X12_count l E (Kx X) H.size 0 12 _ kx0 q299) (gV m3_17 m3_18 m3_19 m1_1 m3_20) hd_X12_count ⟨Nat.le_of_ble_eq_true rfl, Nat.le_of_ble_eq_true rfl, rfl, rfl⟩ rfl kx0 rfl rfl rfl hl.1 rfl rc0 rfl dlaw_299 ⟨rm_c (by omega), rm_s (by omega)⟩ (fun H locs hH => ?_)
  refine lv_iload hx hb dlaw_302 (lv_at hl 0 rfl) ?_
  refine lv_icmp_ne (tgt := 311) hx hb dlaw_304 (by decide) (fun cc => ?_) (fun cc => ?_)
  · first | exact (cc rfl).elim | exact absurd cc rfl
  refine lv_iconst (v := 1) hx hb dlaw_307 (by decide) ?_
  refine lv_goto (tgt := 312) hx hb dlaw_308 (by decide) ?_
  exact law_end C hE hH (by omega) (by omega) dlaw_312
set_option maxHeartbeats 4000000 in
set_option maxRecDepth 100000 in
theorem law_255 {p : Program} {l : Launch} {e : Env} {s : State} {m : MethodId} {below : List Frame} {meth : Method} {c : Code} {E : Ev} {v2 v4 v5 v6 v7 : Int32} {bb : Nat} {S T : Nat → Nat} (C : CX p l e s m #[Value.ref (E.2.2.2.1 500)] meth c code 9 RL ret E) (hE : E.2.1 = s.heap.size) (hS : S 1 = 2 ∧ S 3 = 4) (hG : GI (fun _ => false) S T) : ∀ (k : Nat) (X : Kd) (z : Nat) (w : Wd) (H : Heap) (locs : List Loc) (ls : Array Slot) (cells slots : Nat) (T' : Nat → Nat) (hs : Nat → Nat → Nat), Cst w bb S T' k hs → und T' hs k = T → HQ E (Kx X) z w s H locs → lv_has ls 9 [(8, .int (nI (cnt (fun i => cs T i 0 == 2) (S 3)))), (7, .int v7), (6, .int v6), (5, .int v5), (4, .int v4), (3, .int (nI (T 0))), (2, .int v2), (1, rv E (some 0)), (0, .ref (E.2.2.2.1 500))] → cells ≤ 900 → slots ≤ 190000 → W p l e room_1 s m #[Value.ref (E.2.2.2.1 500)] below meth c H locs cells slots (lw_Z below #[Value.ref (E.2.2.2.1 500)] s) (F0 m 255 ls []) := by
  obtain ⟨hx, hb, hml, hown, hts, hKs, hT, hb0, hlocks, hret⟩ := id C
  intro k
  induction k with
  | zero =>
    intro X z w H locs ls cells slots T' hs hC hu hH hl h1 h2
    have e9 := hC.2.2.1.1
    refine hl_aload_n hx hb dlaw_255 rfl (lv_at hl 7 rfl) ?_
    refine lv_bipush (v := 9) hx hb dlaw_256 (by decide) ?_
    have q258 := n_count9 (X := X) hC.1
    refine hcV_i hx hb hml hown hts hKs hT hb0 hH (As := [.int 9]) (rest := []) (k_X12_count l E (Kx X) H.size 0 9 _ kx0 q258) (gV m3_17 m3_18 m3_19 m1_1 m3_20) hd_X12_count ⟨Nat.le_of_ble_eq_true rfl, Nat.le_of_ble_eq_true rfl, rfl, rfl⟩ rfl kx0 rfl rfl rfl hl.1 rfl rc0 rfl dlaw_258 ⟨rm_c (by omega), rm_s (by omega)⟩ (fun H locs hH => ?_)
    refine lv_if_le (tgt := 279) hx hb dlaw_261 (by decide) (fun cc => ?_) (fun cc => ?_)
    rotate_left
    · first | exact (cc (show wI w 1210 0 ≤ 0 by rw [e9]; decide)).elim | exact absurd cc (show wI w 1210 0 ≤ 0 by rw [e9]; decide)
    have hu : T' = T := hu
    rw [hu] at hC
    exact law_279 C hE hS hC hG hH hl h1 h2
  | succ k ih =>
    intro X z w H locs ls cells slots T' hs hC hu hH hl h1 h2
    have e9 := hC.2.2.1.1
    have k8 := hC.2.2.1.2.1
    obtain ⟨w1, e1, hC1⟩ := m_undo (X := X) hC
    refine hl_aload_n hx hb dlaw_255 rfl (lv_at hl 7 rfl) ?_
    refine lv_bipush (v := 9) hx hb dlaw_256 (by decide) ?_
    have q258 := n_count9 (X := X) hC.1
    refine hcV_i hx hb hml hown hts hKs hT hb0 hH (As := [.int 9]) (rest := []) (k_X12_count l E (Kx X) H.size 0 9 _ kx0 q258) (gV m3_17 m3_18 m3_19 m1_1 m3_20) hd_X12_count ⟨Nat.le_of_ble_eq_true rfl, Nat.le_of_ble_eq_true rfl, rfl, rfl⟩ rfl kx0 rfl rfl rfl hl.1 rfl rc0 rfl dlaw_258 ⟨rm_c (by omega), rm_s (by omega)⟩ (fun H locs hH => ?_)
    refine lv_if_le (tgt := 279) hx hb dlaw_261 (by decide) (fun cc => ?_) (fun cc => ?_)
    · first | exact (cc (show ¬ wI w 1210 0 ≤ 0 by rw [e9]; exact nI_nle (by omega) (by omega))).elim | exact absurd cc (show ¬ wI w 1210 0 ≤ 0 by rw [e9]; exact nI_nle (by omega) (by omega))
    refine hl_aload_n hx hb dlaw_264 rfl (lv_at hl 7 rfl) ?_
    refine hcV_i hx hb hml hown hts hKs hT hb0 hH (As := []) (rest := []) (k_NX12_undo l E (Kx X) H.size 0 _ kx0 e1) (gV m4_20 m4_21 m4_22 m1_1 m4_23) hd_NX12_undo ⟨Nat.le_of_ble_eq_true rfl, Nat.le_of_ble_eq_true rfl, rfl, rfl⟩ rfl kx0 rfl rfl rfl hl.1 rfl rc0 rfl dlaw_265 ⟨rm_c (by omega), rm_s (by omega)⟩ (fun H locs hH => ?_)
    refine hl_aload_n hx hb dlaw_268 rfl (lv_at hl 7 rfl) ?_
    refine lv_bipush (v := 9) hx hb dlaw_269 (by decide) ?_
    have q271 := n_count9 (X := X) hC1.1
    refine hcV_i hx hb hml hown hts hKs hT hb0 hH (As := [.int 9]) (rest := [.int (nI k)]) (k_X12_count l E (Kx X) H.size 0 9 _ kx0 q271) (gV m3_17 m3_18 m3_19 m1_1 m3_20) hd_X12_count ⟨Nat.le_of_ble_eq_true rfl, Nat.le_of_ble_eq_true rfl, rfl, rfl⟩ rfl kx0 rfl rfl rfl hl.1 rfl (rcI rc0) rfl dlaw_271 ⟨rm_c (by omega), rm_s (by omega)⟩ (fun H locs hH => ?_)
    refine lv_icmp_eq (tgt := 255) hx hb dlaw_274 (by decide) (fun cc => ?_) (fun cc => ?_)
    rotate_left
    · first | exact (cc (show nI k = wI w1 1210 0 from hC1.2.2.1.1.symm)).elim | exact absurd cc (show nI k = wI w1 1210 0 from hC1.2.2.1.1.symm)
    refine ih X _ w1 H locs ls cells slots (hs k) hs hC1 ?_ hH hl h1 h2
    rw [← hu]
    unfold und
    by_cases k0 : k = 0
    · rw [if_pos k0, k0]; rfl
    · rw [if_neg k0, if_neg (by omega)]
