set_option maxHeartbeats 4000000 in
set_option maxRecDepth 100000 in
theorem law_c0 {p : Program} {l : Launch} {e : Env} {s : State} {m : MethodId} {below : List Frame} {meth : Method} {c : Code} {E : Ev} {K : Kd} {b L : Nat} {xs : Nat → Int32} (hls : l.stackTraces = false) (hX : va_X b L xs s s.heap) (hbl : b < s.heap.size) (hbA : ¬ hA E b) (C : CX p l e s m #[Value.ref b] meth c code 10 RL ret E) {v1 v2 v3 v4 : Option Nat} {v5 : Int32} {w w' : Wd} {H : Heap} {locs : List Loc} {ls : Array Slot} {z jz : Nat} (hj : jz < 514) (hk : ∀ (H : Heap) (locs : List Loc) (ls : Array Slot) (z : Nat), HQ E K z w' s H locs → lv_has ls 10 [(5, .int v5), (4, rv E v4), (3, rv E v3), (2, rv E v2), (1, rv E v1), (0, .ref b)] → W p l e room_1 s m #[Value.ref b] below meth c H locs (439 + 7 * (jz + 1)) (21347 + 42 * (jz + 1)) (lw_Z below #[Value.ref b] s) (F0 m 2519 ls [])) (hH : HQ E K z w s H locs) (hl : lv_has ls 10 [(5, .int v5), (4, rv E v4), (3, rv E v3), (2, rv E v2), (1, rv E v1), (0, .ref b)]) (hf : f_law_c0 K L xs v1 v2 v3 v4 v5 w = some w') : W p l e room_1 s m #[Value.ref b] below meth c H locs (439 + 7 * jz) (21347 + 42 * jz) (lw_Z below #[Value.ref b] s) (F0 m 232 ls []) := by
  obtain ⟨hx, hb, hml, hown, hts, hKs, hT, hb0, hlocks, hret⟩ := id C
  have hc9 : (439 + 7 * jz) + 7 ≤ 601024 := by omega
  have hs9 : (21347 + 42 * jz) + 42 ≤ 7293034 := by omega
  unfold f_law_c0 at hf
  refine hl_aload_n hx hb dL_law_232 rfl (lv_at hl 4 rfl) ?_
  refine lv_aload_n hx hb dL_law_233 rfl (lv_at hl 5 rfl) ?_
  refine lv_iload hx hb dL_law_234 (lv_at hl 0 rfl) ?_
  refine lv_iconst (v := 1) hx hb dL_law_236 (by decide) ?_
  refine lv_iadd hx hb dL_law_237 ?_
  obtain ⟨j1, hj1, hf⟩ := bnd hf
  refine hw_sld hx hb hX hbl hbA hH hj1 dL_law_238 ?_
  refine lv_aload_n hx hb dL_law_239 rfl (lv_at hl 5 rfl) ?_
  refine lv_iload hx hb dL_law_240 (lv_at hl 0 rfl) ?_
  refine lv_iconst (v := 2) hx hb dL_law_242 (by decide) ?_
  refine lv_iadd hx hb dL_law_243 ?_
  obtain ⟨j2, hj2, hf⟩ := bnd hf
  refine hw_sld hx hb hX hbl hbA hH hj2 dL_law_244 ?_
  refine lv_aload_n hx hb dL_law_245 rfl (lv_at hl 5 rfl) ?_
  refine lv_iload hx hb dL_law_246 (lv_at hl 0 rfl) ?_
  refine lv_iconst (v := 3) hx hb dL_law_248 (by decide) ?_
  refine lv_iadd hx hb dL_law_249 ?_
  obtain ⟨j3, hj3, hf⟩ := bnd hf
  refine hw_sld hx hb hX hbl hbA hH hj3 dL_law_250 ?_
  refine lv_aload_n hx hb dL_law_251 rfl (lv_at hl 5 rfl) ?_
  refine lv_iload hx hb dL_law_252 (lv_at hl 0 rfl) ?_
  refine lv_iconst (v := 4) hx hb dL_law_254 (by decide) ?_
  refine lv_iadd hx hb dL_law_255 ?_
  obtain ⟨j4, hj4, hf⟩ := bnd hf
  refine hw_sld hx hb hX hbl hbA hH hj4 dL_law_256 ?_
  refine lv_aload_n hx hb dL_law_257 rfl (lv_at hl 5 rfl) ?_
  refine lv_iload hx hb dL_law_258 (lv_at hl 0 rfl) ?_
  refine lv_iconst (v := 5) hx hb dL_law_260 (by decide) ?_
  refine lv_iadd hx hb dL_law_261 ?_
  obtain ⟨j5, hj5, hf⟩ := bnd hf
  refine hw_sld hx hb hX hbl hbA hH hj5 dL_law_262 ?_
  obtain ⟨a6, ha6, hf⟩ := bnd hf
  replace ha6 := chk_some ha6
  obtain ⟨q7, hq7, hf⟩ := bnd hf
  refine hcV_i hx hb hml hown hts hKs hT hb0 hH (As := [.int ((xs j1)), .int ((xs j2)), .int ((xs j3)), .int ((xs j4)), .int ((xs j5))]) (rest := []) (k_X12_feed l E K H.size a6 (xs j1) (xs j2) (xs j3) (xs j4) (xs j5) w ha6.2 hq7) (gV m3_28 m3_29 m3_30 m1_1 m3_31) hd_X12_feed ⟨Nat.le_of_ble_eq_true rfl, Nat.le_of_ble_eq_true rfl, rfl, rfl⟩ ha6.1 ha6.2 rfl rfl rfl hl.1 rfl rc0 rfl dL_law_263 ⟨(Nat.le_trans (Nat.add_le_add_left (Nat.le_of_ble_eq_true rfl : 0 ≤ 7) _) hc9), (Nat.le_trans (Nat.add_le_add_left (Nat.le_of_ble_eq_true rfl : 0 ≤ 42) _) hs9)⟩ (fun H locs hH => ?_)
  refine hl_aload_n hx hb dL_law_266 rfl (lv_at hl 3 rfl) ?_
  refine lv_aload_n hx hb dL_law_267 rfl (lv_at hl 5 rfl) ?_
  refine lv_iload hx hb dL_law_268 (lv_at hl 0 rfl) ?_
  refine lv_iconst (v := 1) hx hb dL_law_270 (by decide) ?_
  refine lv_iadd hx hb dL_law_271 ?_
  obtain ⟨j8, hj8, hf⟩ := bnd hf
  refine hw_sld hx hb hX hbl hbA hH hj8 dL_law_272 ?_
  refine lv_aload_n hx hb dL_law_273 rfl (lv_at hl 5 rfl) ?_
  refine lv_iload hx hb dL_law_274 (lv_at hl 0 rfl) ?_
  refine lv_iconst (v := 2) hx hb dL_law_276 (by decide) ?_
  refine lv_iadd hx hb dL_law_277 ?_
  obtain ⟨j9, hj9, hf⟩ := bnd hf
  refine hw_sld hx hb hX hbl hbA hH hj9 dL_law_278 ?_
  refine lv_aload_n hx hb dL_law_279 rfl (lv_at hl 5 rfl) ?_
  refine lv_iload hx hb dL_law_280 (lv_at hl 0 rfl) ?_
  refine lv_iconst (v := 3) hx hb dL_law_282 (by decide) ?_
  refine lv_iadd hx hb dL_law_283 ?_
  obtain ⟨j10, hj10, hf⟩ := bnd hf
  refine hw_sld hx hb hX hbl hbA hH hj10 dL_law_284 ?_
  refine lv_aload_n hx hb dL_law_285 rfl (lv_at hl 5 rfl) ?_
  refine lv_iload hx hb dL_law_286 (lv_at hl 0 rfl) ?_
  refine lv_iconst (v := 4) hx hb dL_law_288 (by decide) ?_
  refine lv_iadd hx hb dL_law_289 ?_
  obtain ⟨j11, hj11, hf⟩ := bnd hf
  refine hw_sld hx hb hX hbl hbA hH hj11 dL_law_290 ?_
  refine lv_aload_n hx hb dL_law_291 rfl (lv_at hl 5 rfl) ?_
  refine lv_iload hx hb dL_law_292 (lv_at hl 0 rfl) ?_
  refine lv_iconst (v := 5) hx hb dL_law_294 (by decide) ?_
  refine lv_iadd hx hb dL_law_295 ?_
  obtain ⟨j12, hj12, hf⟩ := bnd hf
  refine hw_sld hx hb hX hbl hbA hH hj12 dL_law_296 ?_
  obtain ⟨a13, ha13, hf⟩ := bnd hf
  replace ha13 := chk_some ha13
  obtain ⟨q14, hq14, hf⟩ := bnd hf
  refine hcV_i hx hb hml hown hts hKs hT hb0 hH (As := [.int ((xs j8)), .int ((xs j9)), .int ((xs j10)), .int ((xs j11)), .int ((xs j12))]) (rest := [.int (q7.1)]) (k_X13_feed l E K H.size a13 (xs j8) (xs j9) (xs j10) (xs j11) (xs j12) q7.2 ha13.2 hq14) (gV m8_205 m8_206 m8_207 m1_16 m8_208) hd_X13_feed ⟨Nat.le_of_ble_eq_true rfl, Nat.le_of_ble_eq_true rfl, rfl, rfl⟩ ha13.1 ha13.2 rfl rfl rfl hl.1 rfl (rcI rc0) rfl dL_law_297 ⟨(Nat.le_trans (Nat.add_le_add_left (Nat.le_of_ble_eq_true rfl : 0 ≤ 7) _) hc9), (Nat.le_trans (Nat.add_le_add_left (Nat.le_of_ble_eq_true rfl : 0 ≤ 42) _) hs9)⟩ (fun H locs hH => ?_)
  refine lv_icmp_eq (tgt := 2519) hx hb dL_law_300 (by decide) (fun c15 => ?_) (fun c15 => ?_)
  · replace hf := (if_pos c15).symm.trans hf
    cases hf
    refine W.widen (k := 439 + 7 * (jz + 1)) (n := 21347 + 42 * (jz + 1)) (by omega) (by omega) ?_
    exact hk _ _ _ _ hH (lv_sub hl [0, 1, 2, 3, 4, 5] rfl)
  · replace hf := (if_neg c15).symm.trans hf
    refine lv_iconst (v := 0) hx hb dL_law_303 (by decide) ?_
    cases hf
set_option maxHeartbeats 4000000 in
set_option maxRecDepth 100000 in
theorem law_c1 {p : Program} {l : Launch} {e : Env} {s : State} {m : MethodId} {below : List Frame} {meth : Method} {c : Code} {E : Ev} {K : Kd} {b L : Nat} {xs : Nat → Int32} (hls : l.stackTraces = false) (hX : va_X b L xs s s.heap) (hbl : b < s.heap.size) (hbA : ¬ hA E b) (C : CX p l e s m #[Value.ref b] meth c code 10 RL ret E) {v1 v2 v3 v4 : Option Nat} {v5 : Int32} {w w' : Wd} {H : Heap} {locs : List Loc} {ls : Array Slot} {z jz : Nat} (hj : jz < 514) (hk : ∀ (H : Heap) (locs : List Loc) (ls : Array Slot) (z : Nat), HQ E K z w' s H locs → lv_has ls 10 [(5, .int v5), (4, rv E v4), (3, rv E v3), (2, rv E v2), (1, rv E v1), (0, .ref b)] → W p l e room_1 s m #[Value.ref b] below meth c H locs (439 + 7 * (jz + 1)) (21347 + 42 * (jz + 1)) (lw_Z below #[Value.ref b] s) (F0 m 2519 ls [])) (hH : HQ E K z w s H locs) (hl : lv_has ls 10 [(5, .int v5), (4, rv E v4), (3, rv E v3), (2, rv E v2), (1, rv E v1), (0, .ref b)]) (hf : f_law_c1 K L xs v1 v2 v3 v4 v5 w = some w') : W p l e room_1 s m #[Value.ref b] below meth c H locs (439 + 7 * jz) (21347 + 42 * jz) (lw_Z below #[Value.ref b] s) (F0 m 305 ls []) := by
  obtain ⟨hx, hb, hml, hown, hts, hKs, hT, hb0, hlocks, hret⟩ := id C
  have hc9 : (439 + 7 * jz) + 7 ≤ 601024 := by omega
  have hs9 : (21347 + 42 * jz) + 42 ≤ 7293034 := by omega
  unfold f_law_c1 at hf
  refine hl_aload_n hx hb dL_law_305 rfl (lv_at hl 4 rfl) ?_
  refine lv_aload_n hx hb dL_law_306 rfl (lv_at hl 5 rfl) ?_
  refine lv_iload hx hb dL_law_307 (lv_at hl 0 rfl) ?_
  refine lv_iconst (v := 1) hx hb dL_law_309 (by decide) ?_
  refine lv_iadd hx hb dL_law_310 ?_
  obtain ⟨j1, hj1, hf⟩ := bnd hf
  refine hw_sld hx hb hX hbl hbA hH hj1 dL_law_311 ?_
  obtain ⟨a2, ha2, hf⟩ := bnd hf
  replace ha2 := chk_some ha2
  obtain ⟨q3, hq3, hf⟩ := bnd hf
  refine hcV_i hx hb hml hown hts hKs hT hb0 hH (As := [.int ((xs j1))]) (rest := []) (k_X12_truncate l E K H.size a2 (xs j1) w ha2.2 hq3) (gV m3_36 m3_37 m3_38 m1_1 m3_39) hd_X12_truncate ⟨Nat.le_of_ble_eq_true rfl, Nat.le_of_ble_eq_true rfl, rfl, rfl⟩ ha2.1 ha2.2 rfl rfl rfl hl.1 rfl rc0 rfl dL_law_312 ⟨(Nat.le_trans (Nat.add_le_add_left (Nat.le_of_ble_eq_true rfl : 0 ≤ 7) _) hc9), (Nat.le_trans (Nat.add_le_add_left (Nat.le_of_ble_eq_true rfl : 0 ≤ 42) _) hs9)⟩ (fun H locs hH => ?_)
  refine hl_aload_n hx hb dL_law_315 rfl (lv_at hl 3 rfl) ?_
  refine lv_aload_n hx hb dL_law_316 rfl (lv_at hl 5 rfl) ?_
  refine lv_iload hx hb dL_law_317 (lv_at hl 0 rfl) ?_
  refine lv_iconst (v := 1) hx hb dL_law_319 (by decide) ?_
  refine lv_iadd hx hb dL_law_320 ?_
  obtain ⟨j4, hj4, hf⟩ := bnd hf
  refine hw_sld hx hb hX hbl hbA hH hj4 dL_law_321 ?_
  obtain ⟨a5, ha5, hf⟩ := bnd hf
  replace ha5 := chk_some ha5
  obtain ⟨q6, hq6, hf⟩ := bnd hf
  refine hcV_i hx hb hml hown hts hKs hT hb0 hH (As := [.int ((xs j4))]) (rest := [.int (b2i q3.1)]) (k_X13_truncate l E K H.size a5 (xs j4) q3.2 ha5.2 hq6) (gV m8_209 m8_210 m8_211 m1_16 m8_212) hd_X13_truncate ⟨Nat.le_of_ble_eq_true rfl, Nat.le_of_ble_eq_true rfl, rfl, rfl⟩ ha5.1 ha5.2 rfl rfl rfl hl.1 rfl (rcI rc0) rfl dL_law_322 ⟨(Nat.le_trans (Nat.add_le_add_left (Nat.le_of_ble_eq_true rfl : 0 ≤ 7) _) hc9), (Nat.le_trans (Nat.add_le_add_left (Nat.le_of_ble_eq_true rfl : 0 ≤ 42) _) hs9)⟩ (fun H locs hH => ?_)
  refine lv_icmp_eq (tgt := 2519) hx hb dL_law_325 (by decide) (fun c7 => ?_) (fun c7 => ?_)
  · replace hf := (if_pos c7).symm.trans hf
    cases hf
    refine W.widen (k := 439 + 7 * (jz + 1)) (n := 21347 + 42 * (jz + 1)) (by omega) (by omega) ?_
    exact hk _ _ _ _ hH (lv_sub hl [0, 1, 2, 3, 4, 5] rfl)
  · replace hf := (if_neg c7).symm.trans hf
    refine lv_iconst (v := 0) hx hb dL_law_328 (by decide) ?_
    cases hf
set_option maxHeartbeats 4000000 in
set_option maxRecDepth 100000 in
theorem law_c2 {p : Program} {l : Launch} {e : Env} {s : State} {m : MethodId} {below : List Frame} {meth : Method} {c : Code} {E : Ev} {K : Kd} {b L : Nat} {xs : Nat → Int32} (hls : l.stackTraces = false) (hX : va_X b L xs s s.heap) (hbl : b < s.heap.size) (hbA : ¬ hA E b) (C : CX p l e s m #[Value.ref b] meth c code 10 RL ret E) {v1 v2 v3 v4 : Option Nat} {v5 : Int32} {w w' : Wd} {H : Heap} {locs : List Loc} {ls : Array Slot} {z jz : Nat} (hj : jz < 514) (hk : ∀ (H : Heap) (locs : List Loc) (ls : Array Slot) (z : Nat), HQ E K z w' s H locs → lv_has ls 10 [(5, .int v5), (4, rv E v4), (3, rv E v3), (2, rv E v2), (1, rv E v1), (0, .ref b)] → W p l e room_1 s m #[Value.ref b] below meth c H locs (439 + 7 * (jz + 1)) (21347 + 42 * (jz + 1)) (lw_Z below #[Value.ref b] s) (F0 m 2519 ls [])) (hH : HQ E K z w s H locs) (hl : lv_has ls 10 [(5, .int v5), (4, rv E v4), (3, rv E v3), (2, rv E v2), (1, rv E v1), (0, .ref b)]) (hf : f_law_c2 K L xs v1 v2 v3 v4 v5 w = some w') : W p l e room_1 s m #[Value.ref b] below meth c H locs (439 + 7 * jz) (21347 + 42 * jz) (lw_Z below #[Value.ref b] s) (F0 m 330 ls []) := by
  obtain ⟨hx, hb, hml, hown, hts, hKs, hT, hb0, hlocks, hret⟩ := id C
  have hc9 : (439 + 7 * jz) + 7 ≤ 601024 := by omega
  have hs9 : (21347 + 42 * jz) + 42 ≤ 7293034 := by omega
  unfold f_law_c2 at hf
  refine hl_aload_n hx hb dL_law_330 rfl (lv_at hl 4 rfl) ?_
  obtain ⟨a1, ha1, hf⟩ := bnd hf
  replace ha1 := chk_some ha1
  obtain ⟨q2, hq2, hf⟩ := bnd hf
  refine hcV_i hx hb hml hown hts hKs hT hb0 hH (As := []) (rest := []) (k_X12_parse l E K H.size a1 w ha1.2 hq2) (gV m3_40 m3_41 m3_42 m1_1 m3_43) hd_X12_parse ⟨Nat.le_of_ble_eq_true rfl, Nat.le_of_ble_eq_true rfl, rfl, rfl⟩ ha1.1 ha1.2 rfl rfl rfl hl.1 rfl rc0 rfl dL_law_331 ⟨(Nat.le_trans (Nat.add_le_add_left (Nat.le_of_ble_eq_true rfl : 0 ≤ 7) _) hc9), (Nat.le_trans (Nat.add_le_add_left (Nat.le_of_ble_eq_true rfl : 0 ≤ 42) _) hs9)⟩ (fun H locs hH => ?_)
  refine hl_aload_n hx hb dL_law_334 rfl (lv_at hl 3 rfl) ?_
  obtain ⟨a3, ha3, hf⟩ := bnd hf
  replace ha3 := chk_some ha3
  obtain ⟨q4, hq4, hf⟩ := bnd hf
  refine hcV_i hx hb hml hown hts hKs hT hb0 hH (As := []) (rest := [.int (q2.1)]) (k_X13_parse l E K H.size a3 q2.2 ha3.2 hq4) (gV m8_213 m8_214 m8_215 m1_16 m8_216) hd_X13_parse ⟨Nat.le_of_ble_eq_true rfl, Nat.le_of_ble_eq_true rfl, rfl, rfl⟩ ha3.1 ha3.2 rfl rfl rfl hl.1 rfl (rcI rc0) rfl dL_law_335 ⟨(Nat.le_trans (Nat.add_le_add_left (Nat.le_of_ble_eq_true rfl : 0 ≤ 7) _) hc9), (Nat.le_trans (Nat.add_le_add_left (Nat.le_of_ble_eq_true rfl : 0 ≤ 42) _) hs9)⟩ (fun H locs hH => ?_)
  refine lv_icmp_eq (tgt := 2519) hx hb dL_law_338 (by decide) (fun c5 => ?_) (fun c5 => ?_)
  · replace hf := (if_pos c5).symm.trans hf
    cases hf
    refine W.widen (k := 439 + 7 * (jz + 1)) (n := 21347 + 42 * (jz + 1)) (by omega) (by omega) ?_
    exact hk _ _ _ _ hH (lv_sub hl [0, 1, 2, 3, 4, 5] rfl)
  · replace hf := (if_neg c5).symm.trans hf
    refine lv_iconst (v := 0) hx hb dL_law_341 (by decide) ?_
    cases hf
set_option maxHeartbeats 4000000 in
set_option maxRecDepth 100000 in
theorem law_c3 {p : Program} {l : Launch} {e : Env} {s : State} {m : MethodId} {below : List Frame} {meth : Method} {c : Code} {E : Ev} {K : Kd} {b L : Nat} {xs : Nat → Int32} (hls : l.stackTraces = false) (hX : va_X b L xs s s.heap) (hbl : b < s.heap.size) (hbA : ¬ hA E b) (C : CX p l e s m #[Value.ref b] meth c code 10 RL ret E) {v1 v2 v3 v4 : Option Nat} {v5 : Int32} {w w' : Wd} {H : Heap} {locs : List Loc} {ls : Array Slot} {z jz : Nat} (hj : jz < 514) (hk : ∀ (H : Heap) (locs : List Loc) (ls : Array Slot) (z : Nat), HQ E K z w' s H locs → lv_has ls 10 [(5, .int v5), (4, rv E v4), (3, rv E v3), (2, rv E v2), (1, rv E v1), (0, .ref b)] → W p l e room_1 s m #[Value.ref b] below meth c H locs (439 + 7 * (jz + 1)) (21347 + 42 * (jz + 1)) (lw_Z below #[Value.ref b] s) (F0 m 2519 ls [])) (hH : HQ E K z w s H locs) (hl : lv_has ls 10 [(5, .int v5), (4, rv E v4), (3, rv E v3), (2, rv E v2), (1, rv E v1), (0, .ref b)]) (hf : f_law_c3 K L xs v1 v2 v3 v4 v5 w = some w') : W p l e room_1 s m #[Value.ref b] below meth c H locs (439 + 7 * jz) (21347 + 42 * jz) (lw_Z below #[Value.ref b] s) (F0 m 343 ls []) := by
  obtain ⟨hx, hb, hml, hown, hts, hKs, hT, hb0, hlocks, hret⟩ := id C
  have hc9 : (439 + 7 * jz) + 7 ≤ 601024 := by omega
  have hs9 : (21347 + 42 * jz) + 42 ≤ 7293034 := by omega
  unfold f_law_c3 at hf
  refine hl_aload_n hx hb dL_law_343 rfl (lv_at hl 4 rfl) ?_
  obtain ⟨a1, ha1, hf⟩ := bnd hf
  replace ha1 := chk_some ha1
  obtain ⟨q2, hq2, hf⟩ := bnd hf
  refine hcV_i hx hb hml hown hts hKs hT hb0 hH (As := []) (rest := []) (k_X12_errorCode l E K H.size a1 w ha1.2 hq2) (gV m3_230 m3_231 m3_232 m1_1 m3_233) hd_X12_errorCode ⟨Nat.le_of_ble_eq_true rfl, Nat.le_of_ble_eq_true rfl, rfl, rfl⟩ ha1.1 ha1.2 rfl rfl rfl hl.1 rfl rc0 rfl dL_law_344 ⟨(Nat.le_trans (Nat.add_le_add_left (Nat.le_of_ble_eq_true rfl : 0 ≤ 7) _) hc9), (Nat.le_trans (Nat.add_le_add_left (Nat.le_of_ble_eq_true rfl : 0 ≤ 42) _) hs9)⟩ (fun H locs hH => ?_)
  refine hl_aload_n hx hb dL_law_347 rfl (lv_at hl 3 rfl) ?_
  obtain ⟨a3, ha3, hf⟩ := bnd hf
  replace ha3 := chk_some ha3
  obtain ⟨q4, hq4, hf⟩ := bnd hf
  refine hcV_i hx hb hml hown hts hKs hT hb0 hH (As := []) (rest := [.int (q2.1)]) (k_X13_errorCode l E K H.size a3 q2.2 ha3.2 hq4) (gV m9_155 m9_156 m9_157 m1_16 m9_158) hd_X13_errorCode ⟨Nat.le_of_ble_eq_true rfl, Nat.le_of_ble_eq_true rfl, rfl, rfl⟩ ha3.1 ha3.2 rfl rfl rfl hl.1 rfl (rcI rc0) rfl dL_law_348 ⟨(Nat.le_trans (Nat.add_le_add_left (Nat.le_of_ble_eq_true rfl : 0 ≤ 7) _) hc9), (Nat.le_trans (Nat.add_le_add_left (Nat.le_of_ble_eq_true rfl : 0 ≤ 42) _) hs9)⟩ (fun H locs hH => ?_)
  refine lv_icmp_eq (tgt := 2519) hx hb dL_law_351 (by decide) (fun c5 => ?_) (fun c5 => ?_)
  · replace hf := (if_pos c5).symm.trans hf
    cases hf
    refine W.widen (k := 439 + 7 * (jz + 1)) (n := 21347 + 42 * (jz + 1)) (by omega) (by omega) ?_
    exact hk _ _ _ _ hH (lv_sub hl [0, 1, 2, 3, 4, 5] rfl)
  · replace hf := (if_neg c5).symm.trans hf
    refine lv_iconst (v := 0) hx hb dL_law_354 (by decide) ?_
    cases hf
set_option maxHeartbeats 4000000 in
set_option maxRecDepth 100000 in
theorem law_c4 {p : Program} {l : Launch} {e : Env} {s : State} {m : MethodId} {below : List Frame} {meth : Method} {c : Code} {E : Ev} {K : Kd} {b L : Nat} {xs : Nat → Int32} (hls : l.stackTraces = false) (hX : va_X b L xs s s.heap) (hbl : b < s.heap.size) (hbA : ¬ hA E b) (C : CX p l e s m #[Value.ref b] meth c code 10 RL ret E) {v1 v2 v3 v4 : Option Nat} {v5 : Int32} {w w' : Wd} {H : Heap} {locs : List Loc} {ls : Array Slot} {z jz : Nat} (hj : jz < 514) (hk : ∀ (H : Heap) (locs : List Loc) (ls : Array Slot) (z : Nat), HQ E K z w' s H locs → lv_has ls 10 [(5, .int v5), (4, rv E v4), (3, rv E v3), (2, rv E v2), (1, rv E v1), (0, .ref b)] → W p l e room_1 s m #[Value.ref b] below meth c H locs (439 + 7 * (jz + 1)) (21347 + 42 * (jz + 1)) (lw_Z below #[Value.ref b] s) (F0 m 2519 ls [])) (hH : HQ E K z w s H locs) (hl : lv_has ls 10 [(5, .int v5), (4, rv E v4), (3, rv E v3), (2, rv E v2), (1, rv E v1), (0, .ref b)]) (hf : f_law_c4 K L xs v1 v2 v3 v4 v5 w = some w') : W p l e room_1 s m #[Value.ref b] below meth c H locs (439 + 7 * jz) (21347 + 42 * jz) (lw_Z below #[Value.ref b] s) (F0 m 356 ls []) := by
  obtain ⟨hx, hb, hml, hown, hts, hKs, hT, hb0, hlocks, hret⟩ := id C
  have hc9 : (439 + 7 * jz) + 7 ≤ 601024 := by omega
  have hs9 : (21347 + 42 * jz) + 42 ≤ 7293034 := by omega
  unfold f_law_c4 at hf
  refine hl_aload_n hx hb dL_law_356 rfl (lv_at hl 4 rfl) ?_
  obtain ⟨a1, ha1, hf⟩ := bnd hf
  replace ha1 := chk_some ha1
  obtain ⟨q2, hq2, hf⟩ := bnd hf
  refine hcV_i hx hb hml hown hts hKs hT hb0 hH (As := []) (rest := []) (k_X12_errorOffset l E K H.size a1 w ha1.2 hq2) (gV m3_234 m3_235 m3_236 m1_1 m3_237) hd_X12_errorOffset ⟨Nat.le_of_ble_eq_true rfl, Nat.le_of_ble_eq_true rfl, rfl, rfl⟩ ha1.1 ha1.2 rfl rfl rfl hl.1 rfl rc0 rfl dL_law_357 ⟨(Nat.le_trans (Nat.add_le_add_left (Nat.le_of_ble_eq_true rfl : 0 ≤ 7) _) hc9), (Nat.le_trans (Nat.add_le_add_left (Nat.le_of_ble_eq_true rfl : 0 ≤ 42) _) hs9)⟩ (fun H locs hH => ?_)
  refine hl_aload_n hx hb dL_law_360 rfl (lv_at hl 3 rfl) ?_
  obtain ⟨a3, ha3, hf⟩ := bnd hf
  replace ha3 := chk_some ha3
  obtain ⟨q4, hq4, hf⟩ := bnd hf
  refine hcV_i hx hb hml hown hts hKs hT hb0 hH (As := []) (rest := [.int (q2.1)]) (k_X13_errorOffset l E K H.size a3 q2.2 ha3.2 hq4) (gV m9_159 m9_160 m9_161 m1_16 m9_162) hd_X13_errorOffset ⟨Nat.le_of_ble_eq_true rfl, Nat.le_of_ble_eq_true rfl, rfl, rfl⟩ ha3.1 ha3.2 rfl rfl rfl hl.1 rfl (rcI rc0) rfl dL_law_361 ⟨(Nat.le_trans (Nat.add_le_add_left (Nat.le_of_ble_eq_true rfl : 0 ≤ 7) _) hc9), (Nat.le_trans (Nat.add_le_add_left (Nat.le_of_ble_eq_true rfl : 0 ≤ 42) _) hs9)⟩ (fun H locs hH => ?_)
  refine lv_icmp_eq (tgt := 2519) hx hb dL_law_364 (by decide) (fun c5 => ?_) (fun c5 => ?_)
  · replace hf := (if_pos c5).symm.trans hf
    cases hf
    refine W.widen (k := 439 + 7 * (jz + 1)) (n := 21347 + 42 * (jz + 1)) (by omega) (by omega) ?_
    exact hk _ _ _ _ hH (lv_sub hl [0, 1, 2, 3, 4, 5] rfl)
  · replace hf := (if_neg c5).symm.trans hf
    refine lv_iconst (v := 0) hx hb dL_law_367 (by decide) ?_
    cases hf
set_option maxHeartbeats 4000000 in
set_option maxRecDepth 100000 in
theorem law_c5 {p : Program} {l : Launch} {e : Env} {s : State} {m : MethodId} {below : List Frame} {meth : Method} {c : Code} {E : Ev} {K : Kd} {b L : Nat} {xs : Nat → Int32} (hls : l.stackTraces = false) (hX : va_X b L xs s s.heap) (hbl : b < s.heap.size) (hbA : ¬ hA E b) (C : CX p l e s m #[Value.ref b] meth c code 10 RL ret E) {v1 v2 v3 v4 : Option Nat} {v5 : Int32} {w w' : Wd} {H : Heap} {locs : List Loc} {ls : Array Slot} {z jz : Nat} (hj : jz < 514) (hk : ∀ (H : Heap) (locs : List Loc) (ls : Array Slot) (z : Nat), HQ E K z w' s H locs → lv_has ls 10 [(5, .int v5), (4, rv E v4), (3, rv E v3), (2, rv E v2), (1, rv E v1), (0, .ref b)] → W p l e room_1 s m #[Value.ref b] below meth c H locs (439 + 7 * (jz + 1)) (21347 + 42 * (jz + 1)) (lw_Z below #[Value.ref b] s) (F0 m 2519 ls [])) (hH : HQ E K z w s H locs) (hl : lv_has ls 10 [(5, .int v5), (4, rv E v4), (3, rv E v3), (2, rv E v2), (1, rv E v1), (0, .ref b)]) (hf : f_law_c5 K L xs v1 v2 v3 v4 v5 w = some w') : W p l e room_1 s m #[Value.ref b] below meth c H locs (439 + 7 * jz) (21347 + 42 * jz) (lw_Z below #[Value.ref b] s) (F0 m 369 ls []) := by
  obtain ⟨hx, hb, hml, hown, hts, hKs, hT, hb0, hlocks, hret⟩ := id C
  have hc9 : (439 + 7 * jz) + 7 ≤ 601024 := by omega
  have hs9 : (21347 + 42 * jz) + 42 ≤ 7293034 := by omega
  unfold f_law_c5 at hf
  refine hl_aload_n hx hb dL_law_369 rfl (lv_at hl 4 rfl) ?_
  refine lv_aload_n hx hb dL_law_370 rfl (lv_at hl 5 rfl) ?_
  refine lv_iload hx hb dL_law_371 (lv_at hl 0 rfl) ?_
  refine lv_iconst (v := 1) hx hb dL_law_373 (by decide) ?_
  refine lv_iadd hx hb dL_law_374 ?_
  obtain ⟨j1, hj1, hf⟩ := bnd hf
  refine hw_sld hx hb hX hbl hbA hH hj1 dL_law_375 ?_
  obtain ⟨a2, ha2, hf⟩ := bnd hf
  replace ha2 := chk_some ha2
  obtain ⟨q3, hq3, hf⟩ := bnd hf
  refine hcV_i hx hb hml hown hts hKs hT hb0 hH (As := [.int ((xs j1))]) (rest := []) (k_X12_count l E K H.size a2 (xs j1) w ha2.2 hq3) (gV m3_238 m3_239 m4_0 m1_1 m4_1) hd_X12_count ⟨Nat.le_of_ble_eq_true rfl, Nat.le_of_ble_eq_true rfl, rfl, rfl⟩ ha2.1 ha2.2 rfl rfl rfl hl.1 rfl rc0 rfl dL_law_376 ⟨(Nat.le_trans (Nat.add_le_add_left (Nat.le_of_ble_eq_true rfl : 0 ≤ 7) _) hc9), (Nat.le_trans (Nat.add_le_add_left (Nat.le_of_ble_eq_true rfl : 0 ≤ 42) _) hs9)⟩ (fun H locs hH => ?_)
  refine hl_aload_n hx hb dL_law_379 rfl (lv_at hl 3 rfl) ?_
  refine lv_aload_n hx hb dL_law_380 rfl (lv_at hl 5 rfl) ?_
  refine lv_iload hx hb dL_law_381 (lv_at hl 0 rfl) ?_
  refine lv_iconst (v := 1) hx hb dL_law_383 (by decide) ?_
  refine lv_iadd hx hb dL_law_384 ?_
  obtain ⟨j4, hj4, hf⟩ := bnd hf
  refine hw_sld hx hb hX hbl hbA hH hj4 dL_law_385 ?_
  obtain ⟨a5, ha5, hf⟩ := bnd hf
  replace ha5 := chk_some ha5
  obtain ⟨q6, hq6, hf⟩ := bnd hf
  refine hcV_i hx hb hml hown hts hKs hT hb0 hH (As := [.int ((xs j4))]) (rest := [.int (q3.1)]) (k_X13_count l E K H.size a5 (xs j4) q3.2 ha5.2 hq6) (gV m8_175 m8_176 m8_177 m1_16 m8_178) hd_X13_count ⟨Nat.le_of_ble_eq_true rfl, Nat.le_of_ble_eq_true rfl, rfl, rfl⟩ ha5.1 ha5.2 rfl rfl rfl hl.1 rfl (rcI rc0) rfl dL_law_386 ⟨(Nat.le_trans (Nat.add_le_add_left (Nat.le_of_ble_eq_true rfl : 0 ≤ 7) _) hc9), (Nat.le_trans (Nat.add_le_add_left (Nat.le_of_ble_eq_true rfl : 0 ≤ 42) _) hs9)⟩ (fun H locs hH => ?_)
  refine lv_icmp_eq (tgt := 2519) hx hb dL_law_389 (by decide) (fun c7 => ?_) (fun c7 => ?_)
  · replace hf := (if_pos c7).symm.trans hf
    cases hf
    refine W.widen (k := 439 + 7 * (jz + 1)) (n := 21347 + 42 * (jz + 1)) (by omega) (by omega) ?_
    exact hk _ _ _ _ hH (lv_sub hl [0, 1, 2, 3, 4, 5] rfl)
  · replace hf := (if_neg c7).symm.trans hf
    refine lv_iconst (v := 0) hx hb dL_law_392 (by decide) ?_
    cases hf
set_option maxHeartbeats 4000000 in
set_option maxRecDepth 100000 in
theorem law_c6 {p : Program} {l : Launch} {e : Env} {s : State} {m : MethodId} {below : List Frame} {meth : Method} {c : Code} {E : Ev} {K : Kd} {b L : Nat} {xs : Nat → Int32} (hls : l.stackTraces = false) (hX : va_X b L xs s s.heap) (hbl : b < s.heap.size) (hbA : ¬ hA E b) (C : CX p l e s m #[Value.ref b] meth c code 10 RL ret E) {v1 v2 v3 v4 : Option Nat} {v5 : Int32} {w w' : Wd} {H : Heap} {locs : List Loc} {ls : Array Slot} {z jz : Nat} (hj : jz < 514) (hk : ∀ (H : Heap) (locs : List Loc) (ls : Array Slot) (z : Nat), HQ E K z w' s H locs → lv_has ls 10 [(5, .int v5), (4, rv E v4), (3, rv E v3), (2, rv E v2), (1, rv E v1), (0, .ref b)] → W p l e room_1 s m #[Value.ref b] below meth c H locs (439 + 7 * (jz + 1)) (21347 + 42 * (jz + 1)) (lw_Z below #[Value.ref b] s) (F0 m 2519 ls [])) (hH : HQ E K z w s H locs) (hl : lv_has ls 10 [(5, .int v5), (4, rv E v4), (3, rv E v3), (2, rv E v2), (1, rv E v1), (0, .ref b)]) (hf : f_law_c6 K L xs v1 v2 v3 v4 v5 w = some w') : W p l e room_1 s m #[Value.ref b] below meth c H locs (439 + 7 * jz) (21347 + 42 * jz) (lw_Z below #[Value.ref b] s) (F0 m 394 ls []) := by
  obtain ⟨hx, hb, hml, hown, hts, hKs, hT, hb0, hlocks, hret⟩ := id C
  have hc9 : (439 + 7 * jz) + 7 ≤ 601024 := by omega
  have hs9 : (21347 + 42 * jz) + 42 ≤ 7293034 := by omega
  unfold f_law_c6 at hf
  refine hl_aload_n hx hb dL_law_394 rfl (lv_at hl 4 rfl) ?_
  refine lv_aload_n hx hb dL_law_395 rfl (lv_at hl 5 rfl) ?_
  refine lv_iload hx hb dL_law_396 (lv_at hl 0 rfl) ?_
  refine lv_iconst (v := 1) hx hb dL_law_398 (by decide) ?_
  refine lv_iadd hx hb dL_law_399 ?_
  obtain ⟨j1, hj1, hf⟩ := bnd hf
  refine hw_sld hx hb hX hbl hbA hH hj1 dL_law_400 ?_
  refine hl_aload_n hx hb dL_law_401 rfl (lv_at hl 2 rfl) ?_
  obtain ⟨q2, hq2, hf⟩ := bnd hf
  refine hcW hH (vx_runSW (As := [rv E v1, .int ((xs j1)), rv E v3]) (rest := []) ⟨hx, hb, hml, hown, hts⟩ (k_L_find l hls E K H.size v1 (xs j1) v3 w hq2) (vx_cwSW (hh := [(0, 9, 12, 13)]) _ hts (gW m4_209 m4_210 m1_0 m4_211) rfl rfl rfl hs_L_find ⟨Nat.le_of_ble_eq_true rfl, Nat.le_of_ble_eq_true rfl⟩) ⟨HB.blind, HB.pre hKs hT hb0 hH⟩ rfl rfl hl.1 rfl (lv_room rc0) dL_law_402 ⟨(Nat.le_trans (Nat.add_le_add_left (Nat.le_of_ble_eq_true rfl : 1 ≤ 7) _) hc9), (Nat.le_trans (Nat.add_le_add_left (Nat.le_of_ble_eq_true rfl : 6 ≤ 42) _) hs9)⟩) (fun H locs hH => ?_)
  refine lv_istore (i := 6) (lv' := [(6, .int (q2.1)), (5, .int v5), (4, rv E v4), (3, rv E v3), (2, rv E v2), (1, rv E v1), (0, .ref b)]) hx hb dL_law_405 hl (by decide) rfl (fun ls hl => ?_)
  refine hl_aload_n hx hb dL_law_407 rfl (lv_at hl 4 rfl) ?_
  refine lv_aload_n hx hb dL_law_408 rfl (lv_at hl 6 rfl) ?_
  refine lv_iload hx hb dL_law_409 (lv_at hl 1 rfl) ?_
  refine lv_iconst (v := 1) hx hb dL_law_411 (by decide) ?_
  refine lv_iadd hx hb dL_law_412 ?_
  obtain ⟨j3, hj3, hf⟩ := bnd hf
  refine hw_sld hx hb hX hbl hbA hH hj3 dL_law_413 ?_
  obtain ⟨a4, ha4, hf⟩ := bnd hf
  replace ha4 := chk_some ha4
  obtain ⟨q5, hq5, hf⟩ := bnd hf
  refine hcV_i hx hb hml hown hts hKs hT hb0 hH (As := [.int ((xs j3))]) (rest := []) (k_X13_find l E K H.size a4 (xs j3) q2.2 ha4.2 hq5) (gV m9_163 m9_164 m9_165 m1_16 m9_166) hd_X13_find ⟨Nat.le_of_ble_eq_true rfl, Nat.le_of_ble_eq_true rfl, rfl, rfl⟩ ha4.1 ha4.2 rfl rfl rfl hl.1 rfl rc0 rfl dL_law_414 ⟨(Nat.le_trans (Nat.add_le_add_left (Nat.le_of_ble_eq_true rfl : 1 ≤ 7) _) hc9), (Nat.le_trans (Nat.add_le_add_left (Nat.le_of_ble_eq_true rfl : 6 ≤ 42) _) hs9)⟩ (fun H locs hH => ?_)
  refine lv_istore (i := 7) (lv' := [(7, .int (q5.1)), (6, .int (q2.1)), (5, .int v5), (4, rv E v4), (3, rv E v3), (2, rv E v2), (1, rv E v1), (0, .ref b)]) hx hb dL_law_417 hl (by decide) rfl (fun ls hl => ?_)
  refine hl_aload_n hx hb dL_law_419 rfl (lv_at hl 5 rfl) ?_
  obtain ⟨q6, hq6, hf⟩ := bnd hf
  refine hcV_i hx hb hml hown hts hKs hT hb0 hH (As := []) (rest := []) (k_X13_thrown l E K H.size a4 q5.2 ha4.2 hq6) (gV m7_60 m7_61 m7_62 m1_16 m7_63) hd_X13_thrown ⟨Nat.le_of_ble_eq_true rfl, Nat.le_of_ble_eq_true rfl, rfl, rfl⟩ ha4.1 ha4.2 rfl rfl rfl hl.1 rfl rc0 rfl dL_law_420 ⟨(Nat.le_trans (Nat.add_le_add_left (Nat.le_of_ble_eq_true rfl : 1 ≤ 7) _) hc9), (Nat.le_trans (Nat.add_le_add_left (Nat.le_of_ble_eq_true rfl : 6 ≤ 42) _) hs9)⟩ (fun H locs hH => ?_)
  refine lv_iload hx hb dL_law_423 (lv_at hl 1 rfl) ?_
  refine lv_icmp_eq (tgt := 430) hx hb dL_law_425 (by decide) (fun c7 => ?_) (fun c7 => ?_)
  · replace hf := (if_pos c7).symm.trans hf
    refine lv_iload hx hb dL_law_430 (lv_at hl 1 rfl) ?_
    refine lv_if_ne (tgt := 447) hx hb dL_law_432 (by decide) (fun c8 => ?_) (fun c8 => ?_)
    · replace hf := (if_neg c8).symm.trans hf
      refine lv_goto (tgt := 2519) hx hb dL_law_447 (by decide) ?_
      cases hf
      refine W.widen (k := 439 + 7 * (jz + 1)) (n := 21347 + 42 * (jz + 1)) (by omega) (by omega) ?_
      exact hk _ _ _ _ hH (lv_sub hl [2, 3, 4, 5, 6, 7] rfl)
    · replace hf := (if_pos c8).symm.trans hf
      refine hl_aload_n hx hb dL_law_435 rfl (lv_at hl 4 rfl) ?_
      refine lv_iconst (v := 0) hx hb dL_law_436 (by decide) ?_
      obtain ⟨a9, ha9, hf⟩ := bnd hf
      replace ha9 := cha_some ha9
      obtain ⟨j10, hj10, hf⟩ := bnd hf
      refine hw_lald hx hb hKs hH ha9.1 ha9.2 hj10 dL_law_437 ?_
      refine lv_iload hx hb dL_law_438 (lv_at hl 0 rfl) ?_
      refine lv_i2l (v := (q5.1.toInt64)) hx hb dL_law_440 rfl ?_
      refine W.lcmp hx hb dL_law_441 ?_
      refine lv_if_eq (tgt := 447) hx hb dL_law_442 (by decide) (fun c11 => ?_) (fun c11 => ?_)
      · replace hf := (if_pos c11).symm.trans hf
        refine lv_goto (tgt := 2519) hx hb dL_law_447 (by decide) ?_
        cases hf
        refine W.widen (k := 439 + 7 * (jz + 1)) (n := 21347 + 42 * (jz + 1)) (by omega) (by omega) ?_
        exact hk _ _ _ _ hH (lv_sub hl [2, 3, 4, 5, 6, 7] rfl)
      · replace hf := (if_neg c11).symm.trans hf
        refine lv_iconst (v := 0) hx hb dL_law_445 (by decide) ?_
        cases hf
  · replace hf := (if_neg c7).symm.trans hf
    refine lv_iconst (v := 0) hx hb dL_law_428 (by decide) ?_
    cases hf
set_option maxHeartbeats 4000000 in
set_option maxRecDepth 100000 in
theorem law_c7 {p : Program} {l : Launch} {e : Env} {s : State} {m : MethodId} {below : List Frame} {meth : Method} {c : Code} {E : Ev} {K : Kd} {b L : Nat} {xs : Nat → Int32} (hls : l.stackTraces = false) (hX : va_X b L xs s s.heap) (hbl : b < s.heap.size) (hbA : ¬ hA E b) (C : CX p l e s m #[Value.ref b] meth c code 10 RL ret E) {v1 v2 v3 v4 : Option Nat} {v5 : Int32} {w w' : Wd} {H : Heap} {locs : List Loc} {ls : Array Slot} {z jz : Nat} (hj : jz < 514) (hk : ∀ (H : Heap) (locs : List Loc) (ls : Array Slot) (z : Nat), HQ E K z w' s H locs → lv_has ls 10 [(5, .int v5), (4, rv E v4), (3, rv E v3), (2, rv E v2), (1, rv E v1), (0, .ref b)] → W p l e room_1 s m #[Value.ref b] below meth c H locs (439 + 7 * (jz + 1)) (21347 + 42 * (jz + 1)) (lw_Z below #[Value.ref b] s) (F0 m 2519 ls [])) (hH : HQ E K z w s H locs) (hl : lv_has ls 10 [(5, .int v5), (4, rv E v4), (3, rv E v3), (2, rv E v2), (1, rv E v1), (0, .ref b)]) (hf : f_law_c7 K L xs v1 v2 v3 v4 v5 w = some w') : W p l e room_1 s m #[Value.ref b] below meth c H locs (439 + 7 * jz) (21347 + 42 * jz) (lw_Z below #[Value.ref b] s) (F0 m 450 ls []) := by
  obtain ⟨hx, hb, hml, hown, hts, hKs, hT, hb0, hlocks, hret⟩ := id C
  have hc9 : (439 + 7 * jz) + 7 ≤ 601024 := by omega
  have hs9 : (21347 + 42 * jz) + 42 ≤ 7293034 := by omega
  unfold f_law_c7 at hf
  refine hl_aload_n hx hb dL_law_450 rfl (lv_at hl 4 rfl) ?_
  refine lv_aload_n hx hb dL_law_451 rfl (lv_at hl 5 rfl) ?_
  refine lv_iload hx hb dL_law_452 (lv_at hl 0 rfl) ?_
  refine lv_iconst (v := 1) hx hb dL_law_454 (by decide) ?_
  refine lv_iadd hx hb dL_law_455 ?_
  obtain ⟨j1, hj1, hf⟩ := bnd hf
  refine hw_sld hx hb hX hbl hbA hH hj1 dL_law_456 ?_
  refine hl_aload_n hx hb dL_law_457 rfl (lv_at hl 2 rfl) ?_
  obtain ⟨q2, hq2, hf⟩ := bnd hf
  refine hcW hH (vx_runSW (As := [rv E v1, .int ((xs j1)), rv E v3]) (rest := []) ⟨hx, hb, hml, hown, hts⟩ (k_L_isWorkingDay l hls E K H.size v1 (xs j1) v3 w hq2) (vx_cwSW (hh := [(0, 16, 19, 13)]) _ hts (gW m5_47 m5_48 m1_0 m5_49) rfl rfl rfl hs_L_isWorkingDay ⟨Nat.le_of_ble_eq_true rfl, Nat.le_of_ble_eq_true rfl⟩) ⟨HB.blind, HB.pre hKs hT hb0 hH⟩ rfl rfl hl.1 rfl (lv_room rc0) dL_law_458 ⟨(Nat.le_trans (Nat.add_le_add_left (Nat.le_of_ble_eq_true rfl : 1 ≤ 7) _) hc9), (Nat.le_trans (Nat.add_le_add_left (Nat.le_of_ble_eq_true rfl : 6 ≤ 42) _) hs9)⟩) (fun H locs hH => ?_)
  refine lv_istore (i := 6) (lv' := [(6, .int (q2.1)), (5, .int v5), (4, rv E v4), (3, rv E v3), (2, rv E v2), (1, rv E v1), (0, .ref b)]) hx hb dL_law_461 hl (by decide) rfl (fun ls hl => ?_)
  refine hl_aload_n hx hb dL_law_463 rfl (lv_at hl 4 rfl) ?_
  refine lv_aload_n hx hb dL_law_464 rfl (lv_at hl 6 rfl) ?_
  refine lv_iload hx hb dL_law_465 (lv_at hl 1 rfl) ?_
  refine lv_iconst (v := 1) hx hb dL_law_467 (by decide) ?_
  refine lv_iadd hx hb dL_law_468 ?_
  obtain ⟨j3, hj3, hf⟩ := bnd hf
  refine hw_sld hx hb hX hbl hbA hH hj3 dL_law_469 ?_
  obtain ⟨a4, ha4, hf⟩ := bnd hf
  replace ha4 := chk_some ha4
  obtain ⟨q5, hq5, hf⟩ := bnd hf
  refine hcV_i hx hb hml hown hts hKs hT hb0 hH (As := [.int ((xs j3))]) (rest := []) (k_X13_isWorkingDay l E K H.size a4 (xs j3) q2.2 ha4.2 hq5) (gV m7_80 m7_81 m7_82 m1_16 m7_83) hd_X13_isWorkingDay ⟨Nat.le_of_ble_eq_true rfl, Nat.le_of_ble_eq_true rfl, rfl, rfl⟩ ha4.1 ha4.2 rfl rfl rfl hl.1 rfl rc0 rfl dL_law_470 ⟨(Nat.le_trans (Nat.add_le_add_left (Nat.le_of_ble_eq_true rfl : 1 ≤ 7) _) hc9), (Nat.le_trans (Nat.add_le_add_left (Nat.le_of_ble_eq_true rfl : 6 ≤ 42) _) hs9)⟩ (fun H locs hH => ?_)
  refine lv_istore (i := 7) (lv' := [(7, .int (b2i q5.1)), (6, .int (q2.1)), (5, .int v5), (4, rv E v4), (3, rv E v3), (2, rv E v2), (1, rv E v1), (0, .ref b)]) hx hb dL_law_473 hl (by decide) rfl (fun ls hl => ?_)
  refine hl_aload_n hx hb dL_law_475 rfl (lv_at hl 5 rfl) ?_
  obtain ⟨q6, hq6, hf⟩ := bnd hf
  refine hcV_i hx hb hml hown hts hKs hT hb0 hH (As := []) (rest := []) (k_X13_thrown l E K H.size a4 q5.2 ha4.2 hq6) (gV m7_60 m7_61 m7_62 m1_16 m7_63) hd_X13_thrown ⟨Nat.le_of_ble_eq_true rfl, Nat.le_of_ble_eq_true rfl, rfl, rfl⟩ ha4.1 ha4.2 rfl rfl rfl hl.1 rfl rc0 rfl dL_law_476 ⟨(Nat.le_trans (Nat.add_le_add_left (Nat.le_of_ble_eq_true rfl : 1 ≤ 7) _) hc9), (Nat.le_trans (Nat.add_le_add_left (Nat.le_of_ble_eq_true rfl : 6 ≤ 42) _) hs9)⟩ (fun H locs hH => ?_)
  refine lv_iload hx hb dL_law_479 (lv_at hl 1 rfl) ?_
  refine lv_icmp_eq (tgt := 486) hx hb dL_law_481 (by decide) (fun c7 => ?_) (fun c7 => ?_)
  · replace hf := (if_pos c7).symm.trans hf
    refine lv_iload hx hb dL_law_486 (lv_at hl 1 rfl) ?_
    refine lv_if_ne (tgt := 510) hx hb dL_law_488 (by decide) (fun c8 => ?_) (fun c8 => ?_)
    · replace hf := (if_neg c8).symm.trans hf
      refine lv_goto (tgt := 2519) hx hb dL_law_510 (by decide) ?_
      cases hf
      refine W.widen (k := 439 + 7 * (jz + 1)) (n := 21347 + 42 * (jz + 1)) (by omega) (by omega) ?_
      exact hk _ _ _ _ hH (lv_sub hl [2, 3, 4, 5, 6, 7] rfl)
    · replace hf := (if_pos c8).symm.trans hf
      refine hl_aload_n hx hb dL_law_491 rfl (lv_at hl 4 rfl) ?_
      refine lv_iconst (v := 0) hx hb dL_law_492 (by decide) ?_
      obtain ⟨a9, ha9, hf⟩ := bnd hf
      replace ha9 := cha_some ha9
      obtain ⟨j10, hj10, hf⟩ := bnd hf
      refine hw_lald hx hb hKs hH ha9.1 ha9.2 hj10 dL_law_493 ?_
      refine lv_iload hx hb dL_law_494 (lv_at hl 0 rfl) ?_
      refine lv_if_eq (tgt := 503) hx hb dL_law_496 (by decide) (fun c11 => ?_) (fun c11 => ?_)
      · replace hf := (if_pos c11).symm.trans hf
        refine lv_lconst (v := 0) hx hb dL_law_503 rfl ?_
        refine W.lcmp hx hb dL_law_504 ?_
        refine lv_if_eq (tgt := 510) hx hb dL_law_505 (by decide) (fun c12 => ?_) (fun c12 => ?_)
        · replace hf := (if_pos c12).symm.trans hf
          refine lv_goto (tgt := 2519) hx hb dL_law_510 (by decide) ?_
          cases hf
          refine W.widen (k := 439 + 7 * (jz + 1)) (n := 21347 + 42 * (jz + 1)) (by omega) (by omega) ?_
          exact hk _ _ _ _ hH (lv_sub hl [2, 3, 4, 5, 6, 7] rfl)
        · replace hf := (if_neg c12).symm.trans hf
          refine lv_iconst (v := 0) hx hb dL_law_508 (by decide) ?_
          cases hf
      · replace hf := (if_neg c11).symm.trans hf
        refine lv_lconst (v := 1) hx hb dL_law_499 rfl ?_
        refine lv_goto (tgt := 504) hx hb dL_law_500 (by decide) ?_
        refine W.lcmp hx hb dL_law_504 ?_
        refine lv_if_eq (tgt := 510) hx hb dL_law_505 (by decide) (fun c13 => ?_) (fun c13 => ?_)
        · replace hf := (if_pos c13).symm.trans hf
          refine lv_goto (tgt := 2519) hx hb dL_law_510 (by decide) ?_
          cases hf
          refine W.widen (k := 439 + 7 * (jz + 1)) (n := 21347 + 42 * (jz + 1)) (by omega) (by omega) ?_
          exact hk _ _ _ _ hH (lv_sub hl [2, 3, 4, 5, 6, 7] rfl)
        · replace hf := (if_neg c13).symm.trans hf
          refine lv_iconst (v := 0) hx hb dL_law_508 (by decide) ?_
          cases hf
  · replace hf := (if_neg c7).symm.trans hf
    refine lv_iconst (v := 0) hx hb dL_law_484 (by decide) ?_
    cases hf
set_option maxHeartbeats 4000000 in
set_option maxRecDepth 100000 in
theorem law_c8 {p : Program} {l : Launch} {e : Env} {s : State} {m : MethodId} {below : List Frame} {meth : Method} {c : Code} {E : Ev} {K : Kd} {b L : Nat} {xs : Nat → Int32} (hls : l.stackTraces = false) (hX : va_X b L xs s s.heap) (hbl : b < s.heap.size) (hbA : ¬ hA E b) (C : CX p l e s m #[Value.ref b] meth c code 10 RL ret E) {v1 v2 v3 v4 : Option Nat} {v5 : Int32} {w w' : Wd} {H : Heap} {locs : List Loc} {ls : Array Slot} {z jz : Nat} (hj : jz < 514) (hk : ∀ (H : Heap) (locs : List Loc) (ls : Array Slot) (z : Nat), HQ E K z w' s H locs → lv_has ls 10 [(5, .int v5), (4, rv E v4), (3, rv E v3), (2, rv E v2), (1, rv E v1), (0, .ref b)] → W p l e room_1 s m #[Value.ref b] below meth c H locs (439 + 7 * (jz + 1)) (21347 + 42 * (jz + 1)) (lw_Z below #[Value.ref b] s) (F0 m 2519 ls [])) (hH : HQ E K z w s H locs) (hl : lv_has ls 10 [(5, .int v5), (4, rv E v4), (3, rv E v3), (2, rv E v2), (1, rv E v1), (0, .ref b)]) (hf : f_law_c8 K L xs v1 v2 v3 v4 v5 w = some w') : W p l e room_1 s m #[Value.ref b] below meth c H locs (439 + 7 * jz) (21347 + 42 * jz) (lw_Z below #[Value.ref b] s) (F0 m 513 ls []) := by
  obtain ⟨hx, hb, hml, hown, hts, hKs, hT, hb0, hlocks, hret⟩ := id C
  have hc9 : (439 + 7 * jz) + 7 ≤ 601024 := by omega
  have hs9 : (21347 + 42 * jz) + 42 ≤ 7293034 := by omega
  unfold f_law_c8 at hf
  refine hl_aload_n hx hb dL_law_513 rfl (lv_at hl 4 rfl) ?_
  refine lv_aload_n hx hb dL_law_514 rfl (lv_at hl 5 rfl) ?_
  refine lv_iload hx hb dL_law_515 (lv_at hl 0 rfl) ?_
  refine lv_iconst (v := 1) hx hb dL_law_517 (by decide) ?_
  refine lv_iadd hx hb dL_law_518 ?_
  obtain ⟨j1, hj1, hf⟩ := bnd hf
  refine hw_sld hx hb hX hbl hbA hH hj1 dL_law_519 ?_
  refine lv_aload_n hx hb dL_law_520 rfl (lv_at hl 5 rfl) ?_
  refine lv_iload hx hb dL_law_521 (lv_at hl 0 rfl) ?_
  refine lv_iconst (v := 2) hx hb dL_law_523 (by decide) ?_
  refine lv_iadd hx hb dL_law_524 ?_
  obtain ⟨j2, hj2, hf⟩ := bnd hf
  refine hw_sld hx hb hX hbl hbA hH hj2 dL_law_525 ?_
  refine hl_aload_n hx hb dL_law_526 rfl (lv_at hl 2 rfl) ?_
  obtain ⟨q3, hq3, hf⟩ := bnd hf
  refine hcW hH (vx_runSW (As := [rv E v1, .int ((xs j1)), .int ((xs j2)), rv E v3]) (rest := []) ⟨hx, hb, hml, hown, hts⟩ (k_L_workingDays l hls E K H.size v1 (xs j1) (xs j2) v3 w hq3) (vx_cwSW (hh := [(0, 10, 13, 13)]) _ hts (gW m5_59 m5_60 m1_0 m5_61) rfl rfl rfl hs_L_workingDays ⟨Nat.le_of_ble_eq_true rfl, Nat.le_of_ble_eq_true rfl⟩) ⟨HB.blind, HB.pre hKs hT hb0 hH⟩ rfl rfl hl.1 rfl (lv_room rc0) dL_law_527 ⟨(Nat.le_trans (Nat.add_le_add_left (Nat.le_of_ble_eq_true rfl : 1 ≤ 7) _) hc9), (Nat.le_trans (Nat.add_le_add_left (Nat.le_of_ble_eq_true rfl : 6 ≤ 42) _) hs9)⟩) (fun H locs hH => ?_)
  refine lv_istore (i := 6) (lv' := [(6, .int (q3.1)), (5, .int v5), (4, rv E v4), (3, rv E v3), (2, rv E v2), (1, rv E v1), (0, .ref b)]) hx hb dL_law_530 hl (by decide) rfl (fun ls hl => ?_)
  refine hl_aload_n hx hb dL_law_532 rfl (lv_at hl 4 rfl) ?_
  refine lv_aload_n hx hb dL_law_533 rfl (lv_at hl 6 rfl) ?_
  refine lv_iload hx hb dL_law_534 (lv_at hl 1 rfl) ?_
  refine lv_iconst (v := 1) hx hb dL_law_536 (by decide) ?_
  refine lv_iadd hx hb dL_law_537 ?_
  obtain ⟨j4, hj4, hf⟩ := bnd hf
  refine hw_sld hx hb hX hbl hbA hH hj4 dL_law_538 ?_
  refine lv_aload_n hx hb dL_law_539 rfl (lv_at hl 6 rfl) ?_
  refine lv_iload hx hb dL_law_540 (lv_at hl 1 rfl) ?_
  refine lv_iconst (v := 2) hx hb dL_law_542 (by decide) ?_
  refine lv_iadd hx hb dL_law_543 ?_
  obtain ⟨j5, hj5, hf⟩ := bnd hf
  refine hw_sld hx hb hX hbl hbA hH hj5 dL_law_544 ?_
  obtain ⟨a6, ha6, hf⟩ := bnd hf
  replace ha6 := chk_some ha6
  obtain ⟨q7, hq7, hf⟩ := bnd hf
  refine hcV_i hx hb hml hown hts hKs hT hb0 hH (As := [.int ((xs j4)), .int ((xs j5))]) (rest := []) (k_X13_workingDays l E K H.size a6 (xs j4) (xs j5) q3.2 ha6.2 hq7) (gV m7_99 m7_100 m7_101 m1_16 m7_102) hd_X13_workingDays ⟨Nat.le_of_ble_eq_true rfl, Nat.le_of_ble_eq_true rfl, rfl, rfl⟩ ha6.1 ha6.2 rfl rfl rfl hl.1 rfl rc0 rfl dL_law_545 ⟨(Nat.le_trans (Nat.add_le_add_left (Nat.le_of_ble_eq_true rfl : 1 ≤ 7) _) hc9), (Nat.le_trans (Nat.add_le_add_left (Nat.le_of_ble_eq_true rfl : 6 ≤ 42) _) hs9)⟩ (fun H locs hH => ?_)
  refine lv_istore (i := 7) (lv' := [(7, .int (q7.1)), (6, .int (q3.1)), (5, .int v5), (4, rv E v4), (3, rv E v3), (2, rv E v2), (1, rv E v1), (0, .ref b)]) hx hb dL_law_548 hl (by decide) rfl (fun ls hl => ?_)
  refine hl_aload_n hx hb dL_law_550 rfl (lv_at hl 5 rfl) ?_
  obtain ⟨q8, hq8, hf⟩ := bnd hf
  refine hcV_i hx hb hml hown hts hKs hT hb0 hH (As := []) (rest := []) (k_X13_thrown l E K H.size a6 q7.2 ha6.2 hq8) (gV m7_60 m7_61 m7_62 m1_16 m7_63) hd_X13_thrown ⟨Nat.le_of_ble_eq_true rfl, Nat.le_of_ble_eq_true rfl, rfl, rfl⟩ ha6.1 ha6.2 rfl rfl rfl hl.1 rfl rc0 rfl dL_law_551 ⟨(Nat.le_trans (Nat.add_le_add_left (Nat.le_of_ble_eq_true rfl : 1 ≤ 7) _) hc9), (Nat.le_trans (Nat.add_le_add_left (Nat.le_of_ble_eq_true rfl : 6 ≤ 42) _) hs9)⟩ (fun H locs hH => ?_)
  refine lv_iload hx hb dL_law_554 (lv_at hl 1 rfl) ?_
  refine lv_icmp_eq (tgt := 561) hx hb dL_law_556 (by decide) (fun c9 => ?_) (fun c9 => ?_)
  · replace hf := (if_pos c9).symm.trans hf
    refine lv_iload hx hb dL_law_561 (lv_at hl 1 rfl) ?_
    refine lv_if_ne (tgt := 578) hx hb dL_law_563 (by decide) (fun c10 => ?_) (fun c10 => ?_)
    · replace hf := (if_neg c10).symm.trans hf
      refine lv_goto (tgt := 2519) hx hb dL_law_578 (by decide) ?_
      cases hf
      refine W.widen (k := 439 + 7 * (jz + 1)) (n := 21347 + 42 * (jz + 1)) (by omega) (by omega) ?_
      exact hk _ _ _ _ hH (lv_sub hl [2, 3, 4, 5, 6, 7] rfl)
    · replace hf := (if_pos c10).symm.trans hf
      refine hl_aload_n hx hb dL_law_566 rfl (lv_at hl 4 rfl) ?_
      refine lv_iconst (v := 0) hx hb dL_law_567 (by decide) ?_
      obtain ⟨a11, ha11, hf⟩ := bnd hf
      replace ha11 := cha_some ha11
      obtain ⟨j12, hj12, hf⟩ := bnd hf
      refine hw_lald hx hb hKs hH ha11.1 ha11.2 hj12 dL_law_568 ?_
      refine lv_iload hx hb dL_law_569 (lv_at hl 0 rfl) ?_
      refine lv_i2l (v := (q7.1.toInt64)) hx hb dL_law_571 rfl ?_
      refine W.lcmp hx hb dL_law_572 ?_
      refine lv_if_eq (tgt := 578) hx hb dL_law_573 (by decide) (fun c13 => ?_) (fun c13 => ?_)
      · replace hf := (if_pos c13).symm.trans hf
        refine lv_goto (tgt := 2519) hx hb dL_law_578 (by decide) ?_
        cases hf
        refine W.widen (k := 439 + 7 * (jz + 1)) (n := 21347 + 42 * (jz + 1)) (by omega) (by omega) ?_
        exact hk _ _ _ _ hH (lv_sub hl [2, 3, 4, 5, 6, 7] rfl)
      · replace hf := (if_neg c13).symm.trans hf
        refine lv_iconst (v := 0) hx hb dL_law_576 (by decide) ?_
        cases hf
  · replace hf := (if_neg c9).symm.trans hf
    refine lv_iconst (v := 0) hx hb dL_law_559 (by decide) ?_
    cases hf
set_option maxHeartbeats 4000000 in
set_option maxRecDepth 100000 in
theorem law_c9 {p : Program} {l : Launch} {e : Env} {s : State} {m : MethodId} {below : List Frame} {meth : Method} {c : Code} {E : Ev} {K : Kd} {b L : Nat} {xs : Nat → Int32} (hls : l.stackTraces = false) (hX : va_X b L xs s s.heap) (hbl : b < s.heap.size) (hbA : ¬ hA E b) (C : CX p l e s m #[Value.ref b] meth c code 10 RL ret E) {v1 v2 v3 v4 : Option Nat} {v5 : Int32} {w w' : Wd} {H : Heap} {locs : List Loc} {ls : Array Slot} {z jz : Nat} (hj : jz < 514) (hk : ∀ (H : Heap) (locs : List Loc) (ls : Array Slot) (z : Nat), HQ E K z w' s H locs → lv_has ls 10 [(5, .int v5), (4, rv E v4), (3, rv E v3), (2, rv E v2), (1, rv E v1), (0, .ref b)] → W p l e room_1 s m #[Value.ref b] below meth c H locs (439 + 7 * (jz + 1)) (21347 + 42 * (jz + 1)) (lw_Z below #[Value.ref b] s) (F0 m 2519 ls [])) (hH : HQ E K z w s H locs) (hl : lv_has ls 10 [(5, .int v5), (4, rv E v4), (3, rv E v3), (2, rv E v2), (1, rv E v1), (0, .ref b)]) (hf : f_law_c9 K L xs v1 v2 v3 v4 v5 w = some w') : W p l e room_1 s m #[Value.ref b] below meth c H locs (439 + 7 * jz) (21347 + 42 * jz) (lw_Z below #[Value.ref b] s) (F0 m 581 ls []) := by
  obtain ⟨hx, hb, hml, hown, hts, hKs, hT, hb0, hlocks, hret⟩ := id C
  have hc9 : (439 + 7 * jz) + 7 ≤ 601024 := by omega
  have hs9 : (21347 + 42 * jz) + 42 ≤ 7293034 := by omega
  unfold f_law_c9 at hf
  refine hl_aload_n hx hb dL_law_581 rfl (lv_at hl 4 rfl) ?_
  refine lv_aload_n hx hb dL_law_582 rfl (lv_at hl 5 rfl) ?_
  refine lv_iload hx hb dL_law_583 (lv_at hl 0 rfl) ?_
  refine lv_iconst (v := 1) hx hb dL_law_585 (by decide) ?_
  refine lv_iadd hx hb dL_law_586 ?_
  obtain ⟨j1, hj1, hf⟩ := bnd hf
  refine hw_sld hx hb hX hbl hbA hH hj1 dL_law_587 ?_
  refine hl_aload_n hx hb dL_law_588 rfl (lv_at hl 2 rfl) ?_
  obtain ⟨q2, hq2, hf⟩ := bnd hf
  refine hcW hH (vx_runSW (As := [rv E v1, .int ((xs j1)), rv E v3]) (rest := []) ⟨hx, hb, hml, hown, hts⟩ (k_L_lengthening l hls E K H.size v1 (xs j1) v3 w hq2) (vx_cwSW (hh := [(0, 9, 12, 13)]) _ hts (gW m5_71 m5_72 m1_0 m5_73) rfl rfl rfl hs_L_lengthening ⟨Nat.le_of_ble_eq_true rfl, Nat.le_of_ble_eq_true rfl⟩) ⟨HB.blind, HB.pre hKs hT hb0 hH⟩ rfl rfl hl.1 rfl (lv_room rc0) dL_law_589 ⟨(Nat.le_trans (Nat.add_le_add_left (Nat.le_of_ble_eq_true rfl : 1 ≤ 7) _) hc9), (Nat.le_trans (Nat.add_le_add_left (Nat.le_of_ble_eq_true rfl : 6 ≤ 42) _) hs9)⟩) (fun H locs hH => ?_)
  refine lv_istore (i := 6) (lv' := [(6, .int (q2.1)), (5, .int v5), (4, rv E v4), (3, rv E v3), (2, rv E v2), (1, rv E v1), (0, .ref b)]) hx hb dL_law_592 hl (by decide) rfl (fun ls hl => ?_)
  refine hl_aload_n hx hb dL_law_594 rfl (lv_at hl 4 rfl) ?_
  refine lv_aload_n hx hb dL_law_595 rfl (lv_at hl 6 rfl) ?_
  refine lv_iload hx hb dL_law_596 (lv_at hl 1 rfl) ?_
  refine lv_iconst (v := 1) hx hb dL_law_598 (by decide) ?_
  refine lv_iadd hx hb dL_law_599 ?_
  obtain ⟨j3, hj3, hf⟩ := bnd hf
  refine hw_sld hx hb hX hbl hbA hH hj3 dL_law_600 ?_
  obtain ⟨a4, ha4, hf⟩ := bnd hf
  replace ha4 := chk_some ha4
  obtain ⟨q5, hq5, hf⟩ := bnd hf
  refine hcV_i hx hb hml hown hts hKs hT hb0 hH (As := [.int ((xs j3))]) (rest := []) (k_X13_lengthening l E K H.size a4 (xs j3) q2.2 ha4.2 hq5) (gV m8_189 m8_190 m8_191 m1_16 m8_192) hd_X13_lengthening ⟨Nat.le_of_ble_eq_true rfl, Nat.le_of_ble_eq_true rfl, rfl, rfl⟩ ha4.1 ha4.2 rfl rfl rfl hl.1 rfl rc0 rfl dL_law_601 ⟨(Nat.le_trans (Nat.add_le_add_left (Nat.le_of_ble_eq_true rfl : 1 ≤ 7) _) hc9), (Nat.le_trans (Nat.add_le_add_left (Nat.le_of_ble_eq_true rfl : 6 ≤ 42) _) hs9)⟩ (fun H locs hH => ?_)
  refine lv_istore (i := 7) (lv' := [(7, .int (q5.1)), (6, .int (q2.1)), (5, .int v5), (4, rv E v4), (3, rv E v3), (2, rv E v2), (1, rv E v1), (0, .ref b)]) hx hb dL_law_604 hl (by decide) rfl (fun ls hl => ?_)
  refine hl_aload_n hx hb dL_law_606 rfl (lv_at hl 5 rfl) ?_
  obtain ⟨q6, hq6, hf⟩ := bnd hf
  refine hcV_i hx hb hml hown hts hKs hT hb0 hH (As := []) (rest := []) (k_X13_thrown l E K H.size a4 q5.2 ha4.2 hq6) (gV m7_60 m7_61 m7_62 m1_16 m7_63) hd_X13_thrown ⟨Nat.le_of_ble_eq_true rfl, Nat.le_of_ble_eq_true rfl, rfl, rfl⟩ ha4.1 ha4.2 rfl rfl rfl hl.1 rfl rc0 rfl dL_law_607 ⟨(Nat.le_trans (Nat.add_le_add_left (Nat.le_of_ble_eq_true rfl : 1 ≤ 7) _) hc9), (Nat.le_trans (Nat.add_le_add_left (Nat.le_of_ble_eq_true rfl : 6 ≤ 42) _) hs9)⟩ (fun H locs hH => ?_)
  refine lv_iload hx hb dL_law_610 (lv_at hl 1 rfl) ?_
  refine lv_icmp_eq (tgt := 617) hx hb dL_law_612 (by decide) (fun c7 => ?_) (fun c7 => ?_)
  · replace hf := (if_pos c7).symm.trans hf
    refine lv_iload hx hb dL_law_617 (lv_at hl 1 rfl) ?_
    refine lv_if_ne (tgt := 634) hx hb dL_law_619 (by decide) (fun c8 => ?_) (fun c8 => ?_)
    · replace hf := (if_neg c8).symm.trans hf
      refine lv_goto (tgt := 2519) hx hb dL_law_634 (by decide) ?_
      cases hf
      refine W.widen (k := 439 + 7 * (jz + 1)) (n := 21347 + 42 * (jz + 1)) (by omega) (by omega) ?_
      exact hk _ _ _ _ hH (lv_sub hl [2, 3, 4, 5, 6, 7] rfl)
    · replace hf := (if_pos c8).symm.trans hf
      refine hl_aload_n hx hb dL_law_622 rfl (lv_at hl 4 rfl) ?_
      refine lv_iconst (v := 0) hx hb dL_law_623 (by decide) ?_
      obtain ⟨a9, ha9, hf⟩ := bnd hf
      replace ha9 := cha_some ha9
      obtain ⟨j10, hj10, hf⟩ := bnd hf
      refine hw_lald hx hb hKs hH ha9.1 ha9.2 hj10 dL_law_624 ?_
      refine lv_iload hx hb dL_law_625 (lv_at hl 0 rfl) ?_
      refine lv_i2l (v := (q5.1.toInt64)) hx hb dL_law_627 rfl ?_
      refine W.lcmp hx hb dL_law_628 ?_
      refine lv_if_eq (tgt := 634) hx hb dL_law_629 (by decide) (fun c11 => ?_) (fun c11 => ?_)
      · replace hf := (if_pos c11).symm.trans hf
        refine lv_goto (tgt := 2519) hx hb dL_law_634 (by decide) ?_
        cases hf
        refine W.widen (k := 439 + 7 * (jz + 1)) (n := 21347 + 42 * (jz + 1)) (by omega) (by omega) ?_
        exact hk _ _ _ _ hH (lv_sub hl [2, 3, 4, 5, 6, 7] rfl)
      · replace hf := (if_neg c11).symm.trans hf
        refine lv_iconst (v := 0) hx hb dL_law_632 (by decide) ?_
        cases hf
  · replace hf := (if_neg c7).symm.trans hf
    refine lv_iconst (v := 0) hx hb dL_law_615 (by decide) ?_
    cases hf
set_option maxHeartbeats 4000000 in
set_option maxRecDepth 100000 in
theorem law_c10 {p : Program} {l : Launch} {e : Env} {s : State} {m : MethodId} {below : List Frame} {meth : Method} {c : Code} {E : Ev} {K : Kd} {b L : Nat} {xs : Nat → Int32} (hls : l.stackTraces = false) (hX : va_X b L xs s s.heap) (hbl : b < s.heap.size) (hbA : ¬ hA E b) (C : CX p l e s m #[Value.ref b] meth c code 10 RL ret E) {v1 v2 v3 v4 : Option Nat} {v5 : Int32} {w w' : Wd} {H : Heap} {locs : List Loc} {ls : Array Slot} {z jz : Nat} (hj : jz < 514) (hk : ∀ (H : Heap) (locs : List Loc) (ls : Array Slot) (z : Nat), HQ E K z w' s H locs → lv_has ls 10 [(5, .int v5), (4, rv E v4), (3, rv E v3), (2, rv E v2), (1, rv E v1), (0, .ref b)] → W p l e room_1 s m #[Value.ref b] below meth c H locs (439 + 7 * (jz + 1)) (21347 + 42 * (jz + 1)) (lw_Z below #[Value.ref b] s) (F0 m 2519 ls [])) (hH : HQ E K z w s H locs) (hl : lv_has ls 10 [(5, .int v5), (4, rv E v4), (3, rv E v3), (2, rv E v2), (1, rv E v1), (0, .ref b)]) (hf : f_law_c10 K L xs v1 v2 v3 v4 v5 w = some w') : W p l e room_1 s m #[Value.ref b] below meth c H locs (439 + 7 * jz) (21347 + 42 * jz) (lw_Z below #[Value.ref b] s) (F0 m 637 ls []) := by
  obtain ⟨hx, hb, hml, hown, hts, hKs, hT, hb0, hlocks, hret⟩ := id C
  have hc9 : (439 + 7 * jz) + 7 ≤ 601024 := by omega
  have hs9 : (21347 + 42 * jz) + 42 ≤ 7293034 := by omega
  unfold f_law_c10 at hf
  refine hl_aload_n hx hb dL_law_637 rfl (lv_at hl 4 rfl) ?_
  refine lv_aload_n hx hb dL_law_638 rfl (lv_at hl 5 rfl) ?_
  refine lv_iload hx hb dL_law_639 (lv_at hl 0 rfl) ?_
  refine lv_iconst (v := 1) hx hb dL_law_641 (by decide) ?_
  refine lv_iadd hx hb dL_law_642 ?_
  obtain ⟨j1, hj1, hf⟩ := bnd hf
  refine hw_sld hx hb hX hbl hbA hH hj1 dL_law_643 ?_
  refine lv_aload_n hx hb dL_law_644 rfl (lv_at hl 5 rfl) ?_
  refine lv_iload hx hb dL_law_645 (lv_at hl 0 rfl) ?_
  refine lv_iconst (v := 2) hx hb dL_law_647 (by decide) ?_
  refine lv_iadd hx hb dL_law_648 ?_
  obtain ⟨j2, hj2, hf⟩ := bnd hf
  refine hw_sld hx hb hX hbl hbA hH hj2 dL_law_649 ?_
  refine hl_aload_n hx hb dL_law_650 rfl (lv_at hl 2 rfl) ?_
  obtain ⟨q3, hq3, hf⟩ := bnd hf
  refine hcW hH (vx_runSW (As := [rv E v1, .int ((xs j1)), .int ((xs j2)), rv E v3]) (rest := []) ⟨hx, hb, hml, hown, hts⟩ (k_L_witness l hls E K H.size v1 (xs j1) (xs j2) v3 w hq3) (vx_cwSW (hh := [(0, 10, 13, 29)]) _ hts (gW m5_82 m5_83 m1_0 m5_84) rfl rfl rfl hs_L_witness ⟨Nat.le_of_ble_eq_true rfl, Nat.le_of_ble_eq_true rfl⟩) ⟨HB.blind, HB.pre hKs hT hb0 hH⟩ rfl rfl hl.1 rfl (lv_room rc0) dL_law_651 ⟨(Nat.le_trans (Nat.add_le_add_left (Nat.le_of_ble_eq_true rfl : 2 ≤ 7) _) hc9), (Nat.le_trans (Nat.add_le_add_left (Nat.le_of_ble_eq_true rfl : 12 ≤ 42) _) hs9)⟩) (fun H locs hH => ?_)
  refine lv_istore (i := 6) (lv' := [(6, .int (q3.1)), (5, .int v5), (4, rv E v4), (3, rv E v3), (2, rv E v2), (1, rv E v1), (0, .ref b)]) hx hb dL_law_654 hl (by decide) rfl (fun ls hl => ?_)
  refine hl_aload_n hx hb dL_law_656 rfl (lv_at hl 4 rfl) ?_
  refine lv_aload_n hx hb dL_law_657 rfl (lv_at hl 6 rfl) ?_
  refine lv_iload hx hb dL_law_658 (lv_at hl 1 rfl) ?_
  refine lv_iconst (v := 1) hx hb dL_law_660 (by decide) ?_
  refine lv_iadd hx hb dL_law_661 ?_
  obtain ⟨j4, hj4, hf⟩ := bnd hf
  refine hw_sld hx hb hX hbl hbA hH hj4 dL_law_662 ?_
  refine lv_aload_n hx hb dL_law_663 rfl (lv_at hl 6 rfl) ?_
  refine lv_iload hx hb dL_law_664 (lv_at hl 1 rfl) ?_
  refine lv_iconst (v := 2) hx hb dL_law_666 (by decide) ?_
  refine lv_iadd hx hb dL_law_667 ?_
  obtain ⟨j5, hj5, hf⟩ := bnd hf
  refine hw_sld hx hb hX hbl hbA hH hj5 dL_law_668 ?_
  obtain ⟨a6, ha6, hf⟩ := bnd hf
  replace ha6 := chk_some ha6
  obtain ⟨q7, hq7, hf⟩ := bnd hf
  refine hcV_i hx hb hml hown hts hKs hT hb0 hH (As := [.int ((xs j4)), .int ((xs j5))]) (rest := []) (k_X13_witness l E K H.size a6 (xs j4) (xs j5) q3.2 ha6.2 hq7) (gV m8_142 m8_143 m8_144 m1_16 m8_145) hd_X13_witness ⟨Nat.le_of_ble_eq_true rfl, Nat.le_of_ble_eq_true rfl, rfl, rfl⟩ ha6.1 ha6.2 rfl rfl rfl hl.1 rfl rc0 rfl dL_law_669 ⟨(Nat.le_trans (Nat.add_le_add_left (Nat.le_of_ble_eq_true rfl : 2 ≤ 7) _) hc9), (Nat.le_trans (Nat.add_le_add_left (Nat.le_of_ble_eq_true rfl : 12 ≤ 42) _) hs9)⟩ (fun H locs hH => ?_)
  refine lv_istore (i := 7) (lv' := [(7, .int (q7.1)), (6, .int (q3.1)), (5, .int v5), (4, rv E v4), (3, rv E v3), (2, rv E v2), (1, rv E v1), (0, .ref b)]) hx hb dL_law_672 hl (by decide) rfl (fun ls hl => ?_)
  refine hl_aload_n hx hb dL_law_674 rfl (lv_at hl 5 rfl) ?_
  obtain ⟨q8, hq8, hf⟩ := bnd hf
  refine hcV_i hx hb hml hown hts hKs hT hb0 hH (As := []) (rest := []) (k_X13_thrown l E K H.size a6 q7.2 ha6.2 hq8) (gV m7_60 m7_61 m7_62 m1_16 m7_63) hd_X13_thrown ⟨Nat.le_of_ble_eq_true rfl, Nat.le_of_ble_eq_true rfl, rfl, rfl⟩ ha6.1 ha6.2 rfl rfl rfl hl.1 rfl rc0 rfl dL_law_675 ⟨(Nat.le_trans (Nat.add_le_add_left (Nat.le_of_ble_eq_true rfl : 2 ≤ 7) _) hc9), (Nat.le_trans (Nat.add_le_add_left (Nat.le_of_ble_eq_true rfl : 12 ≤ 42) _) hs9)⟩ (fun H locs hH => ?_)
  refine lv_iload hx hb dL_law_678 (lv_at hl 1 rfl) ?_
  refine lv_icmp_eq (tgt := 685) hx hb dL_law_680 (by decide) (fun c9 => ?_) (fun c9 => ?_)
  · replace hf := (if_pos c9).symm.trans hf
    refine lv_iload hx hb dL_law_685 (lv_at hl 1 rfl) ?_
    refine lv_if_ne (tgt := 702) hx hb dL_law_687 (by decide) (fun c10 => ?_) (fun c10 => ?_)
    · replace hf := (if_neg c10).symm.trans hf
      refine lv_goto (tgt := 2519) hx hb dL_law_702 (by decide) ?_
      cases hf
      refine W.widen (k := 439 + 7 * (jz + 1)) (n := 21347 + 42 * (jz + 1)) (by omega) (by omega) ?_
      exact hk _ _ _ _ hH (lv_sub hl [2, 3, 4, 5, 6, 7] rfl)
    · replace hf := (if_pos c10).symm.trans hf
      refine hl_aload_n hx hb dL_law_690 rfl (lv_at hl 4 rfl) ?_
      refine lv_iconst (v := 0) hx hb dL_law_691 (by decide) ?_
      obtain ⟨a11, ha11, hf⟩ := bnd hf
      replace ha11 := cha_some ha11
      obtain ⟨j12, hj12, hf⟩ := bnd hf
      refine hw_lald hx hb hKs hH ha11.1 ha11.2 hj12 dL_law_692 ?_
      refine lv_iload hx hb dL_law_693 (lv_at hl 0 rfl) ?_
      refine lv_i2l (v := (q7.1.toInt64)) hx hb dL_law_695 rfl ?_
      refine W.lcmp hx hb dL_law_696 ?_
      refine lv_if_eq (tgt := 702) hx hb dL_law_697 (by decide) (fun c13 => ?_) (fun c13 => ?_)
      · replace hf := (if_pos c13).symm.trans hf
        refine lv_goto (tgt := 2519) hx hb dL_law_702 (by decide) ?_
        cases hf
        refine W.widen (k := 439 + 7 * (jz + 1)) (n := 21347 + 42 * (jz + 1)) (by omega) (by omega) ?_
        exact hk _ _ _ _ hH (lv_sub hl [2, 3, 4, 5, 6, 7] rfl)
      · replace hf := (if_neg c13).symm.trans hf
        refine lv_iconst (v := 0) hx hb dL_law_700 (by decide) ?_
        cases hf
  · replace hf := (if_neg c9).symm.trans hf
    refine lv_iconst (v := 0) hx hb dL_law_683 (by decide) ?_
    cases hf
set_option maxHeartbeats 4000000 in
set_option maxRecDepth 100000 in
theorem law_c11 {p : Program} {l : Launch} {e : Env} {s : State} {m : MethodId} {below : List Frame} {meth : Method} {c : Code} {E : Ev} {K : Kd} {b L : Nat} {xs : Nat → Int32} (hls : l.stackTraces = false) (hX : va_X b L xs s s.heap) (hbl : b < s.heap.size) (hbA : ¬ hA E b) (C : CX p l e s m #[Value.ref b] meth c code 10 RL ret E) {v1 v2 v3 v4 : Option Nat} {v5 : Int32} {w w' : Wd} {H : Heap} {locs : List Loc} {ls : Array Slot} {z jz : Nat} (hj : jz < 514) (hk : ∀ (H : Heap) (locs : List Loc) (ls : Array Slot) (z : Nat), HQ E K z w' s H locs → lv_has ls 10 [(5, .int v5), (4, rv E v4), (3, rv E v3), (2, rv E v2), (1, rv E v1), (0, .ref b)] → W p l e room_1 s m #[Value.ref b] below meth c H locs (439 + 7 * (jz + 1)) (21347 + 42 * (jz + 1)) (lw_Z below #[Value.ref b] s) (F0 m 2519 ls [])) (hH : HQ E K z w s H locs) (hl : lv_has ls 10 [(5, .int v5), (4, rv E v4), (3, rv E v3), (2, rv E v2), (1, rv E v1), (0, .ref b)]) (hf : f_law_c11 K L xs v1 v2 v3 v4 v5 w = some w') : W p l e room_1 s m #[Value.ref b] below meth c H locs (439 + 7 * jz) (21347 + 42 * jz) (lw_Z below #[Value.ref b] s) (F0 m 705 ls []) := by
  obtain ⟨hx, hb, hml, hown, hts, hKs, hT, hb0, hlocks, hret⟩ := id C
  have hc9 : (439 + 7 * jz) + 7 ≤ 601024 := by omega
  have hs9 : (21347 + 42 * jz) + 42 ≤ 7293034 := by omega
  unfold f_law_c11 at hf
  refine hl_aload_n hx hb dL_law_705 rfl (lv_at hl 4 rfl) ?_
  refine lv_aload_n hx hb dL_law_706 rfl (lv_at hl 5 rfl) ?_
  refine lv_iload hx hb dL_law_707 (lv_at hl 0 rfl) ?_
  refine lv_iconst (v := 1) hx hb dL_law_709 (by decide) ?_
  refine lv_iadd hx hb dL_law_710 ?_
  obtain ⟨j1, hj1, hf⟩ := bnd hf
  refine hw_sld hx hb hX hbl hbA hH hj1 dL_law_711 ?_
  refine lv_aload_n hx hb dL_law_712 rfl (lv_at hl 5 rfl) ?_
  refine lv_iload hx hb dL_law_713 (lv_at hl 0 rfl) ?_
  refine lv_iconst (v := 2) hx hb dL_law_715 (by decide) ?_
  refine lv_iadd hx hb dL_law_716 ?_
  obtain ⟨j2, hj2, hf⟩ := bnd hf
  refine hw_sld hx hb hX hbl hbA hH hj2 dL_law_717 ?_
  refine hl_aload_n hx hb dL_law_718 rfl (lv_at hl 2 rfl) ?_
  obtain ⟨q3, hq3, hf⟩ := bnd hf
  refine hcW hH (vx_runSW (As := [rv E v1, .int ((xs j1)), .int ((xs j2)), rv E v3]) (rest := []) ⟨hx, hb, hml, hown, hts⟩ (k_L_isOff l hls E K H.size v1 (xs j1) (xs j2) v3 w hq3) (vx_cwSW (hh := [(0, 17, 20, 29), (0, 17, 24, 13)]) _ hts (gW m5_113 m5_114 m1_0 m5_115) rfl rfl rfl hs_L_isOff ⟨Nat.le_of_ble_eq_true rfl, Nat.le_of_ble_eq_true rfl⟩) ⟨HB.blind, HB.pre hKs hT hb0 hH⟩ rfl rfl hl.1 rfl (lv_room rc0) dL_law_719 ⟨(Nat.le_trans (Nat.add_le_add_left (Nat.le_of_ble_eq_true rfl : 2 ≤ 7) _) hc9), (Nat.le_trans (Nat.add_le_add_left (Nat.le_of_ble_eq_true rfl : 12 ≤ 42) _) hs9)⟩) (fun H locs hH => ?_)
  refine lv_istore (i := 6) (lv' := [(6, .int (q3.1)), (5, .int v5), (4, rv E v4), (3, rv E v3), (2, rv E v2), (1, rv E v1), (0, .ref b)]) hx hb dL_law_722 hl (by decide) rfl (fun ls hl => ?_)
  refine hl_aload_n hx hb dL_law_724 rfl (lv_at hl 4 rfl) ?_
  refine lv_aload_n hx hb dL_law_725 rfl (lv_at hl 6 rfl) ?_
  refine lv_iload hx hb dL_law_726 (lv_at hl 1 rfl) ?_
  refine lv_iconst (v := 1) hx hb dL_law_728 (by decide) ?_
  refine lv_iadd hx hb dL_law_729 ?_
  obtain ⟨j4, hj4, hf⟩ := bnd hf
  refine hw_sld hx hb hX hbl hbA hH hj4 dL_law_730 ?_
  refine lv_aload_n hx hb dL_law_731 rfl (lv_at hl 6 rfl) ?_
  refine lv_iload hx hb dL_law_732 (lv_at hl 1 rfl) ?_
  refine lv_iconst (v := 2) hx hb dL_law_734 (by decide) ?_
  refine lv_iadd hx hb dL_law_735 ?_
  obtain ⟨j5, hj5, hf⟩ := bnd hf
  refine hw_sld hx hb hX hbl hbA hH hj5 dL_law_736 ?_
  obtain ⟨a6, ha6, hf⟩ := bnd hf
  replace ha6 := chk_some ha6
  obtain ⟨q7, hq7, hf⟩ := bnd hf
  refine hcV_i hx hb hml hown hts hKs hT hb0 hH (As := [.int ((xs j4)), .int ((xs j5))]) (rest := []) (k_X13_isOff l E K H.size a6 (xs j4) (xs j5) q3.2 ha6.2 hq7) (gV m8_151 m8_152 m8_153 m1_16 m8_154) hd_X13_isOff ⟨Nat.le_of_ble_eq_true rfl, Nat.le_of_ble_eq_true rfl, rfl, rfl⟩ ha6.1 ha6.2 rfl rfl rfl hl.1 rfl rc0 rfl dL_law_737 ⟨(Nat.le_trans (Nat.add_le_add_left (Nat.le_of_ble_eq_true rfl : 2 ≤ 7) _) hc9), (Nat.le_trans (Nat.add_le_add_left (Nat.le_of_ble_eq_true rfl : 12 ≤ 42) _) hs9)⟩ (fun H locs hH => ?_)
  refine lv_istore (i := 7) (lv' := [(7, .int (b2i q7.1)), (6, .int (q3.1)), (5, .int v5), (4, rv E v4), (3, rv E v3), (2, rv E v2), (1, rv E v1), (0, .ref b)]) hx hb dL_law_740 hl (by decide) rfl (fun ls hl => ?_)
  refine hl_aload_n hx hb dL_law_742 rfl (lv_at hl 5 rfl) ?_
  obtain ⟨q8, hq8, hf⟩ := bnd hf
  refine hcV_i hx hb hml hown hts hKs hT hb0 hH (As := []) (rest := []) (k_X13_thrown l E K H.size a6 q7.2 ha6.2 hq8) (gV m7_60 m7_61 m7_62 m1_16 m7_63) hd_X13_thrown ⟨Nat.le_of_ble_eq_true rfl, Nat.le_of_ble_eq_true rfl, rfl, rfl⟩ ha6.1 ha6.2 rfl rfl rfl hl.1 rfl rc0 rfl dL_law_743 ⟨(Nat.le_trans (Nat.add_le_add_left (Nat.le_of_ble_eq_true rfl : 2 ≤ 7) _) hc9), (Nat.le_trans (Nat.add_le_add_left (Nat.le_of_ble_eq_true rfl : 12 ≤ 42) _) hs9)⟩ (fun H locs hH => ?_)
  refine lv_iload hx hb dL_law_746 (lv_at hl 1 rfl) ?_
  refine lv_icmp_eq (tgt := 753) hx hb dL_law_748 (by decide) (fun c9 => ?_) (fun c9 => ?_)
  · replace hf := (if_pos c9).symm.trans hf
    refine lv_iload hx hb dL_law_753 (lv_at hl 1 rfl) ?_
    refine lv_if_ne (tgt := 777) hx hb dL_law_755 (by decide) (fun c10 => ?_) (fun c10 => ?_)
    · replace hf := (if_neg c10).symm.trans hf
      refine lv_goto (tgt := 2519) hx hb dL_law_777 (by decide) ?_
      cases hf
      refine W.widen (k := 439 + 7 * (jz + 1)) (n := 21347 + 42 * (jz + 1)) (by omega) (by omega) ?_
      exact hk _ _ _ _ hH (lv_sub hl [2, 3, 4, 5, 6, 7] rfl)
    · replace hf := (if_pos c10).symm.trans hf
      refine hl_aload_n hx hb dL_law_758 rfl (lv_at hl 4 rfl) ?_
      refine lv_iconst (v := 0) hx hb dL_law_759 (by decide) ?_
      obtain ⟨a11, ha11, hf⟩ := bnd hf
      replace ha11 := cha_some ha11
      obtain ⟨j12, hj12, hf⟩ := bnd hf
      refine hw_lald hx hb hKs hH ha11.1 ha11.2 hj12 dL_law_760 ?_
      refine lv_iload hx hb dL_law_761 (lv_at hl 0 rfl) ?_
      refine lv_if_eq (tgt := 770) hx hb dL_law_763 (by decide) (fun c13 => ?_) (fun c13 => ?_)
      · replace hf := (if_pos c13).symm.trans hf
        refine lv_lconst (v := 0) hx hb dL_law_770 rfl ?_
        refine W.lcmp hx hb dL_law_771 ?_
        refine lv_if_eq (tgt := 777) hx hb dL_law_772 (by decide) (fun c14 => ?_) (fun c14 => ?_)
        · replace hf := (if_pos c14).symm.trans hf
          refine lv_goto (tgt := 2519) hx hb dL_law_777 (by decide) ?_
          cases hf
          refine W.widen (k := 439 + 7 * (jz + 1)) (n := 21347 + 42 * (jz + 1)) (by omega) (by omega) ?_
          exact hk _ _ _ _ hH (lv_sub hl [2, 3, 4, 5, 6, 7] rfl)
        · replace hf := (if_neg c14).symm.trans hf
          refine lv_iconst (v := 0) hx hb dL_law_775 (by decide) ?_
          cases hf
      · replace hf := (if_neg c13).symm.trans hf
        refine lv_lconst (v := 1) hx hb dL_law_766 rfl ?_
        refine lv_goto (tgt := 771) hx hb dL_law_767 (by decide) ?_
        refine W.lcmp hx hb dL_law_771 ?_
        refine lv_if_eq (tgt := 777) hx hb dL_law_772 (by decide) (fun c15 => ?_) (fun c15 => ?_)
        · replace hf := (if_pos c15).symm.trans hf
          refine lv_goto (tgt := 2519) hx hb dL_law_777 (by decide) ?_
          cases hf
          refine W.widen (k := 439 + 7 * (jz + 1)) (n := 21347 + 42 * (jz + 1)) (by omega) (by omega) ?_
          exact hk _ _ _ _ hH (lv_sub hl [2, 3, 4, 5, 6, 7] rfl)
        · replace hf := (if_neg c15).symm.trans hf
          refine lv_iconst (v := 0) hx hb dL_law_775 (by decide) ?_
          cases hf
  · replace hf := (if_neg c9).symm.trans hf
    refine lv_iconst (v := 0) hx hb dL_law_751 (by decide) ?_
    cases hf
set_option maxHeartbeats 4000000 in
set_option maxRecDepth 100000 in
theorem law_c12 {p : Program} {l : Launch} {e : Env} {s : State} {m : MethodId} {below : List Frame} {meth : Method} {c : Code} {E : Ev} {K : Kd} {b L : Nat} {xs : Nat → Int32} (hls : l.stackTraces = false) (hX : va_X b L xs s s.heap) (hbl : b < s.heap.size) (hbA : ¬ hA E b) (C : CX p l e s m #[Value.ref b] meth c code 10 RL ret E) {v1 v2 v3 v4 : Option Nat} {v5 : Int32} {w w' : Wd} {H : Heap} {locs : List Loc} {ls : Array Slot} {z jz : Nat} (hj : jz < 514) (hk : ∀ (H : Heap) (locs : List Loc) (ls : Array Slot) (z : Nat), HQ E K z w' s H locs → lv_has ls 10 [(5, .int v5), (4, rv E v4), (3, rv E v3), (2, rv E v2), (1, rv E v1), (0, .ref b)] → W p l e room_1 s m #[Value.ref b] below meth c H locs (439 + 7 * (jz + 1)) (21347 + 42 * (jz + 1)) (lw_Z below #[Value.ref b] s) (F0 m 2519 ls [])) (hH : HQ E K z w s H locs) (hl : lv_has ls 10 [(5, .int v5), (4, rv E v4), (3, rv E v3), (2, rv E v2), (1, rv E v1), (0, .ref b)]) (hf : f_law_c12 K L xs v1 v2 v3 v4 v5 w = some w') : W p l e room_1 s m #[Value.ref b] below meth c H locs (439 + 7 * jz) (21347 + 42 * jz) (lw_Z below #[Value.ref b] s) (F0 m 780 ls []) := by
  obtain ⟨hx, hb, hml, hown, hts, hKs, hT, hb0, hlocks, hret⟩ := id C
  have hc9 : (439 + 7 * jz) + 7 ≤ 601024 := by omega
  have hs9 : (21347 + 42 * jz) + 42 ≤ 7293034 := by omega
  unfold f_law_c12 at hf
  refine hl_aload_n hx hb dL_law_780 rfl (lv_at hl 4 rfl) ?_
  refine lv_aload_n hx hb dL_law_781 rfl (lv_at hl 5 rfl) ?_
  refine lv_iload hx hb dL_law_782 (lv_at hl 0 rfl) ?_
  refine lv_iconst (v := 1) hx hb dL_law_784 (by decide) ?_
  refine lv_iadd hx hb dL_law_785 ?_
  obtain ⟨j1, hj1, hf⟩ := bnd hf
  refine hw_sld hx hb hX hbl hbA hH hj1 dL_law_786 ?_
  refine lv_aload_n hx hb dL_law_787 rfl (lv_at hl 5 rfl) ?_
  refine lv_iload hx hb dL_law_788 (lv_at hl 0 rfl) ?_
  refine lv_iconst (v := 2) hx hb dL_law_790 (by decide) ?_
  refine lv_iadd hx hb dL_law_791 ?_
  obtain ⟨j2, hj2, hf⟩ := bnd hf
  refine hw_sld hx hb hX hbl hbA hH hj2 dL_law_792 ?_
  refine hl_aload_n hx hb dL_law_793 rfl (lv_at hl 2 rfl) ?_
  obtain ⟨q3, hq3, hf⟩ := bnd hf
  refine hcW hH (vx_runSW (As := [rv E v1, .int ((xs j1)), .int ((xs j2)), rv E v3]) (rest := []) ⟨hx, hb, hml, hown, hts⟩ (k_L_isBarred l hls E K H.size v1 (xs j1) (xs j2) v3 w hq3) (vx_cwSW (hh := [(0, 17, 20, 29)]) _ hts (gW m5_121 m5_122 m1_0 m5_123) rfl rfl rfl hs_L_isBarred ⟨Nat.le_of_ble_eq_true rfl, Nat.le_of_ble_eq_true rfl⟩) ⟨HB.blind, HB.pre hKs hT hb0 hH⟩ rfl rfl hl.1 rfl (lv_room rc0) dL_law_794 ⟨(Nat.le_trans (Nat.add_le_add_left (Nat.le_of_ble_eq_true rfl : 2 ≤ 7) _) hc9), (Nat.le_trans (Nat.add_le_add_left (Nat.le_of_ble_eq_true rfl : 12 ≤ 42) _) hs9)⟩) (fun H locs hH => ?_)
  refine lv_istore (i := 6) (lv' := [(6, .int (q3.1)), (5, .int v5), (4, rv E v4), (3, rv E v3), (2, rv E v2), (1, rv E v1), (0, .ref b)]) hx hb dL_law_797 hl (by decide) rfl (fun ls hl => ?_)
  refine hl_aload_n hx hb dL_law_799 rfl (lv_at hl 4 rfl) ?_
  refine lv_aload_n hx hb dL_law_800 rfl (lv_at hl 6 rfl) ?_
  refine lv_iload hx hb dL_law_801 (lv_at hl 1 rfl) ?_
  refine lv_iconst (v := 1) hx hb dL_law_803 (by decide) ?_
  refine lv_iadd hx hb dL_law_804 ?_
  obtain ⟨j4, hj4, hf⟩ := bnd hf
  refine hw_sld hx hb hX hbl hbA hH hj4 dL_law_805 ?_
  refine lv_aload_n hx hb dL_law_806 rfl (lv_at hl 6 rfl) ?_
  refine lv_iload hx hb dL_law_807 (lv_at hl 1 rfl) ?_
  refine lv_iconst (v := 2) hx hb dL_law_809 (by decide) ?_
  refine lv_iadd hx hb dL_law_810 ?_
  obtain ⟨j5, hj5, hf⟩ := bnd hf
  refine hw_sld hx hb hX hbl hbA hH hj5 dL_law_811 ?_
  obtain ⟨a6, ha6, hf⟩ := bnd hf
  replace ha6 := chk_some ha6
  obtain ⟨q7, hq7, hf⟩ := bnd hf
  refine hcV_i hx hb hml hown hts hKs hT hb0 hH (As := [.int ((xs j4)), .int ((xs j5))]) (rest := []) (k_X13_isBarred l E K H.size a6 (xs j4) (xs j5) q3.2 ha6.2 hq7) (gV m8_155 m8_156 m8_157 m1_16 m8_158) hd_X13_isBarred ⟨Nat.le_of_ble_eq_true rfl, Nat.le_of_ble_eq_true rfl, rfl, rfl⟩ ha6.1 ha6.2 rfl rfl rfl hl.1 rfl rc0 rfl dL_law_812 ⟨(Nat.le_trans (Nat.add_le_add_left (Nat.le_of_ble_eq_true rfl : 2 ≤ 7) _) hc9), (Nat.le_trans (Nat.add_le_add_left (Nat.le_of_ble_eq_true rfl : 12 ≤ 42) _) hs9)⟩ (fun H locs hH => ?_)
  refine lv_istore (i := 7) (lv' := [(7, .int (b2i q7.1)), (6, .int (q3.1)), (5, .int v5), (4, rv E v4), (3, rv E v3), (2, rv E v2), (1, rv E v1), (0, .ref b)]) hx hb dL_law_815 hl (by decide) rfl (fun ls hl => ?_)
  refine hl_aload_n hx hb dL_law_817 rfl (lv_at hl 5 rfl) ?_
  obtain ⟨q8, hq8, hf⟩ := bnd hf
  refine hcV_i hx hb hml hown hts hKs hT hb0 hH (As := []) (rest := []) (k_X13_thrown l E K H.size a6 q7.2 ha6.2 hq8) (gV m7_60 m7_61 m7_62 m1_16 m7_63) hd_X13_thrown ⟨Nat.le_of_ble_eq_true rfl, Nat.le_of_ble_eq_true rfl, rfl, rfl⟩ ha6.1 ha6.2 rfl rfl rfl hl.1 rfl rc0 rfl dL_law_818 ⟨(Nat.le_trans (Nat.add_le_add_left (Nat.le_of_ble_eq_true rfl : 2 ≤ 7) _) hc9), (Nat.le_trans (Nat.add_le_add_left (Nat.le_of_ble_eq_true rfl : 12 ≤ 42) _) hs9)⟩ (fun H locs hH => ?_)
  refine lv_iload hx hb dL_law_821 (lv_at hl 1 rfl) ?_
  refine lv_icmp_eq (tgt := 828) hx hb dL_law_823 (by decide) (fun c9 => ?_) (fun c9 => ?_)
  · replace hf := (if_pos c9).symm.trans hf
    refine lv_iload hx hb dL_law_828 (lv_at hl 1 rfl) ?_
    refine lv_if_ne (tgt := 852) hx hb dL_law_830 (by decide) (fun c10 => ?_) (fun c10 => ?_)
    · replace hf := (if_neg c10).symm.trans hf
      refine lv_goto (tgt := 2519) hx hb dL_law_852 (by decide) ?_
      cases hf
      refine W.widen (k := 439 + 7 * (jz + 1)) (n := 21347 + 42 * (jz + 1)) (by omega) (by omega) ?_
      exact hk _ _ _ _ hH (lv_sub hl [2, 3, 4, 5, 6, 7] rfl)
    · replace hf := (if_pos c10).symm.trans hf
      refine hl_aload_n hx hb dL_law_833 rfl (lv_at hl 4 rfl) ?_
      refine lv_iconst (v := 0) hx hb dL_law_834 (by decide) ?_
      obtain ⟨a11, ha11, hf⟩ := bnd hf
      replace ha11 := cha_some ha11
      obtain ⟨j12, hj12, hf⟩ := bnd hf
      refine hw_lald hx hb hKs hH ha11.1 ha11.2 hj12 dL_law_835 ?_
      refine lv_iload hx hb dL_law_836 (lv_at hl 0 rfl) ?_
      refine lv_if_eq (tgt := 845) hx hb dL_law_838 (by decide) (fun c13 => ?_) (fun c13 => ?_)
      · replace hf := (if_pos c13).symm.trans hf
        refine lv_lconst (v := 0) hx hb dL_law_845 rfl ?_
        refine W.lcmp hx hb dL_law_846 ?_
        refine lv_if_eq (tgt := 852) hx hb dL_law_847 (by decide) (fun c14 => ?_) (fun c14 => ?_)
        · replace hf := (if_pos c14).symm.trans hf
          refine lv_goto (tgt := 2519) hx hb dL_law_852 (by decide) ?_
          cases hf
          refine W.widen (k := 439 + 7 * (jz + 1)) (n := 21347 + 42 * (jz + 1)) (by omega) (by omega) ?_
          exact hk _ _ _ _ hH (lv_sub hl [2, 3, 4, 5, 6, 7] rfl)
        · replace hf := (if_neg c14).symm.trans hf
          refine lv_iconst (v := 0) hx hb dL_law_850 (by decide) ?_
          cases hf
      · replace hf := (if_neg c13).symm.trans hf
        refine lv_lconst (v := 1) hx hb dL_law_841 rfl ?_
        refine lv_goto (tgt := 846) hx hb dL_law_842 (by decide) ?_
        refine W.lcmp hx hb dL_law_846 ?_
        refine lv_if_eq (tgt := 852) hx hb dL_law_847 (by decide) (fun c15 => ?_) (fun c15 => ?_)
        · replace hf := (if_pos c15).symm.trans hf
          refine lv_goto (tgt := 2519) hx hb dL_law_852 (by decide) ?_
          cases hf
          refine W.widen (k := 439 + 7 * (jz + 1)) (n := 21347 + 42 * (jz + 1)) (by omega) (by omega) ?_
          exact hk _ _ _ _ hH (lv_sub hl [2, 3, 4, 5, 6, 7] rfl)
        · replace hf := (if_neg c15).symm.trans hf
          refine lv_iconst (v := 0) hx hb dL_law_850 (by decide) ?_
          cases hf
  · replace hf := (if_neg c9).symm.trans hf
    refine lv_iconst (v := 0) hx hb dL_law_826 (by decide) ?_
    cases hf
set_option maxHeartbeats 4000000 in
set_option maxRecDepth 100000 in
theorem law_c13 {p : Program} {l : Launch} {e : Env} {s : State} {m : MethodId} {below : List Frame} {meth : Method} {c : Code} {E : Ev} {K : Kd} {b L : Nat} {xs : Nat → Int32} (hls : l.stackTraces = false) (hX : va_X b L xs s s.heap) (hbl : b < s.heap.size) (hbA : ¬ hA E b) (C : CX p l e s m #[Value.ref b] meth c code 10 RL ret E) {v1 v2 v3 v4 : Option Nat} {v5 : Int32} {w w' : Wd} {H : Heap} {locs : List Loc} {ls : Array Slot} {z jz : Nat} (hj : jz < 514) (hk : ∀ (H : Heap) (locs : List Loc) (ls : Array Slot) (z : Nat), HQ E K z w' s H locs → lv_has ls 10 [(5, .int v5), (4, rv E v4), (3, rv E v3), (2, rv E v2), (1, rv E v1), (0, .ref b)] → W p l e room_1 s m #[Value.ref b] below meth c H locs (439 + 7 * (jz + 1)) (21347 + 42 * (jz + 1)) (lw_Z below #[Value.ref b] s) (F0 m 2519 ls [])) (hH : HQ E K z w s H locs) (hl : lv_has ls 10 [(5, .int v5), (4, rv E v4), (3, rv E v3), (2, rv E v2), (1, rv E v1), (0, .ref b)]) (hf : f_law_c13 K L xs v1 v2 v3 v4 v5 w = some w') : W p l e room_1 s m #[Value.ref b] below meth c H locs (439 + 7 * jz) (21347 + 42 * jz) (lw_Z below #[Value.ref b] s) (F0 m 855 ls []) := by
  obtain ⟨hx, hb, hml, hown, hts, hKs, hT, hb0, hlocks, hret⟩ := id C
  have hc9 : (439 + 7 * jz) + 7 ≤ 601024 := by omega
  have hs9 : (21347 + 42 * jz) + 42 ≤ 7293034 := by omega
  unfold f_law_c13 at hf
  refine hl_aload_n hx hb dL_law_855 rfl (lv_at hl 4 rfl) ?_
  refine lv_aload_n hx hb dL_law_856 rfl (lv_at hl 5 rfl) ?_
  refine lv_iload hx hb dL_law_857 (lv_at hl 0 rfl) ?_
  refine lv_iconst (v := 1) hx hb dL_law_859 (by decide) ?_
  refine lv_iadd hx hb dL_law_860 ?_
  obtain ⟨j1, hj1, hf⟩ := bnd hf
  refine hw_sld hx hb hX hbl hbA hH hj1 dL_law_861 ?_
  refine hl_aload_n hx hb dL_law_862 rfl (lv_at hl 2 rfl) ?_
  obtain ⟨q2, hq2, hf⟩ := bnd hf
  refine hcW hH (vx_runSW (As := [rv E v1, .int ((xs j1)), rv E v3]) (rest := []) ⟨hx, hb, hml, hown, hts⟩ (k_L_load l hls E K H.size v1 (xs j1) v3 w hq2) (vx_cwSW (hh := [(0, 9, 12, 29)]) _ hts (gW m5_130 m5_131 m1_0 m5_132) rfl rfl rfl hs_L_load ⟨Nat.le_of_ble_eq_true rfl, Nat.le_of_ble_eq_true rfl⟩) ⟨HB.blind, HB.pre hKs hT hb0 hH⟩ rfl rfl hl.1 rfl (lv_room rc0) dL_law_863 ⟨(Nat.le_trans (Nat.add_le_add_left (Nat.le_of_ble_eq_true rfl : 1 ≤ 7) _) hc9), (Nat.le_trans (Nat.add_le_add_left (Nat.le_of_ble_eq_true rfl : 6 ≤ 42) _) hs9)⟩) (fun H locs hH => ?_)
  refine lv_istore (i := 6) (lv' := [(6, .int (q2.1)), (5, .int v5), (4, rv E v4), (3, rv E v3), (2, rv E v2), (1, rv E v1), (0, .ref b)]) hx hb dL_law_866 hl (by decide) rfl (fun ls hl => ?_)
  refine hl_aload_n hx hb dL_law_868 rfl (lv_at hl 4 rfl) ?_
  refine lv_aload_n hx hb dL_law_869 rfl (lv_at hl 6 rfl) ?_
  refine lv_iload hx hb dL_law_870 (lv_at hl 1 rfl) ?_
  refine lv_iconst (v := 1) hx hb dL_law_872 (by decide) ?_
  refine lv_iadd hx hb dL_law_873 ?_
  obtain ⟨j3, hj3, hf⟩ := bnd hf
  refine hw_sld hx hb hX hbl hbA hH hj3 dL_law_874 ?_
  obtain ⟨a4, ha4, hf⟩ := bnd hf
  replace ha4 := chk_some ha4
  obtain ⟨q5, hq5, hf⟩ := bnd hf
  refine hcV_i hx hb hml hown hts hKs hT hb0 hH (As := [.int ((xs j3))]) (rest := []) (k_X13_load l E K H.size a4 (xs j3) q2.2 ha4.2 hq5) (gV m8_159 m8_160 m8_161 m1_16 m8_162) hd_X13_load ⟨Nat.le_of_ble_eq_true rfl, Nat.le_of_ble_eq_true rfl, rfl, rfl⟩ ha4.1 ha4.2 rfl rfl rfl hl.1 rfl rc0 rfl dL_law_875 ⟨(Nat.le_trans (Nat.add_le_add_left (Nat.le_of_ble_eq_true rfl : 1 ≤ 7) _) hc9), (Nat.le_trans (Nat.add_le_add_left (Nat.le_of_ble_eq_true rfl : 6 ≤ 42) _) hs9)⟩ (fun H locs hH => ?_)
  refine lv_istore (i := 7) (lv' := [(7, .int (q5.1)), (6, .int (q2.1)), (5, .int v5), (4, rv E v4), (3, rv E v3), (2, rv E v2), (1, rv E v1), (0, .ref b)]) hx hb dL_law_878 hl (by decide) rfl (fun ls hl => ?_)
  refine hl_aload_n hx hb dL_law_880 rfl (lv_at hl 5 rfl) ?_
  obtain ⟨q6, hq6, hf⟩ := bnd hf
  refine hcV_i hx hb hml hown hts hKs hT hb0 hH (As := []) (rest := []) (k_X13_thrown l E K H.size a4 q5.2 ha4.2 hq6) (gV m7_60 m7_61 m7_62 m1_16 m7_63) hd_X13_thrown ⟨Nat.le_of_ble_eq_true rfl, Nat.le_of_ble_eq_true rfl, rfl, rfl⟩ ha4.1 ha4.2 rfl rfl rfl hl.1 rfl rc0 rfl dL_law_881 ⟨(Nat.le_trans (Nat.add_le_add_left (Nat.le_of_ble_eq_true rfl : 1 ≤ 7) _) hc9), (Nat.le_trans (Nat.add_le_add_left (Nat.le_of_ble_eq_true rfl : 6 ≤ 42) _) hs9)⟩ (fun H locs hH => ?_)
  refine lv_iload hx hb dL_law_884 (lv_at hl 1 rfl) ?_
  refine lv_icmp_eq (tgt := 891) hx hb dL_law_886 (by decide) (fun c7 => ?_) (fun c7 => ?_)
  · replace hf := (if_pos c7).symm.trans hf
    refine lv_iload hx hb dL_law_891 (lv_at hl 1 rfl) ?_
    refine lv_if_ne (tgt := 908) hx hb dL_law_893 (by decide) (fun c8 => ?_) (fun c8 => ?_)
    · replace hf := (if_neg c8).symm.trans hf
      refine lv_goto (tgt := 2519) hx hb dL_law_908 (by decide) ?_
      cases hf
      refine W.widen (k := 439 + 7 * (jz + 1)) (n := 21347 + 42 * (jz + 1)) (by omega) (by omega) ?_
      exact hk _ _ _ _ hH (lv_sub hl [2, 3, 4, 5, 6, 7] rfl)
    · replace hf := (if_pos c8).symm.trans hf
      refine hl_aload_n hx hb dL_law_896 rfl (lv_at hl 4 rfl) ?_
      refine lv_iconst (v := 0) hx hb dL_law_897 (by decide) ?_
      obtain ⟨a9, ha9, hf⟩ := bnd hf
      replace ha9 := cha_some ha9
      obtain ⟨j10, hj10, hf⟩ := bnd hf
      refine hw_lald hx hb hKs hH ha9.1 ha9.2 hj10 dL_law_898 ?_
      refine lv_iload hx hb dL_law_899 (lv_at hl 0 rfl) ?_
      refine lv_i2l (v := (q5.1.toInt64)) hx hb dL_law_901 rfl ?_
      refine W.lcmp hx hb dL_law_902 ?_
      refine lv_if_eq (tgt := 908) hx hb dL_law_903 (by decide) (fun c11 => ?_) (fun c11 => ?_)
      · replace hf := (if_pos c11).symm.trans hf
        refine lv_goto (tgt := 2519) hx hb dL_law_908 (by decide) ?_
        cases hf
        refine W.widen (k := 439 + 7 * (jz + 1)) (n := 21347 + 42 * (jz + 1)) (by omega) (by omega) ?_
        exact hk _ _ _ _ hH (lv_sub hl [2, 3, 4, 5, 6, 7] rfl)
      · replace hf := (if_neg c11).symm.trans hf
        refine lv_iconst (v := 0) hx hb dL_law_906 (by decide) ?_
        cases hf
  · replace hf := (if_neg c7).symm.trans hf
    refine lv_iconst (v := 0) hx hb dL_law_889 (by decide) ?_
    cases hf
set_option maxHeartbeats 4000000 in
set_option maxRecDepth 100000 in
theorem law_c14 {p : Program} {l : Launch} {e : Env} {s : State} {m : MethodId} {below : List Frame} {meth : Method} {c : Code} {E : Ev} {K : Kd} {b L : Nat} {xs : Nat → Int32} (hls : l.stackTraces = false) (hX : va_X b L xs s s.heap) (hbl : b < s.heap.size) (hbA : ¬ hA E b) (C : CX p l e s m #[Value.ref b] meth c code 10 RL ret E) {v1 v2 v3 v4 : Option Nat} {v5 : Int32} {w w' : Wd} {H : Heap} {locs : List Loc} {ls : Array Slot} {z jz : Nat} (hj : jz < 514) (hk : ∀ (H : Heap) (locs : List Loc) (ls : Array Slot) (z : Nat), HQ E K z w' s H locs → lv_has ls 10 [(5, .int v5), (4, rv E v4), (3, rv E v3), (2, rv E v2), (1, rv E v1), (0, .ref b)] → W p l e room_1 s m #[Value.ref b] below meth c H locs (439 + 7 * (jz + 1)) (21347 + 42 * (jz + 1)) (lw_Z below #[Value.ref b] s) (F0 m 2519 ls [])) (hH : HQ E K z w s H locs) (hl : lv_has ls 10 [(5, .int v5), (4, rv E v4), (3, rv E v3), (2, rv E v2), (1, rv E v1), (0, .ref b)]) (hf : f_law_c14 K L xs v1 v2 v3 v4 v5 w = some w') : W p l e room_1 s m #[Value.ref b] below meth c H locs (439 + 7 * jz) (21347 + 42 * jz) (lw_Z below #[Value.ref b] s) (F0 m 911 ls []) := by
  obtain ⟨hx, hb, hml, hown, hts, hKs, hT, hb0, hlocks, hret⟩ := id C
  have hc9 : (439 + 7 * jz) + 7 ≤ 601024 := by omega
  have hs9 : (21347 + 42 * jz) + 42 ≤ 7293034 := by omega
  unfold f_law_c14 at hf
  refine hl_aload_n hx hb dL_law_911 rfl (lv_at hl 4 rfl) ?_
  refine lv_aload_n hx hb dL_law_912 rfl (lv_at hl 5 rfl) ?_
  refine lv_iload hx hb dL_law_913 (lv_at hl 0 rfl) ?_
  refine lv_iconst (v := 1) hx hb dL_law_915 (by decide) ?_
  refine lv_iadd hx hb dL_law_916 ?_
  obtain ⟨j1, hj1, hf⟩ := bnd hf
  refine hw_sld hx hb hX hbl hbA hH hj1 dL_law_917 ?_
  refine lv_aload_n hx hb dL_law_918 rfl (lv_at hl 5 rfl) ?_
  refine lv_iload hx hb dL_law_919 (lv_at hl 0 rfl) ?_
  refine lv_iconst (v := 2) hx hb dL_law_921 (by decide) ?_
  refine lv_iadd hx hb dL_law_922 ?_
  obtain ⟨j2, hj2, hf⟩ := bnd hf
  refine hw_sld hx hb hX hbl hbA hH hj2 dL_law_923 ?_
  refine hl_aload_n hx hb dL_law_924 rfl (lv_at hl 2 rfl) ?_
  obtain ⟨q3, hq3, hf⟩ := bnd hf
  refine hcW hH (vx_runSW (As := [rv E v1, .int ((xs j1)), .int ((xs j2)), rv E v3]) (rest := []) ⟨hx, hb, hml, hown, hts⟩ (k_L_matter l hls E K H.size v1 (xs j1) (xs j2) v3 w hq3) (vx_cwSW (hh := [(0, 10, 13, 29)]) _ hts (gW m5_138 m5_139 m1_0 m5_140) rfl rfl rfl hs_L_matter ⟨Nat.le_of_ble_eq_true rfl, Nat.le_of_ble_eq_true rfl⟩) ⟨HB.blind, HB.pre hKs hT hb0 hH⟩ rfl rfl hl.1 rfl (lv_room rc0) dL_law_925 ⟨(Nat.le_trans (Nat.add_le_add_left (Nat.le_of_ble_eq_true rfl : 2 ≤ 7) _) hc9), (Nat.le_trans (Nat.add_le_add_left (Nat.le_of_ble_eq_true rfl : 12 ≤ 42) _) hs9)⟩) (fun H locs hH => ?_)
  refine lv_istore (i := 6) (lv' := [(6, .int (q3.1)), (5, .int v5), (4, rv E v4), (3, rv E v3), (2, rv E v2), (1, rv E v1), (0, .ref b)]) hx hb dL_law_928 hl (by decide) rfl (fun ls hl => ?_)
  refine hl_aload_n hx hb dL_law_930 rfl (lv_at hl 4 rfl) ?_
  refine lv_aload_n hx hb dL_law_931 rfl (lv_at hl 6 rfl) ?_
  refine lv_iload hx hb dL_law_932 (lv_at hl 1 rfl) ?_
  refine lv_iconst (v := 1) hx hb dL_law_934 (by decide) ?_
  refine lv_iadd hx hb dL_law_935 ?_
  obtain ⟨j4, hj4, hf⟩ := bnd hf
  refine hw_sld hx hb hX hbl hbA hH hj4 dL_law_936 ?_
  refine lv_aload_n hx hb dL_law_937 rfl (lv_at hl 6 rfl) ?_
  refine lv_iload hx hb dL_law_938 (lv_at hl 1 rfl) ?_
  refine lv_iconst (v := 2) hx hb dL_law_940 (by decide) ?_
  refine lv_iadd hx hb dL_law_941 ?_
  obtain ⟨j5, hj5, hf⟩ := bnd hf
  refine hw_sld hx hb hX hbl hbA hH hj5 dL_law_942 ?_
  obtain ⟨a6, ha6, hf⟩ := bnd hf
  replace ha6 := chk_some ha6
  obtain ⟨q7, hq7, hf⟩ := bnd hf
  refine hcV_i hx hb hml hown hts hKs hT hb0 hH (As := [.int ((xs j4)), .int ((xs j5))]) (rest := []) (k_X13_matter l E K H.size a6 (xs j4) (xs j5) q3.2 ha6.2 hq7) (gV m7_142 m7_143 m7_144 m1_16 m7_145) hd_X13_matter ⟨Nat.le_of_ble_eq_true rfl, Nat.le_of_ble_eq_true rfl, rfl, rfl⟩ ha6.1 ha6.2 rfl rfl rfl hl.1 rfl rc0 rfl dL_law_943 ⟨(Nat.le_trans (Nat.add_le_add_left (Nat.le_of_ble_eq_true rfl : 2 ≤ 7) _) hc9), (Nat.le_trans (Nat.add_le_add_left (Nat.le_of_ble_eq_true rfl : 12 ≤ 42) _) hs9)⟩ (fun H locs hH => ?_)
  refine lv_istore (i := 7) (lv' := [(7, .int (q7.1)), (6, .int (q3.1)), (5, .int v5), (4, rv E v4), (3, rv E v3), (2, rv E v2), (1, rv E v1), (0, .ref b)]) hx hb dL_law_946 hl (by decide) rfl (fun ls hl => ?_)
  refine hl_aload_n hx hb dL_law_948 rfl (lv_at hl 5 rfl) ?_
  obtain ⟨q8, hq8, hf⟩ := bnd hf
  refine hcV_i hx hb hml hown hts hKs hT hb0 hH (As := []) (rest := []) (k_X13_thrown l E K H.size a6 q7.2 ha6.2 hq8) (gV m7_60 m7_61 m7_62 m1_16 m7_63) hd_X13_thrown ⟨Nat.le_of_ble_eq_true rfl, Nat.le_of_ble_eq_true rfl, rfl, rfl⟩ ha6.1 ha6.2 rfl rfl rfl hl.1 rfl rc0 rfl dL_law_949 ⟨(Nat.le_trans (Nat.add_le_add_left (Nat.le_of_ble_eq_true rfl : 2 ≤ 7) _) hc9), (Nat.le_trans (Nat.add_le_add_left (Nat.le_of_ble_eq_true rfl : 12 ≤ 42) _) hs9)⟩ (fun H locs hH => ?_)
  refine lv_iload hx hb dL_law_952 (lv_at hl 1 rfl) ?_
  refine lv_icmp_eq (tgt := 959) hx hb dL_law_954 (by decide) (fun c9 => ?_) (fun c9 => ?_)
  · replace hf := (if_pos c9).symm.trans hf
    refine lv_iload hx hb dL_law_959 (lv_at hl 1 rfl) ?_
    refine lv_if_ne (tgt := 976) hx hb dL_law_961 (by decide) (fun c10 => ?_) (fun c10 => ?_)
    · replace hf := (if_neg c10).symm.trans hf
      refine lv_goto (tgt := 2519) hx hb dL_law_976 (by decide) ?_
      cases hf
      refine W.widen (k := 439 + 7 * (jz + 1)) (n := 21347 + 42 * (jz + 1)) (by omega) (by omega) ?_
      exact hk _ _ _ _ hH (lv_sub hl [2, 3, 4, 5, 6, 7] rfl)
    · replace hf := (if_pos c10).symm.trans hf
      refine hl_aload_n hx hb dL_law_964 rfl (lv_at hl 4 rfl) ?_
      refine lv_iconst (v := 0) hx hb dL_law_965 (by decide) ?_
      obtain ⟨a11, ha11, hf⟩ := bnd hf
      replace ha11 := cha_some ha11
      obtain ⟨j12, hj12, hf⟩ := bnd hf
      refine hw_lald hx hb hKs hH ha11.1 ha11.2 hj12 dL_law_966 ?_
      refine lv_iload hx hb dL_law_967 (lv_at hl 0 rfl) ?_
      refine lv_i2l (v := (q7.1.toInt64)) hx hb dL_law_969 rfl ?_
      refine W.lcmp hx hb dL_law_970 ?_
      refine lv_if_eq (tgt := 976) hx hb dL_law_971 (by decide) (fun c13 => ?_) (fun c13 => ?_)
      · replace hf := (if_pos c13).symm.trans hf
        refine lv_goto (tgt := 2519) hx hb dL_law_976 (by decide) ?_
        cases hf
        refine W.widen (k := 439 + 7 * (jz + 1)) (n := 21347 + 42 * (jz + 1)) (by omega) (by omega) ?_
        exact hk _ _ _ _ hH (lv_sub hl [2, 3, 4, 5, 6, 7] rfl)
      · replace hf := (if_neg c13).symm.trans hf
        refine lv_iconst (v := 0) hx hb dL_law_974 (by decide) ?_
        cases hf
  · replace hf := (if_neg c9).symm.trans hf
    refine lv_iconst (v := 0) hx hb dL_law_957 (by decide) ?_
    cases hf
set_option maxHeartbeats 4000000 in
set_option maxRecDepth 100000 in
theorem law_c15 {p : Program} {l : Launch} {e : Env} {s : State} {m : MethodId} {below : List Frame} {meth : Method} {c : Code} {E : Ev} {K : Kd} {b L : Nat} {xs : Nat → Int32} (hls : l.stackTraces = false) (hX : va_X b L xs s s.heap) (hbl : b < s.heap.size) (hbA : ¬ hA E b) (C : CX p l e s m #[Value.ref b] meth c code 10 RL ret E) {v1 v2 v3 v4 : Option Nat} {v5 : Int32} {w w' : Wd} {H : Heap} {locs : List Loc} {ls : Array Slot} {z jz : Nat} (hj : jz < 514) (hk : ∀ (H : Heap) (locs : List Loc) (ls : Array Slot) (z : Nat), HQ E K z w' s H locs → lv_has ls 10 [(5, .int v5), (4, rv E v4), (3, rv E v3), (2, rv E v2), (1, rv E v1), (0, .ref b)] → W p l e room_1 s m #[Value.ref b] below meth c H locs (439 + 7 * (jz + 1)) (21347 + 42 * (jz + 1)) (lw_Z below #[Value.ref b] s) (F0 m 2519 ls [])) (hH : HQ E K z w s H locs) (hl : lv_has ls 10 [(5, .int v5), (4, rv E v4), (3, rv E v3), (2, rv E v2), (1, rv E v1), (0, .ref b)]) (hf : f_law_c15 K L xs v1 v2 v3 v4 v5 w = some w') : W p l e room_1 s m #[Value.ref b] below meth c H locs (439 + 7 * jz) (21347 + 42 * jz) (lw_Z below #[Value.ref b] s) (F0 m 979 ls []) := by
  obtain ⟨hx, hb, hml, hown, hts, hKs, hT, hb0, hlocks, hret⟩ := id C
  have hc9 : (439 + 7 * jz) + 7 ≤ 601024 := by omega
  have hs9 : (21347 + 42 * jz) + 42 ≤ 7293034 := by omega
  unfold f_law_c15 at hf
  refine hl_aload_n hx hb dL_law_979 rfl (lv_at hl 4 rfl) ?_
  refine lv_aload_n hx hb dL_law_980 rfl (lv_at hl 5 rfl) ?_
  refine lv_iload hx hb dL_law_981 (lv_at hl 0 rfl) ?_
  refine lv_iconst (v := 1) hx hb dL_law_983 (by decide) ?_
  refine lv_iadd hx hb dL_law_984 ?_
  obtain ⟨j1, hj1, hf⟩ := bnd hf
  refine hw_sld hx hb hX hbl hbA hH hj1 dL_law_985 ?_
  refine lv_aload_n hx hb dL_law_986 rfl (lv_at hl 5 rfl) ?_
  refine lv_iload hx hb dL_law_987 (lv_at hl 0 rfl) ?_
  refine lv_iconst (v := 2) hx hb dL_law_989 (by decide) ?_
  refine lv_iadd hx hb dL_law_990 ?_
  obtain ⟨j2, hj2, hf⟩ := bnd hf
  refine hw_sld hx hb hX hbl hbA hH hj2 dL_law_991 ?_
  refine hl_aload_n hx hb dL_law_992 rfl (lv_at hl 2 rfl) ?_
  obtain ⟨q3, hq3, hf⟩ := bnd hf
  refine hcW hH (vx_runSW (As := [rv E v1, .int ((xs j1)), .int ((xs j2)), rv E v3]) (rest := []) ⟨hx, hb, hml, hown, hts⟩ (k_L_hearing l hls E K H.size v1 (xs j1) (xs j2) v3 w hq3) (vx_cwSW (hh := [(0, 10, 13, 29)]) _ hts (gW m5_147 m5_148 m1_0 m5_149) rfl rfl rfl hs_L_hearing ⟨Nat.le_of_ble_eq_true rfl, Nat.le_of_ble_eq_true rfl⟩) ⟨HB.blind, HB.pre hKs hT hb0 hH⟩ rfl rfl hl.1 rfl (lv_room rc0) dL_law_993 ⟨(Nat.le_trans (Nat.add_le_add_left (Nat.le_of_ble_eq_true rfl : 2 ≤ 7) _) hc9), (Nat.le_trans (Nat.add_le_add_left (Nat.le_of_ble_eq_true rfl : 12 ≤ 42) _) hs9)⟩) (fun H locs hH => ?_)
  refine lv_istore (i := 6) (lv' := [(6, .int (q3.1)), (5, .int v5), (4, rv E v4), (3, rv E v3), (2, rv E v2), (1, rv E v1), (0, .ref b)]) hx hb dL_law_996 hl (by decide) rfl (fun ls hl => ?_)
  refine hl_aload_n hx hb dL_law_998 rfl (lv_at hl 4 rfl) ?_
  refine lv_aload_n hx hb dL_law_999 rfl (lv_at hl 6 rfl) ?_
  refine lv_iload hx hb dL_law_1000 (lv_at hl 1 rfl) ?_
  refine lv_iconst (v := 1) hx hb dL_law_1002 (by decide) ?_
  refine lv_iadd hx hb dL_law_1003 ?_
  obtain ⟨j4, hj4, hf⟩ := bnd hf
  refine hw_sld hx hb hX hbl hbA hH hj4 dL_law_1004 ?_
  refine lv_aload_n hx hb dL_law_1005 rfl (lv_at hl 6 rfl) ?_
  refine lv_iload hx hb dL_law_1006 (lv_at hl 1 rfl) ?_
  refine lv_iconst (v := 2) hx hb dL_law_1008 (by decide) ?_
  refine lv_iadd hx hb dL_law_1009 ?_
  obtain ⟨j5, hj5, hf⟩ := bnd hf
  refine hw_sld hx hb hX hbl hbA hH hj5 dL_law_1010 ?_
  obtain ⟨a6, ha6, hf⟩ := bnd hf
  replace ha6 := chk_some ha6
  obtain ⟨q7, hq7, hf⟩ := bnd hf
  refine hcV_i hx hb hml hown hts hKs hT hb0 hH (As := [.int ((xs j4)), .int ((xs j5))]) (rest := []) (k_X13_hearing l E K H.size a6 (xs j4) (xs j5) q3.2 ha6.2 hq7) (gV m7_150 m7_151 m7_152 m1_16 m7_153) hd_X13_hearing ⟨Nat.le_of_ble_eq_true rfl, Nat.le_of_ble_eq_true rfl, rfl, rfl⟩ ha6.1 ha6.2 rfl rfl rfl hl.1 rfl rc0 rfl dL_law_1011 ⟨(Nat.le_trans (Nat.add_le_add_left (Nat.le_of_ble_eq_true rfl : 2 ≤ 7) _) hc9), (Nat.le_trans (Nat.add_le_add_left (Nat.le_of_ble_eq_true rfl : 12 ≤ 42) _) hs9)⟩ (fun H locs hH => ?_)
  refine lv_istore (i := 7) (lv' := [(7, .int (q7.1)), (6, .int (q3.1)), (5, .int v5), (4, rv E v4), (3, rv E v3), (2, rv E v2), (1, rv E v1), (0, .ref b)]) hx hb dL_law_1014 hl (by decide) rfl (fun ls hl => ?_)
  refine hl_aload_n hx hb dL_law_1016 rfl (lv_at hl 5 rfl) ?_
  obtain ⟨q8, hq8, hf⟩ := bnd hf
  refine hcV_i hx hb hml hown hts hKs hT hb0 hH (As := []) (rest := []) (k_X13_thrown l E K H.size a6 q7.2 ha6.2 hq8) (gV m7_60 m7_61 m7_62 m1_16 m7_63) hd_X13_thrown ⟨Nat.le_of_ble_eq_true rfl, Nat.le_of_ble_eq_true rfl, rfl, rfl⟩ ha6.1 ha6.2 rfl rfl rfl hl.1 rfl rc0 rfl dL_law_1017 ⟨(Nat.le_trans (Nat.add_le_add_left (Nat.le_of_ble_eq_true rfl : 2 ≤ 7) _) hc9), (Nat.le_trans (Nat.add_le_add_left (Nat.le_of_ble_eq_true rfl : 12 ≤ 42) _) hs9)⟩ (fun H locs hH => ?_)
  refine lv_iload hx hb dL_law_1020 (lv_at hl 1 rfl) ?_
  refine lv_icmp_eq (tgt := 1027) hx hb dL_law_1022 (by decide) (fun c9 => ?_) (fun c9 => ?_)
  · replace hf := (if_pos c9).symm.trans hf
    refine lv_iload hx hb dL_law_1027 (lv_at hl 1 rfl) ?_
    refine lv_if_ne (tgt := 1044) hx hb dL_law_1029 (by decide) (fun c10 => ?_) (fun c10 => ?_)
    · replace hf := (if_neg c10).symm.trans hf
      refine lv_goto (tgt := 2519) hx hb dL_law_1044 (by decide) ?_
      cases hf
      refine W.widen (k := 439 + 7 * (jz + 1)) (n := 21347 + 42 * (jz + 1)) (by omega) (by omega) ?_
      exact hk _ _ _ _ hH (lv_sub hl [2, 3, 4, 5, 6, 7] rfl)
    · replace hf := (if_pos c10).symm.trans hf
      refine hl_aload_n hx hb dL_law_1032 rfl (lv_at hl 4 rfl) ?_
      refine lv_iconst (v := 0) hx hb dL_law_1033 (by decide) ?_
      obtain ⟨a11, ha11, hf⟩ := bnd hf
      replace ha11 := cha_some ha11
      obtain ⟨j12, hj12, hf⟩ := bnd hf
      refine hw_lald hx hb hKs hH ha11.1 ha11.2 hj12 dL_law_1034 ?_
      refine lv_iload hx hb dL_law_1035 (lv_at hl 0 rfl) ?_
      refine lv_i2l (v := (q7.1.toInt64)) hx hb dL_law_1037 rfl ?_
      refine W.lcmp hx hb dL_law_1038 ?_
      refine lv_if_eq (tgt := 1044) hx hb dL_law_1039 (by decide) (fun c13 => ?_) (fun c13 => ?_)
      · replace hf := (if_pos c13).symm.trans hf
        refine lv_goto (tgt := 2519) hx hb dL_law_1044 (by decide) ?_
        cases hf
        refine W.widen (k := 439 + 7 * (jz + 1)) (n := 21347 + 42 * (jz + 1)) (by omega) (by omega) ?_
        exact hk _ _ _ _ hH (lv_sub hl [2, 3, 4, 5, 6, 7] rfl)
      · replace hf := (if_neg c13).symm.trans hf
        refine lv_iconst (v := 0) hx hb dL_law_1042 (by decide) ?_
        cases hf
  · replace hf := (if_neg c9).symm.trans hf
    refine lv_iconst (v := 0) hx hb dL_law_1025 (by decide) ?_
    cases hf
set_option maxHeartbeats 4000000 in
set_option maxRecDepth 100000 in
theorem law_c16 {p : Program} {l : Launch} {e : Env} {s : State} {m : MethodId} {below : List Frame} {meth : Method} {c : Code} {E : Ev} {K : Kd} {b L : Nat} {xs : Nat → Int32} (hls : l.stackTraces = false) (hX : va_X b L xs s s.heap) (hbl : b < s.heap.size) (hbA : ¬ hA E b) (C : CX p l e s m #[Value.ref b] meth c code 10 RL ret E) {v1 v2 v3 v4 : Option Nat} {v5 : Int32} {w w' : Wd} {H : Heap} {locs : List Loc} {ls : Array Slot} {z jz : Nat} (hj : jz < 514) (hk : ∀ (H : Heap) (locs : List Loc) (ls : Array Slot) (z : Nat), HQ E K z w' s H locs → lv_has ls 10 [(5, .int v5), (4, rv E v4), (3, rv E v3), (2, rv E v2), (1, rv E v1), (0, .ref b)] → W p l e room_1 s m #[Value.ref b] below meth c H locs (439 + 7 * (jz + 1)) (21347 + 42 * (jz + 1)) (lw_Z below #[Value.ref b] s) (F0 m 2519 ls [])) (hH : HQ E K z w s H locs) (hl : lv_has ls 10 [(5, .int v5), (4, rv E v4), (3, rv E v3), (2, rv E v2), (1, rv E v1), (0, .ref b)]) (hf : f_law_c16 K L xs v1 v2 v3 v4 v5 w = some w') : W p l e room_1 s m #[Value.ref b] below meth c H locs (439 + 7 * jz) (21347 + 42 * jz) (lw_Z below #[Value.ref b] s) (F0 m 1047 ls []) := by
  obtain ⟨hx, hb, hml, hown, hts, hKs, hT, hb0, hlocks, hret⟩ := id C
  have hc9 : (439 + 7 * jz) + 7 ≤ 601024 := by omega
  have hs9 : (21347 + 42 * jz) + 42 ≤ 7293034 := by omega
  unfold f_law_c16 at hf
  refine hl_aload_n hx hb dL_law_1047 rfl (lv_at hl 4 rfl) ?_
  refine lv_aload_n hx hb dL_law_1048 rfl (lv_at hl 5 rfl) ?_
  refine lv_iload hx hb dL_law_1049 (lv_at hl 0 rfl) ?_
  refine lv_iconst (v := 1) hx hb dL_law_1051 (by decide) ?_
  refine lv_iadd hx hb dL_law_1052 ?_
  obtain ⟨j1, hj1, hf⟩ := bnd hf
  refine hw_sld hx hb hX hbl hbA hH hj1 dL_law_1053 ?_
  refine lv_aload_n hx hb dL_law_1054 rfl (lv_at hl 5 rfl) ?_
  refine lv_iload hx hb dL_law_1055 (lv_at hl 0 rfl) ?_
  refine lv_iconst (v := 2) hx hb dL_law_1057 (by decide) ?_
  refine lv_iadd hx hb dL_law_1058 ?_
  obtain ⟨j2, hj2, hf⟩ := bnd hf
  refine hw_sld hx hb hX hbl hbA hH hj2 dL_law_1059 ?_
  refine lv_aload_n hx hb dL_law_1060 rfl (lv_at hl 5 rfl) ?_
  refine lv_iload hx hb dL_law_1061 (lv_at hl 0 rfl) ?_
  refine lv_iconst (v := 3) hx hb dL_law_1063 (by decide) ?_
  refine lv_iadd hx hb dL_law_1064 ?_
  obtain ⟨j3, hj3, hf⟩ := bnd hf
  refine hw_sld hx hb hX hbl hbA hH hj3 dL_law_1065 ?_
  refine hl_aload_n hx hb dL_law_1066 rfl (lv_at hl 2 rfl) ?_
  obtain ⟨q4, hq4, hf⟩ := bnd hf
  refine hcW hH (vx_runSW (As := [rv E v1, .int ((xs j1)), .int ((xs j2)), .int ((xs j3)), rv E v3]) (rest := []) ⟨hx, hb, hml, hown, hts⟩ (k_L_adjournment l hls E K H.size v1 (xs j1) (xs j2) (xs j3) v3 w hq4) (vx_cwSW (hh := [(0, 12, 15, 29)]) _ hts (gW m5_154 m5_155 m1_0 m5_156) rfl rfl rfl hs_L_adjournment ⟨Nat.le_of_ble_eq_true rfl, Nat.le_of_ble_eq_true rfl⟩) ⟨HB.blind, HB.pre hKs hT hb0 hH⟩ rfl rfl hl.1 rfl (lv_room rc0) dL_law_1067 ⟨(Nat.le_trans (Nat.add_le_add_left (Nat.le_of_ble_eq_true rfl : 2 ≤ 7) _) hc9), (Nat.le_trans (Nat.add_le_add_left (Nat.le_of_ble_eq_true rfl : 12 ≤ 42) _) hs9)⟩) (fun H locs hH => ?_)
  refine lv_istore (i := 6) (lv' := [(6, .int (q4.1)), (5, .int v5), (4, rv E v4), (3, rv E v3), (2, rv E v2), (1, rv E v1), (0, .ref b)]) hx hb dL_law_1070 hl (by decide) rfl (fun ls hl => ?_)
  refine hl_aload_n hx hb dL_law_1072 rfl (lv_at hl 4 rfl) ?_
  refine lv_aload_n hx hb dL_law_1073 rfl (lv_at hl 6 rfl) ?_
  refine lv_iload hx hb dL_law_1074 (lv_at hl 1 rfl) ?_
  refine lv_iconst (v := 1) hx hb dL_law_1076 (by decide) ?_
  refine lv_iadd hx hb dL_law_1077 ?_
  obtain ⟨j5, hj5, hf⟩ := bnd hf
  refine hw_sld hx hb hX hbl hbA hH hj5 dL_law_1078 ?_
  refine lv_aload_n hx hb dL_law_1079 rfl (lv_at hl 6 rfl) ?_
  refine lv_iload hx hb dL_law_1080 (lv_at hl 1 rfl) ?_
  refine lv_iconst (v := 2) hx hb dL_law_1082 (by decide) ?_
  refine lv_iadd hx hb dL_law_1083 ?_
  obtain ⟨j6, hj6, hf⟩ := bnd hf
  refine hw_sld hx hb hX hbl hbA hH hj6 dL_law_1084 ?_
  refine lv_aload_n hx hb dL_law_1085 rfl (lv_at hl 6 rfl) ?_
  refine lv_iload hx hb dL_law_1086 (lv_at hl 1 rfl) ?_
  refine lv_iconst (v := 3) hx hb dL_law_1088 (by decide) ?_
  refine lv_iadd hx hb dL_law_1089 ?_
  obtain ⟨j7, hj7, hf⟩ := bnd hf
  refine hw_sld hx hb hX hbl hbA hH hj7 dL_law_1090 ?_
  obtain ⟨a8, ha8, hf⟩ := bnd hf
  replace ha8 := chk_some ha8
  obtain ⟨q9, hq9, hf⟩ := bnd hf
  refine hcV_i hx hb hml hown hts hKs hT hb0 hH (As := [.int ((xs j5)), .int ((xs j6)), .int ((xs j7))]) (rest := []) (k_X13_adjournment l E K H.size a8 (xs j5) (xs j6) (xs j7) q4.2 ha8.2 hq9) (gV m7_159 m7_160 m7_161 m1_16 m7_162) hd_X13_adjournment ⟨Nat.le_of_ble_eq_true rfl, Nat.le_of_ble_eq_true rfl, rfl, rfl⟩ ha8.1 ha8.2 rfl rfl rfl hl.1 rfl rc0 rfl dL_law_1091 ⟨(Nat.le_trans (Nat.add_le_add_left (Nat.le_of_ble_eq_true rfl : 2 ≤ 7) _) hc9), (Nat.le_trans (Nat.add_le_add_left (Nat.le_of_ble_eq_true rfl : 12 ≤ 42) _) hs9)⟩ (fun H locs hH => ?_)
  refine lv_istore (i := 7) (lv' := [(7, .int (q9.1)), (6, .int (q4.1)), (5, .int v5), (4, rv E v4), (3, rv E v3), (2, rv E v2), (1, rv E v1), (0, .ref b)]) hx hb dL_law_1094 hl (by decide) rfl (fun ls hl => ?_)
  refine hl_aload_n hx hb dL_law_1096 rfl (lv_at hl 5 rfl) ?_
  obtain ⟨q10, hq10, hf⟩ := bnd hf
  refine hcV_i hx hb hml hown hts hKs hT hb0 hH (As := []) (rest := []) (k_X13_thrown l E K H.size a8 q9.2 ha8.2 hq10) (gV m7_60 m7_61 m7_62 m1_16 m7_63) hd_X13_thrown ⟨Nat.le_of_ble_eq_true rfl, Nat.le_of_ble_eq_true rfl, rfl, rfl⟩ ha8.1 ha8.2 rfl rfl rfl hl.1 rfl rc0 rfl dL_law_1097 ⟨(Nat.le_trans (Nat.add_le_add_left (Nat.le_of_ble_eq_true rfl : 2 ≤ 7) _) hc9), (Nat.le_trans (Nat.add_le_add_left (Nat.le_of_ble_eq_true rfl : 12 ≤ 42) _) hs9)⟩ (fun H locs hH => ?_)
  refine lv_iload hx hb dL_law_1100 (lv_at hl 1 rfl) ?_
  refine lv_icmp_eq (tgt := 1107) hx hb dL_law_1102 (by decide) (fun c11 => ?_) (fun c11 => ?_)
  · replace hf := (if_pos c11).symm.trans hf
    refine lv_iload hx hb dL_law_1107 (lv_at hl 1 rfl) ?_
    refine lv_if_ne (tgt := 1124) hx hb dL_law_1109 (by decide) (fun c12 => ?_) (fun c12 => ?_)
    · replace hf := (if_neg c12).symm.trans hf
      refine lv_goto (tgt := 2519) hx hb dL_law_1124 (by decide) ?_
      cases hf
      refine W.widen (k := 439 + 7 * (jz + 1)) (n := 21347 + 42 * (jz + 1)) (by omega) (by omega) ?_
      exact hk _ _ _ _ hH (lv_sub hl [2, 3, 4, 5, 6, 7] rfl)
    · replace hf := (if_pos c12).symm.trans hf
      refine hl_aload_n hx hb dL_law_1112 rfl (lv_at hl 4 rfl) ?_
      refine lv_iconst (v := 0) hx hb dL_law_1113 (by decide) ?_
      obtain ⟨a13, ha13, hf⟩ := bnd hf
      replace ha13 := cha_some ha13
      obtain ⟨j14, hj14, hf⟩ := bnd hf
      refine hw_lald hx hb hKs hH ha13.1 ha13.2 hj14 dL_law_1114 ?_
      refine lv_iload hx hb dL_law_1115 (lv_at hl 0 rfl) ?_
      refine lv_i2l (v := (q9.1.toInt64)) hx hb dL_law_1117 rfl ?_
      refine W.lcmp hx hb dL_law_1118 ?_
      refine lv_if_eq (tgt := 1124) hx hb dL_law_1119 (by decide) (fun c15 => ?_) (fun c15 => ?_)
      · replace hf := (if_pos c15).symm.trans hf
        refine lv_goto (tgt := 2519) hx hb dL_law_1124 (by decide) ?_
        cases hf
        refine W.widen (k := 439 + 7 * (jz + 1)) (n := 21347 + 42 * (jz + 1)) (by omega) (by omega) ?_
        exact hk _ _ _ _ hH (lv_sub hl [2, 3, 4, 5, 6, 7] rfl)
      · replace hf := (if_neg c15).symm.trans hf
        refine lv_iconst (v := 0) hx hb dL_law_1122 (by decide) ?_
        cases hf
  · replace hf := (if_neg c11).symm.trans hf
    refine lv_iconst (v := 0) hx hb dL_law_1105 (by decide) ?_
    cases hf
set_option maxHeartbeats 4000000 in
set_option maxRecDepth 100000 in
theorem law_c17 {p : Program} {l : Launch} {e : Env} {s : State} {m : MethodId} {below : List Frame} {meth : Method} {c : Code} {E : Ev} {K : Kd} {b L : Nat} {xs : Nat → Int32} (hls : l.stackTraces = false) (hX : va_X b L xs s s.heap) (hbl : b < s.heap.size) (hbA : ¬ hA E b) (C : CX p l e s m #[Value.ref b] meth c code 10 RL ret E) {v1 v2 v3 v4 : Option Nat} {v5 : Int32} {w w' : Wd} {H : Heap} {locs : List Loc} {ls : Array Slot} {z jz : Nat} (hj : jz < 514) (hk : ∀ (H : Heap) (locs : List Loc) (ls : Array Slot) (z : Nat), HQ E K z w' s H locs → lv_has ls 10 [(5, .int v5), (4, rv E v4), (3, rv E v3), (2, rv E v2), (1, rv E v1), (0, .ref b)] → W p l e room_1 s m #[Value.ref b] below meth c H locs (439 + 7 * (jz + 1)) (21347 + 42 * (jz + 1)) (lw_Z below #[Value.ref b] s) (F0 m 2519 ls [])) (hH : HQ E K z w s H locs) (hl : lv_has ls 10 [(5, .int v5), (4, rv E v4), (3, rv E v3), (2, rv E v2), (1, rv E v1), (0, .ref b)]) (hf : f_law_c17 K L xs v1 v2 v3 v4 v5 w = some w') : W p l e room_1 s m #[Value.ref b] below meth c H locs (439 + 7 * jz) (21347 + 42 * jz) (lw_Z below #[Value.ref b] s) (F0 m 1127 ls []) := by
  obtain ⟨hx, hb, hml, hown, hts, hKs, hT, hb0, hlocks, hret⟩ := id C
  have hc9 : (439 + 7 * jz) + 7 ≤ 601024 := by omega
  have hs9 : (21347 + 42 * jz) + 42 ≤ 7293034 := by omega
  unfold f_law_c17 at hf
  refine hl_aload_n hx hb dL_law_1127 rfl (lv_at hl 4 rfl) ?_
  refine lv_aload_n hx hb dL_law_1128 rfl (lv_at hl 5 rfl) ?_
  refine lv_iload hx hb dL_law_1129 (lv_at hl 0 rfl) ?_
  refine lv_iconst (v := 1) hx hb dL_law_1131 (by decide) ?_
  refine lv_iadd hx hb dL_law_1132 ?_
  obtain ⟨j1, hj1, hf⟩ := bnd hf
  refine hw_sld hx hb hX hbl hbA hH hj1 dL_law_1133 ?_
  refine lv_aload_n hx hb dL_law_1134 rfl (lv_at hl 5 rfl) ?_
  refine lv_iload hx hb dL_law_1135 (lv_at hl 0 rfl) ?_
  refine lv_iconst (v := 2) hx hb dL_law_1137 (by decide) ?_
  refine lv_iadd hx hb dL_law_1138 ?_
  obtain ⟨j2, hj2, hf⟩ := bnd hf
  refine hw_sld hx hb hX hbl hbA hH hj2 dL_law_1139 ?_
  refine lv_aload_n hx hb dL_law_1140 rfl (lv_at hl 5 rfl) ?_
  refine lv_iload hx hb dL_law_1141 (lv_at hl 0 rfl) ?_
  refine lv_iconst (v := 3) hx hb dL_law_1143 (by decide) ?_
  refine lv_iadd hx hb dL_law_1144 ?_
  obtain ⟨j3, hj3, hf⟩ := bnd hf
  refine hw_sld hx hb hX hbl hbA hH hj3 dL_law_1145 ?_
  refine hl_aload_n hx hb dL_law_1146 rfl (lv_at hl 2 rfl) ?_
  obtain ⟨q4, hq4, hf⟩ := bnd hf
  refine hcW hH (vx_runSW (As := [rv E v1, .int ((xs j1)), .int ((xs j2)), .int ((xs j3)), rv E v3]) (rest := []) ⟨hx, hb, hml, hown, hts⟩ (k_L_caseAt l hls E K H.size v1 (xs j1) (xs j2) (xs j3) v3 w hq4) (vx_cwSW (hh := [(0, 12, 15, 29), (0, 12, 19, 13)]) _ hts (gW m5_161 m5_162 m1_0 m5_163) rfl rfl rfl hs_L_caseAt ⟨Nat.le_of_ble_eq_true rfl, Nat.le_of_ble_eq_true rfl⟩) ⟨HB.blind, HB.pre hKs hT hb0 hH⟩ rfl rfl hl.1 rfl (lv_room rc0) dL_law_1147 ⟨(Nat.le_trans (Nat.add_le_add_left (Nat.le_of_ble_eq_true rfl : 3 ≤ 7) _) hc9), (Nat.le_trans (Nat.add_le_add_left (Nat.le_of_ble_eq_true rfl : 18 ≤ 42) _) hs9)⟩) (fun H locs hH => ?_)
  refine lv_istore (i := 6) (lv' := [(6, .int (q4.1)), (5, .int v5), (4, rv E v4), (3, rv E v3), (2, rv E v2), (1, rv E v1), (0, .ref b)]) hx hb dL_law_1150 hl (by decide) rfl (fun ls hl => ?_)
  refine hl_aload_n hx hb dL_law_1152 rfl (lv_at hl 4 rfl) ?_
  refine lv_aload_n hx hb dL_law_1153 rfl (lv_at hl 6 rfl) ?_
  refine lv_iload hx hb dL_law_1154 (lv_at hl 1 rfl) ?_
  refine lv_iconst (v := 1) hx hb dL_law_1156 (by decide) ?_
  refine lv_iadd hx hb dL_law_1157 ?_
  obtain ⟨j5, hj5, hf⟩ := bnd hf
  refine hw_sld hx hb hX hbl hbA hH hj5 dL_law_1158 ?_
  refine lv_aload_n hx hb dL_law_1159 rfl (lv_at hl 6 rfl) ?_
  refine lv_iload hx hb dL_law_1160 (lv_at hl 1 rfl) ?_
  refine lv_iconst (v := 2) hx hb dL_law_1162 (by decide) ?_
  refine lv_iadd hx hb dL_law_1163 ?_
  obtain ⟨j6, hj6, hf⟩ := bnd hf
  refine hw_sld hx hb hX hbl hbA hH hj6 dL_law_1164 ?_
  refine lv_aload_n hx hb dL_law_1165 rfl (lv_at hl 6 rfl) ?_
  refine lv_iload hx hb dL_law_1166 (lv_at hl 1 rfl) ?_
  refine lv_iconst (v := 3) hx hb dL_law_1168 (by decide) ?_
  refine lv_iadd hx hb dL_law_1169 ?_
  obtain ⟨j7, hj7, hf⟩ := bnd hf
  refine hw_sld hx hb hX hbl hbA hH hj7 dL_law_1170 ?_
  obtain ⟨a8, ha8, hf⟩ := bnd hf
  replace ha8 := chk_some ha8
  obtain ⟨q9, hq9, hf⟩ := bnd hf
  refine hcV_i hx hb hml hown hts hKs hT hb0 hH (As := [.int ((xs j5)), .int ((xs j6)), .int ((xs j7))]) (rest := []) (k_X13_caseAt l E K H.size a8 (xs j5) (xs j6) (xs j7) q4.2 ha8.2 hq9) (gV m8_167 m8_168 m8_169 m1_16 m8_170) hd_X13_caseAt ⟨Nat.le_of_ble_eq_true rfl, Nat.le_of_ble_eq_true rfl, rfl, rfl⟩ ha8.1 ha8.2 rfl rfl rfl hl.1 rfl rc0 rfl dL_law_1171 ⟨(Nat.le_trans (Nat.add_le_add_left (Nat.le_of_ble_eq_true rfl : 3 ≤ 7) _) hc9), (Nat.le_trans (Nat.add_le_add_left (Nat.le_of_ble_eq_true rfl : 18 ≤ 42) _) hs9)⟩ (fun H locs hH => ?_)
  refine lv_istore (i := 7) (lv' := [(7, .int (q9.1)), (6, .int (q4.1)), (5, .int v5), (4, rv E v4), (3, rv E v3), (2, rv E v2), (1, rv E v1), (0, .ref b)]) hx hb dL_law_1174 hl (by decide) rfl (fun ls hl => ?_)
  refine hl_aload_n hx hb dL_law_1176 rfl (lv_at hl 5 rfl) ?_
  obtain ⟨q10, hq10, hf⟩ := bnd hf
  refine hcV_i hx hb hml hown hts hKs hT hb0 hH (As := []) (rest := []) (k_X13_thrown l E K H.size a8 q9.2 ha8.2 hq10) (gV m7_60 m7_61 m7_62 m1_16 m7_63) hd_X13_thrown ⟨Nat.le_of_ble_eq_true rfl, Nat.le_of_ble_eq_true rfl, rfl, rfl⟩ ha8.1 ha8.2 rfl rfl rfl hl.1 rfl rc0 rfl dL_law_1177 ⟨(Nat.le_trans (Nat.add_le_add_left (Nat.le_of_ble_eq_true rfl : 3 ≤ 7) _) hc9), (Nat.le_trans (Nat.add_le_add_left (Nat.le_of_ble_eq_true rfl : 18 ≤ 42) _) hs9)⟩ (fun H locs hH => ?_)
  refine lv_iload hx hb dL_law_1180 (lv_at hl 1 rfl) ?_
  refine lv_icmp_eq (tgt := 1187) hx hb dL_law_1182 (by decide) (fun c11 => ?_) (fun c11 => ?_)
  · replace hf := (if_pos c11).symm.trans hf
    refine lv_iload hx hb dL_law_1187 (lv_at hl 1 rfl) ?_
    refine lv_if_ne (tgt := 1204) hx hb dL_law_1189 (by decide) (fun c12 => ?_) (fun c12 => ?_)
    · replace hf := (if_neg c12).symm.trans hf
      refine lv_goto (tgt := 2519) hx hb dL_law_1204 (by decide) ?_
      cases hf
      refine W.widen (k := 439 + 7 * (jz + 1)) (n := 21347 + 42 * (jz + 1)) (by omega) (by omega) ?_
      exact hk _ _ _ _ hH (lv_sub hl [2, 3, 4, 5, 6, 7] rfl)
    · replace hf := (if_pos c12).symm.trans hf
      refine hl_aload_n hx hb dL_law_1192 rfl (lv_at hl 4 rfl) ?_
      refine lv_iconst (v := 0) hx hb dL_law_1193 (by decide) ?_
      obtain ⟨a13, ha13, hf⟩ := bnd hf
      replace ha13 := cha_some ha13
      obtain ⟨j14, hj14, hf⟩ := bnd hf
      refine hw_lald hx hb hKs hH ha13.1 ha13.2 hj14 dL_law_1194 ?_
      refine lv_iload hx hb dL_law_1195 (lv_at hl 0 rfl) ?_
      refine lv_i2l (v := (q9.1.toInt64)) hx hb dL_law_1197 rfl ?_
      refine W.lcmp hx hb dL_law_1198 ?_
      refine lv_if_eq (tgt := 1204) hx hb dL_law_1199 (by decide) (fun c15 => ?_) (fun c15 => ?_)
      · replace hf := (if_pos c15).symm.trans hf
        refine lv_goto (tgt := 2519) hx hb dL_law_1204 (by decide) ?_
        cases hf
        refine W.widen (k := 439 + 7 * (jz + 1)) (n := 21347 + 42 * (jz + 1)) (by omega) (by omega) ?_
        exact hk _ _ _ _ hH (lv_sub hl [2, 3, 4, 5, 6, 7] rfl)
      · replace hf := (if_neg c15).symm.trans hf
        refine lv_iconst (v := 0) hx hb dL_law_1202 (by decide) ?_
        cases hf
  · replace hf := (if_neg c11).symm.trans hf
    refine lv_iconst (v := 0) hx hb dL_law_1185 (by decide) ?_
    cases hf
set_option maxHeartbeats 4000000 in
set_option maxRecDepth 100000 in
theorem law_c18 {p : Program} {l : Launch} {e : Env} {s : State} {m : MethodId} {below : List Frame} {meth : Method} {c : Code} {E : Ev} {K : Kd} {b L : Nat} {xs : Nat → Int32} (hls : l.stackTraces = false) (hX : va_X b L xs s s.heap) (hbl : b < s.heap.size) (hbA : ¬ hA E b) (C : CX p l e s m #[Value.ref b] meth c code 10 RL ret E) {v1 v2 v3 v4 : Option Nat} {v5 : Int32} {w w' : Wd} {H : Heap} {locs : List Loc} {ls : Array Slot} {z jz : Nat} (hj : jz < 514) (hk : ∀ (H : Heap) (locs : List Loc) (ls : Array Slot) (z : Nat), HQ E K z w' s H locs → lv_has ls 10 [(5, .int v5), (4, rv E v4), (3, rv E v3), (2, rv E v2), (1, rv E v1), (0, .ref b)] → W p l e room_1 s m #[Value.ref b] below meth c H locs (439 + 7 * (jz + 1)) (21347 + 42 * (jz + 1)) (lw_Z below #[Value.ref b] s) (F0 m 2519 ls [])) (hH : HQ E K z w s H locs) (hl : lv_has ls 10 [(5, .int v5), (4, rv E v4), (3, rv E v3), (2, rv E v2), (1, rv E v1), (0, .ref b)]) (hf : f_law_c18 K L xs v1 v2 v3 v4 v5 w = some w') : W p l e room_1 s m #[Value.ref b] below meth c H locs (439 + 7 * jz) (21347 + 42 * jz) (lw_Z below #[Value.ref b] s) (F0 m 1207 ls []) := by
  obtain ⟨hx, hb, hml, hown, hts, hKs, hT, hb0, hlocks, hret⟩ := id C
  have hc9 : (439 + 7 * jz) + 7 ≤ 601024 := by omega
  have hs9 : (21347 + 42 * jz) + 42 ≤ 7293034 := by omega
  unfold f_law_c18 at hf
  refine hl_aload_n hx hb dL_law_1207 rfl (lv_at hl 4 rfl) ?_
  refine lv_aload_n hx hb dL_law_1208 rfl (lv_at hl 5 rfl) ?_
  refine lv_iload hx hb dL_law_1209 (lv_at hl 0 rfl) ?_
  refine lv_iconst (v := 1) hx hb dL_law_1211 (by decide) ?_
  refine lv_iadd hx hb dL_law_1212 ?_
  obtain ⟨j1, hj1, hf⟩ := bnd hf
  refine hw_sld hx hb hX hbl hbA hH hj1 dL_law_1213 ?_
  refine lv_aload_n hx hb dL_law_1214 rfl (lv_at hl 5 rfl) ?_
  refine lv_iload hx hb dL_law_1215 (lv_at hl 0 rfl) ?_
  refine lv_iconst (v := 2) hx hb dL_law_1217 (by decide) ?_
  refine lv_iadd hx hb dL_law_1218 ?_
  obtain ⟨j2, hj2, hf⟩ := bnd hf
  refine hw_sld hx hb hX hbl hbA hH hj2 dL_law_1219 ?_
  refine lv_aload_n hx hb dL_law_1220 rfl (lv_at hl 5 rfl) ?_
  refine lv_iload hx hb dL_law_1221 (lv_at hl 0 rfl) ?_
  refine lv_iconst (v := 3) hx hb dL_law_1223 (by decide) ?_
  refine lv_iadd hx hb dL_law_1224 ?_
  obtain ⟨j3, hj3, hf⟩ := bnd hf
  refine hw_sld hx hb hX hbl hbA hH hj3 dL_law_1225 ?_
  refine lv_aload_n hx hb dL_law_1226 rfl (lv_at hl 5 rfl) ?_
  refine lv_iload hx hb dL_law_1227 (lv_at hl 0 rfl) ?_
  refine lv_iconst (v := 4) hx hb dL_law_1229 (by decide) ?_
  refine lv_iadd hx hb dL_law_1230 ?_
  obtain ⟨j4, hj4, hf⟩ := bnd hf
  refine hw_sld hx hb hX hbl hbA hH hj4 dL_law_1231 ?_
  refine lv_aload_n hx hb dL_law_1232 rfl (lv_at hl 5 rfl) ?_
  refine lv_iload hx hb dL_law_1233 (lv_at hl 0 rfl) ?_
  refine lv_iconst (v := 5) hx hb dL_law_1235 (by decide) ?_
  refine lv_iadd hx hb dL_law_1236 ?_
  obtain ⟨j5, hj5, hf⟩ := bnd hf
  refine hw_sld hx hb hX hbl hbA hH hj5 dL_law_1237 ?_
  refine hl_aload_n hx hb dL_law_1238 rfl (lv_at hl 2 rfl) ?_
  obtain ⟨q6, hq6, hf⟩ := bnd hf
  refine hcW hH (vx_runSW (As := [rv E v1, .int ((xs j1)), .int ((xs j2)), .int ((xs j3)), .int ((xs j4)), .int ((xs j5)), rv E v3]) (rest := []) ⟨hx, hb, hml, hown, hts⟩ (k_L_problem l hls E K H.size v1 (xs j1) (xs j2) (xs j3) (xs j4) (xs j5) v3 w hq6) (vx_cwSW (hh := [(0, 16, 19, 29), (0, 16, 23, 13), (0, 16, 27, 58)]) _ hts (gW m5_178 m5_179 m1_0 m5_180) rfl rfl rfl hs_L_problem ⟨Nat.le_of_ble_eq_true rfl, Nat.le_of_ble_eq_true rfl⟩) ⟨HB.blind, HB.pre hKs hT hb0 hH⟩ rfl rfl hl.1 rfl (lv_room rc0) dL_law_1239 ⟨(Nat.le_trans (Nat.add_le_add_left (Nat.le_of_ble_eq_true rfl : 6 ≤ 7) _) hc9), (Nat.le_trans (Nat.add_le_add_left (Nat.le_of_ble_eq_true rfl : 36 ≤ 42) _) hs9)⟩) (fun H locs hH => ?_)
  refine lv_istore (i := 6) (lv' := [(6, .int (q6.1)), (5, .int v5), (4, rv E v4), (3, rv E v3), (2, rv E v2), (1, rv E v1), (0, .ref b)]) hx hb dL_law_1242 hl (by decide) rfl (fun ls hl => ?_)
  refine hl_aload_n hx hb dL_law_1244 rfl (lv_at hl 4 rfl) ?_
  refine lv_aload_n hx hb dL_law_1245 rfl (lv_at hl 6 rfl) ?_
  refine lv_iload hx hb dL_law_1246 (lv_at hl 1 rfl) ?_
  refine lv_iconst (v := 1) hx hb dL_law_1248 (by decide) ?_
  refine lv_iadd hx hb dL_law_1249 ?_
  obtain ⟨j7, hj7, hf⟩ := bnd hf
  refine hw_sld hx hb hX hbl hbA hH hj7 dL_law_1250 ?_
  refine lv_aload_n hx hb dL_law_1251 rfl (lv_at hl 6 rfl) ?_
  refine lv_iload hx hb dL_law_1252 (lv_at hl 1 rfl) ?_
  refine lv_iconst (v := 2) hx hb dL_law_1254 (by decide) ?_
  refine lv_iadd hx hb dL_law_1255 ?_
  obtain ⟨j8, hj8, hf⟩ := bnd hf
  refine hw_sld hx hb hX hbl hbA hH hj8 dL_law_1256 ?_
  refine lv_aload_n hx hb dL_law_1257 rfl (lv_at hl 6 rfl) ?_
  refine lv_iload hx hb dL_law_1258 (lv_at hl 1 rfl) ?_
  refine lv_iconst (v := 3) hx hb dL_law_1260 (by decide) ?_
  refine lv_iadd hx hb dL_law_1261 ?_
  obtain ⟨j9, hj9, hf⟩ := bnd hf
  refine hw_sld hx hb hX hbl hbA hH hj9 dL_law_1262 ?_
  refine lv_aload_n hx hb dL_law_1263 rfl (lv_at hl 6 rfl) ?_
  refine lv_iload hx hb dL_law_1264 (lv_at hl 1 rfl) ?_
  refine lv_iconst (v := 4) hx hb dL_law_1266 (by decide) ?_
  refine lv_iadd hx hb dL_law_1267 ?_
  obtain ⟨j10, hj10, hf⟩ := bnd hf
  refine hw_sld hx hb hX hbl hbA hH hj10 dL_law_1268 ?_
  refine lv_aload_n hx hb dL_law_1269 rfl (lv_at hl 6 rfl) ?_
  refine lv_iload hx hb dL_law_1270 (lv_at hl 1 rfl) ?_
  refine lv_iconst (v := 5) hx hb dL_law_1272 (by decide) ?_
  refine lv_iadd hx hb dL_law_1273 ?_
  obtain ⟨j11, hj11, hf⟩ := bnd hf
  refine hw_sld hx hb hX hbl hbA hH hj11 dL_law_1274 ?_
  obtain ⟨a12, ha12, hf⟩ := bnd hf
  replace ha12 := chk_some ha12
  obtain ⟨q13, hq13, hf⟩ := bnd hf
  refine hcV_i hx hb hml hown hts hKs hT hb0 hH (As := [.int ((xs j7)), .int ((xs j8)), .int ((xs j9)), .int ((xs j10)), .int ((xs j11))]) (rest := []) (k_X13_problem l E K H.size a12 (xs j7) (xs j8) (xs j9) (xs j10) (xs j11) q6.2 ha12.2 hq13) (gV m7_163 m7_164 m7_165 m1_16 m7_166) hd_X13_problem ⟨Nat.le_of_ble_eq_true rfl, Nat.le_of_ble_eq_true rfl, rfl, rfl⟩ ha12.1 ha12.2 rfl rfl rfl hl.1 rfl rc0 rfl dL_law_1275 ⟨(Nat.le_trans (Nat.add_le_add_left (Nat.le_of_ble_eq_true rfl : 6 ≤ 7) _) hc9), (Nat.le_trans (Nat.add_le_add_left (Nat.le_of_ble_eq_true rfl : 36 ≤ 42) _) hs9)⟩ (fun H locs hH => ?_)
  refine lv_istore (i := 7) (lv' := [(7, .int (q13.1)), (6, .int (q6.1)), (5, .int v5), (4, rv E v4), (3, rv E v3), (2, rv E v2), (1, rv E v1), (0, .ref b)]) hx hb dL_law_1278 hl (by decide) rfl (fun ls hl => ?_)
  refine hl_aload_n hx hb dL_law_1280 rfl (lv_at hl 5 rfl) ?_
  obtain ⟨q14, hq14, hf⟩ := bnd hf
  refine hcV_i hx hb hml hown hts hKs hT hb0 hH (As := []) (rest := []) (k_X13_thrown l E K H.size a12 q13.2 ha12.2 hq14) (gV m7_60 m7_61 m7_62 m1_16 m7_63) hd_X13_thrown ⟨Nat.le_of_ble_eq_true rfl, Nat.le_of_ble_eq_true rfl, rfl, rfl⟩ ha12.1 ha12.2 rfl rfl rfl hl.1 rfl rc0 rfl dL_law_1281 ⟨(Nat.le_trans (Nat.add_le_add_left (Nat.le_of_ble_eq_true rfl : 6 ≤ 7) _) hc9), (Nat.le_trans (Nat.add_le_add_left (Nat.le_of_ble_eq_true rfl : 36 ≤ 42) _) hs9)⟩ (fun H locs hH => ?_)
  refine lv_iload hx hb dL_law_1284 (lv_at hl 1 rfl) ?_
  refine lv_icmp_eq (tgt := 1291) hx hb dL_law_1286 (by decide) (fun c15 => ?_) (fun c15 => ?_)
  · replace hf := (if_pos c15).symm.trans hf
    refine lv_iload hx hb dL_law_1291 (lv_at hl 1 rfl) ?_
    refine lv_if_ne (tgt := 1308) hx hb dL_law_1293 (by decide) (fun c16 => ?_) (fun c16 => ?_)
    · replace hf := (if_neg c16).symm.trans hf
      refine lv_goto (tgt := 2519) hx hb dL_law_1308 (by decide) ?_
      cases hf
      refine W.widen (k := 439 + 7 * (jz + 1)) (n := 21347 + 42 * (jz + 1)) (by omega) (by omega) ?_
      exact hk _ _ _ _ hH (lv_sub hl [2, 3, 4, 5, 6, 7] rfl)
    · replace hf := (if_pos c16).symm.trans hf
      refine hl_aload_n hx hb dL_law_1296 rfl (lv_at hl 4 rfl) ?_
      refine lv_iconst (v := 0) hx hb dL_law_1297 (by decide) ?_
      obtain ⟨a17, ha17, hf⟩ := bnd hf
      replace ha17 := cha_some ha17
      obtain ⟨j18, hj18, hf⟩ := bnd hf
      refine hw_lald hx hb hKs hH ha17.1 ha17.2 hj18 dL_law_1298 ?_
      refine lv_iload hx hb dL_law_1299 (lv_at hl 0 rfl) ?_
      refine lv_i2l (v := (q13.1.toInt64)) hx hb dL_law_1301 rfl ?_
      refine W.lcmp hx hb dL_law_1302 ?_
      refine lv_if_eq (tgt := 1308) hx hb dL_law_1303 (by decide) (fun c19 => ?_) (fun c19 => ?_)
      · replace hf := (if_pos c19).symm.trans hf
        refine lv_goto (tgt := 2519) hx hb dL_law_1308 (by decide) ?_
        cases hf
        refine W.widen (k := 439 + 7 * (jz + 1)) (n := 21347 + 42 * (jz + 1)) (by omega) (by omega) ?_
        exact hk _ _ _ _ hH (lv_sub hl [2, 3, 4, 5, 6, 7] rfl)
      · replace hf := (if_neg c19).symm.trans hf
        refine lv_iconst (v := 0) hx hb dL_law_1306 (by decide) ?_
        cases hf
  · replace hf := (if_neg c15).symm.trans hf
    refine lv_iconst (v := 0) hx hb dL_law_1289 (by decide) ?_
    cases hf
set_option maxHeartbeats 4000000 in
set_option maxRecDepth 100000 in
theorem law_c19 {p : Program} {l : Launch} {e : Env} {s : State} {m : MethodId} {below : List Frame} {meth : Method} {c : Code} {E : Ev} {K : Kd} {b L : Nat} {xs : Nat → Int32} (hls : l.stackTraces = false) (hX : va_X b L xs s s.heap) (hbl : b < s.heap.size) (hbA : ¬ hA E b) (C : CX p l e s m #[Value.ref b] meth c code 10 RL ret E) {v1 v2 v3 v4 : Option Nat} {v5 : Int32} {w w' : Wd} {H : Heap} {locs : List Loc} {ls : Array Slot} {z jz : Nat} (hj : jz < 514) (hk : ∀ (H : Heap) (locs : List Loc) (ls : Array Slot) (z : Nat), HQ E K z w' s H locs → lv_has ls 10 [(5, .int v5), (4, rv E v4), (3, rv E v3), (2, rv E v2), (1, rv E v1), (0, .ref b)] → W p l e room_1 s m #[Value.ref b] below meth c H locs (439 + 7 * (jz + 1)) (21347 + 42 * (jz + 1)) (lw_Z below #[Value.ref b] s) (F0 m 2519 ls [])) (hH : HQ E K z w s H locs) (hl : lv_has ls 10 [(5, .int v5), (4, rv E v4), (3, rv E v3), (2, rv E v2), (1, rv E v1), (0, .ref b)]) (hf : f_law_c19 K L xs v1 v2 v3 v4 v5 w = some w') : W p l e room_1 s m #[Value.ref b] below meth c H locs (439 + 7 * jz) (21347 + 42 * jz) (lw_Z below #[Value.ref b] s) (F0 m 1311 ls []) := by
  obtain ⟨hx, hb, hml, hown, hts, hKs, hT, hb0, hlocks, hret⟩ := id C
  have hc9 : (439 + 7 * jz) + 7 ≤ 601024 := by omega
  have hs9 : (21347 + 42 * jz) + 42 ≤ 7293034 := by omega
  unfold f_law_c19 at hf
  refine hl_aload_n hx hb dL_law_1311 rfl (lv_at hl 4 rfl) ?_
  refine lv_aload_n hx hb dL_law_1312 rfl (lv_at hl 5 rfl) ?_
  refine lv_iload hx hb dL_law_1313 (lv_at hl 0 rfl) ?_
  refine lv_iconst (v := 1) hx hb dL_law_1315 (by decide) ?_
  refine lv_iadd hx hb dL_law_1316 ?_
  obtain ⟨j1, hj1, hf⟩ := bnd hf
  refine hw_sld hx hb hX hbl hbA hH hj1 dL_law_1317 ?_
  refine lv_aload_n hx hb dL_law_1318 rfl (lv_at hl 5 rfl) ?_
  refine lv_iload hx hb dL_law_1319 (lv_at hl 0 rfl) ?_
  refine lv_iconst (v := 2) hx hb dL_law_1321 (by decide) ?_
  refine lv_iadd hx hb dL_law_1322 ?_
  obtain ⟨j2, hj2, hf⟩ := bnd hf
  refine hw_sld hx hb hX hbl hbA hH hj2 dL_law_1323 ?_
  refine hl_aload_n hx hb dL_law_1324 rfl (lv_at hl 2 rfl) ?_
  obtain ⟨q3, hq3, hf⟩ := bnd hf
  refine hcW hH (vx_runSW (As := [rv E v1, .int ((xs j1)), .int ((xs j2)), rv E v3]) (rest := []) ⟨hx, hb, hml, hown, hts⟩ (k_L_opening l hls E K H.size v1 (xs j1) (xs j2) v3 w hq3) (vx_cwSW (hh := [(0, 10, 13, 29), (0, 10, 17, 58)]) _ hts (gW m5_213 m5_214 m1_0 m5_215) rfl rfl rfl hs_L_opening ⟨Nat.le_of_ble_eq_true rfl, Nat.le_of_ble_eq_true rfl⟩) ⟨HB.blind, HB.pre hKs hT hb0 hH⟩ rfl rfl hl.1 rfl (lv_room rc0) dL_law_1325 ⟨(Nat.le_trans (Nat.add_le_add_left (Nat.le_of_ble_eq_true rfl : 2 ≤ 7) _) hc9), (Nat.le_trans (Nat.add_le_add_left (Nat.le_of_ble_eq_true rfl : 12 ≤ 42) _) hs9)⟩) (fun H locs hH => ?_)
  refine lv_istore (i := 6) (lv' := [(6, .int (q3.1)), (5, .int v5), (4, rv E v4), (3, rv E v3), (2, rv E v2), (1, rv E v1), (0, .ref b)]) hx hb dL_law_1328 hl (by decide) rfl (fun ls hl => ?_)
  refine hl_aload_n hx hb dL_law_1330 rfl (lv_at hl 4 rfl) ?_
  refine lv_aload_n hx hb dL_law_1331 rfl (lv_at hl 6 rfl) ?_
  refine lv_iload hx hb dL_law_1332 (lv_at hl 1 rfl) ?_
  refine lv_iconst (v := 1) hx hb dL_law_1334 (by decide) ?_
  refine lv_iadd hx hb dL_law_1335 ?_
  obtain ⟨j4, hj4, hf⟩ := bnd hf
  refine hw_sld hx hb hX hbl hbA hH hj4 dL_law_1336 ?_
  refine lv_aload_n hx hb dL_law_1337 rfl (lv_at hl 6 rfl) ?_
  refine lv_iload hx hb dL_law_1338 (lv_at hl 1 rfl) ?_
  refine lv_iconst (v := 2) hx hb dL_law_1340 (by decide) ?_
  refine lv_iadd hx hb dL_law_1341 ?_
  obtain ⟨j5, hj5, hf⟩ := bnd hf
  refine hw_sld hx hb hX hbl hbA hH hj5 dL_law_1342 ?_
  obtain ⟨a6, ha6, hf⟩ := bnd hf
  replace ha6 := chk_some ha6
  obtain ⟨q7, hq7, hf⟩ := bnd hf
  refine hcV_i hx hb hml hown hts hKs hT hb0 hH (As := [.int ((xs j4)), .int ((xs j5))]) (rest := []) (k_X13_opening l E K H.size a6 (xs j4) (xs j5) q3.2 ha6.2 hq7) (gV m7_234 m7_235 m7_236 m1_16 m7_237) hd_X13_opening ⟨Nat.le_of_ble_eq_true rfl, Nat.le_of_ble_eq_true rfl, rfl, rfl⟩ ha6.1 ha6.2 rfl rfl rfl hl.1 rfl rc0 rfl dL_law_1343 ⟨(Nat.le_trans (Nat.add_le_add_left (Nat.le_of_ble_eq_true rfl : 2 ≤ 7) _) hc9), (Nat.le_trans (Nat.add_le_add_left (Nat.le_of_ble_eq_true rfl : 12 ≤ 42) _) hs9)⟩ (fun H locs hH => ?_)
  refine lv_istore (i := 7) (lv' := [(7, .int (q7.1)), (6, .int (q3.1)), (5, .int v5), (4, rv E v4), (3, rv E v3), (2, rv E v2), (1, rv E v1), (0, .ref b)]) hx hb dL_law_1346 hl (by decide) rfl (fun ls hl => ?_)
  refine hl_aload_n hx hb dL_law_1348 rfl (lv_at hl 5 rfl) ?_
  obtain ⟨q8, hq8, hf⟩ := bnd hf
  refine hcV_i hx hb hml hown hts hKs hT hb0 hH (As := []) (rest := []) (k_X13_thrown l E K H.size a6 q7.2 ha6.2 hq8) (gV m7_60 m7_61 m7_62 m1_16 m7_63) hd_X13_thrown ⟨Nat.le_of_ble_eq_true rfl, Nat.le_of_ble_eq_true rfl, rfl, rfl⟩ ha6.1 ha6.2 rfl rfl rfl hl.1 rfl rc0 rfl dL_law_1349 ⟨(Nat.le_trans (Nat.add_le_add_left (Nat.le_of_ble_eq_true rfl : 2 ≤ 7) _) hc9), (Nat.le_trans (Nat.add_le_add_left (Nat.le_of_ble_eq_true rfl : 12 ≤ 42) _) hs9)⟩ (fun H locs hH => ?_)
  refine lv_iload hx hb dL_law_1352 (lv_at hl 1 rfl) ?_
  refine lv_icmp_eq (tgt := 1359) hx hb dL_law_1354 (by decide) (fun c9 => ?_) (fun c9 => ?_)
  · replace hf := (if_pos c9).symm.trans hf
    refine lv_iload hx hb dL_law_1359 (lv_at hl 1 rfl) ?_
    refine lv_if_ne (tgt := 1376) hx hb dL_law_1361 (by decide) (fun c10 => ?_) (fun c10 => ?_)
    · replace hf := (if_neg c10).symm.trans hf
      refine lv_goto (tgt := 2519) hx hb dL_law_1376 (by decide) ?_
      cases hf
      refine W.widen (k := 439 + 7 * (jz + 1)) (n := 21347 + 42 * (jz + 1)) (by omega) (by omega) ?_
      exact hk _ _ _ _ hH (lv_sub hl [2, 3, 4, 5, 6, 7] rfl)
    · replace hf := (if_pos c10).symm.trans hf
      refine hl_aload_n hx hb dL_law_1364 rfl (lv_at hl 4 rfl) ?_
      refine lv_iconst (v := 0) hx hb dL_law_1365 (by decide) ?_
      obtain ⟨a11, ha11, hf⟩ := bnd hf
      replace ha11 := cha_some ha11
      obtain ⟨j12, hj12, hf⟩ := bnd hf
      refine hw_lald hx hb hKs hH ha11.1 ha11.2 hj12 dL_law_1366 ?_
      refine lv_iload hx hb dL_law_1367 (lv_at hl 0 rfl) ?_
      refine lv_i2l (v := (q7.1.toInt64)) hx hb dL_law_1369 rfl ?_
      refine W.lcmp hx hb dL_law_1370 ?_
      refine lv_if_eq (tgt := 1376) hx hb dL_law_1371 (by decide) (fun c13 => ?_) (fun c13 => ?_)
      · replace hf := (if_pos c13).symm.trans hf
        refine lv_goto (tgt := 2519) hx hb dL_law_1376 (by decide) ?_
        cases hf
        refine W.widen (k := 439 + 7 * (jz + 1)) (n := 21347 + 42 * (jz + 1)) (by omega) (by omega) ?_
        exact hk _ _ _ _ hH (lv_sub hl [2, 3, 4, 5, 6, 7] rfl)
      · replace hf := (if_neg c13).symm.trans hf
        refine lv_iconst (v := 0) hx hb dL_law_1374 (by decide) ?_
        cases hf
  · replace hf := (if_neg c9).symm.trans hf
    refine lv_iconst (v := 0) hx hb dL_law_1357 (by decide) ?_
    cases hf
set_option maxHeartbeats 4000000 in
set_option maxRecDepth 100000 in
theorem law_c20 {p : Program} {l : Launch} {e : Env} {s : State} {m : MethodId} {below : List Frame} {meth : Method} {c : Code} {E : Ev} {K : Kd} {b L : Nat} {xs : Nat → Int32} (hls : l.stackTraces = false) (hX : va_X b L xs s s.heap) (hbl : b < s.heap.size) (hbA : ¬ hA E b) (C : CX p l e s m #[Value.ref b] meth c code 10 RL ret E) {v1 v2 v3 v4 : Option Nat} {v5 : Int32} {w w' : Wd} {H : Heap} {locs : List Loc} {ls : Array Slot} {z jz : Nat} (hj : jz < 514) (hk : ∀ (H : Heap) (locs : List Loc) (ls : Array Slot) (z : Nat), HQ E K z w' s H locs → lv_has ls 10 [(5, .int v5), (4, rv E v4), (3, rv E v3), (2, rv E v2), (1, rv E v1), (0, .ref b)] → W p l e room_1 s m #[Value.ref b] below meth c H locs (439 + 7 * (jz + 1)) (21347 + 42 * (jz + 1)) (lw_Z below #[Value.ref b] s) (F0 m 2519 ls [])) (hH : HQ E K z w s H locs) (hl : lv_has ls 10 [(5, .int v5), (4, rv E v4), (3, rv E v3), (2, rv E v2), (1, rv E v1), (0, .ref b)]) (hf : f_law_c20 K L xs v1 v2 v3 v4 v5 w = some w') : W p l e room_1 s m #[Value.ref b] below meth c H locs (439 + 7 * jz) (21347 + 42 * jz) (lw_Z below #[Value.ref b] s) (F0 m 1379 ls []) := by
  obtain ⟨hx, hb, hml, hown, hts, hKs, hT, hb0, hlocks, hret⟩ := id C
  have hc9 : (439 + 7 * jz) + 7 ≤ 601024 := by omega
  have hs9 : (21347 + 42 * jz) + 42 ≤ 7293034 := by omega
  unfold f_law_c20 at hf
  refine hl_aload_n hx hb dL_law_1379 rfl (lv_at hl 4 rfl) ?_
  refine lv_aload_n hx hb dL_law_1380 rfl (lv_at hl 5 rfl) ?_
  refine lv_iload hx hb dL_law_1381 (lv_at hl 0 rfl) ?_
  refine lv_iconst (v := 1) hx hb dL_law_1383 (by decide) ?_
  refine lv_iadd hx hb dL_law_1384 ?_
  obtain ⟨j1, hj1, hf⟩ := bnd hf
  refine hw_sld hx hb hX hbl hbA hH hj1 dL_law_1385 ?_
  refine hl_aload_n hx hb dL_law_1386 rfl (lv_at hl 2 rfl) ?_
  obtain ⟨q2, hq2, hf⟩ := bnd hf
  refine hcW hH (vx_runSW (As := [rv E v1, .int ((xs j1)), rv E v3]) (rest := []) ⟨hx, hb, hml, hown, hts⟩ (k_L_openDays l hls E K H.size v1 (xs j1) v3 w hq2) (vx_cwSW (hh := [(0, 9, 12, 29), (0, 9, 15, 58)]) _ hts (gW m5_221 m5_222 m1_0 m5_223) rfl rfl rfl hs_L_openDays ⟨Nat.le_of_ble_eq_true rfl, Nat.le_of_ble_eq_true rfl⟩) ⟨HB.blind, HB.pre hKs hT hb0 hH⟩ rfl rfl hl.1 rfl (lv_room rc0) dL_law_1387 ⟨(Nat.le_trans (Nat.add_le_add_left (Nat.le_of_ble_eq_true rfl : 2 ≤ 7) _) hc9), (Nat.le_trans (Nat.add_le_add_left (Nat.le_of_ble_eq_true rfl : 12 ≤ 42) _) hs9)⟩) (fun H locs hH => ?_)
  refine lv_istore (i := 6) (lv' := [(6, .int (q2.1)), (5, .int v5), (4, rv E v4), (3, rv E v3), (2, rv E v2), (1, rv E v1), (0, .ref b)]) hx hb dL_law_1390 hl (by decide) rfl (fun ls hl => ?_)
  refine hl_aload_n hx hb dL_law_1392 rfl (lv_at hl 4 rfl) ?_
  refine lv_aload_n hx hb dL_law_1393 rfl (lv_at hl 6 rfl) ?_
  refine lv_iload hx hb dL_law_1394 (lv_at hl 1 rfl) ?_
  refine lv_iconst (v := 1) hx hb dL_law_1396 (by decide) ?_
  refine lv_iadd hx hb dL_law_1397 ?_
  obtain ⟨j3, hj3, hf⟩ := bnd hf
  refine hw_sld hx hb hX hbl hbA hH hj3 dL_law_1398 ?_
  obtain ⟨a4, ha4, hf⟩ := bnd hf
  replace ha4 := chk_some ha4
  obtain ⟨q5, hq5, hf⟩ := bnd hf
  refine hcV_i hx hb hml hown hts hKs hT hb0 hH (As := [.int ((xs j3))]) (rest := []) (k_X13_openDays l E K H.size a4 (xs j3) q2.2 ha4.2 hq5) (gV m8_18 m8_19 m8_20 m1_16 m8_21) hd_X13_openDays ⟨Nat.le_of_ble_eq_true rfl, Nat.le_of_ble_eq_true rfl, rfl, rfl⟩ ha4.1 ha4.2 rfl rfl rfl hl.1 rfl rc0 rfl dL_law_1399 ⟨(Nat.le_trans (Nat.add_le_add_left (Nat.le_of_ble_eq_true rfl : 2 ≤ 7) _) hc9), (Nat.le_trans (Nat.add_le_add_left (Nat.le_of_ble_eq_true rfl : 12 ≤ 42) _) hs9)⟩ (fun H locs hH => ?_)
  refine lv_istore (i := 7) (lv' := [(7, .int (q5.1)), (6, .int (q2.1)), (5, .int v5), (4, rv E v4), (3, rv E v3), (2, rv E v2), (1, rv E v1), (0, .ref b)]) hx hb dL_law_1402 hl (by decide) rfl (fun ls hl => ?_)
  refine hl_aload_n hx hb dL_law_1404 rfl (lv_at hl 5 rfl) ?_
  obtain ⟨q6, hq6, hf⟩ := bnd hf
  refine hcV_i hx hb hml hown hts hKs hT hb0 hH (As := []) (rest := []) (k_X13_thrown l E K H.size a4 q5.2 ha4.2 hq6) (gV m7_60 m7_61 m7_62 m1_16 m7_63) hd_X13_thrown ⟨Nat.le_of_ble_eq_true rfl, Nat.le_of_ble_eq_true rfl, rfl, rfl⟩ ha4.1 ha4.2 rfl rfl rfl hl.1 rfl rc0 rfl dL_law_1405 ⟨(Nat.le_trans (Nat.add_le_add_left (Nat.le_of_ble_eq_true rfl : 2 ≤ 7) _) hc9), (Nat.le_trans (Nat.add_le_add_left (Nat.le_of_ble_eq_true rfl : 12 ≤ 42) _) hs9)⟩ (fun H locs hH => ?_)
  refine lv_iload hx hb dL_law_1408 (lv_at hl 1 rfl) ?_
  refine lv_icmp_eq (tgt := 1415) hx hb dL_law_1410 (by decide) (fun c7 => ?_) (fun c7 => ?_)
  · replace hf := (if_pos c7).symm.trans hf
    refine lv_iload hx hb dL_law_1415 (lv_at hl 1 rfl) ?_
    refine lv_if_ne (tgt := 1432) hx hb dL_law_1417 (by decide) (fun c8 => ?_) (fun c8 => ?_)
    · replace hf := (if_neg c8).symm.trans hf
      refine lv_goto (tgt := 2519) hx hb dL_law_1432 (by decide) ?_
      cases hf
      refine W.widen (k := 439 + 7 * (jz + 1)) (n := 21347 + 42 * (jz + 1)) (by omega) (by omega) ?_
      exact hk _ _ _ _ hH (lv_sub hl [2, 3, 4, 5, 6, 7] rfl)
    · replace hf := (if_pos c8).symm.trans hf
      refine hl_aload_n hx hb dL_law_1420 rfl (lv_at hl 4 rfl) ?_
      refine lv_iconst (v := 0) hx hb dL_law_1421 (by decide) ?_
      obtain ⟨a9, ha9, hf⟩ := bnd hf
      replace ha9 := cha_some ha9
      obtain ⟨j10, hj10, hf⟩ := bnd hf
      refine hw_lald hx hb hKs hH ha9.1 ha9.2 hj10 dL_law_1422 ?_
      refine lv_iload hx hb dL_law_1423 (lv_at hl 0 rfl) ?_
      refine lv_i2l (v := (q5.1.toInt64)) hx hb dL_law_1425 rfl ?_
      refine W.lcmp hx hb dL_law_1426 ?_
      refine lv_if_eq (tgt := 1432) hx hb dL_law_1427 (by decide) (fun c11 => ?_) (fun c11 => ?_)
      · replace hf := (if_pos c11).symm.trans hf
        refine lv_goto (tgt := 2519) hx hb dL_law_1432 (by decide) ?_
        cases hf
        refine W.widen (k := 439 + 7 * (jz + 1)) (n := 21347 + 42 * (jz + 1)) (by omega) (by omega) ?_
        exact hk _ _ _ _ hH (lv_sub hl [2, 3, 4, 5, 6, 7] rfl)
      · replace hf := (if_neg c11).symm.trans hf
        refine lv_iconst (v := 0) hx hb dL_law_1430 (by decide) ?_
        cases hf
  · replace hf := (if_neg c7).symm.trans hf
    refine lv_iconst (v := 0) hx hb dL_law_1413 (by decide) ?_
    cases hf
set_option maxHeartbeats 4000000 in
set_option maxRecDepth 100000 in
theorem law_c21 {p : Program} {l : Launch} {e : Env} {s : State} {m : MethodId} {below : List Frame} {meth : Method} {c : Code} {E : Ev} {K : Kd} {b L : Nat} {xs : Nat → Int32} (hls : l.stackTraces = false) (hX : va_X b L xs s s.heap) (hbl : b < s.heap.size) (hbA : ¬ hA E b) (C : CX p l e s m #[Value.ref b] meth c code 10 RL ret E) {v1 v2 v3 v4 : Option Nat} {v5 : Int32} {w w' : Wd} {H : Heap} {locs : List Loc} {ls : Array Slot} {z jz : Nat} (hj : jz < 514) (hk : ∀ (H : Heap) (locs : List Loc) (ls : Array Slot) (z : Nat), HQ E K z w' s H locs → lv_has ls 10 [(5, .int v5), (4, rv E v4), (3, rv E v3), (2, rv E v2), (1, rv E v1), (0, .ref b)] → W p l e room_1 s m #[Value.ref b] below meth c H locs (439 + 7 * (jz + 1)) (21347 + 42 * (jz + 1)) (lw_Z below #[Value.ref b] s) (F0 m 2519 ls [])) (hH : HQ E K z w s H locs) (hl : lv_has ls 10 [(5, .int v5), (4, rv E v4), (3, rv E v3), (2, rv E v2), (1, rv E v1), (0, .ref b)]) (hf : f_law_c21 K L xs v1 v2 v3 v4 v5 w = some w') : W p l e room_1 s m #[Value.ref b] below meth c H locs (439 + 7 * jz) (21347 + 42 * jz) (lw_Z below #[Value.ref b] s) (F0 m 1435 ls []) := by
  obtain ⟨hx, hb, hml, hown, hts, hKs, hT, hb0, hlocks, hret⟩ := id C
  have hc9 : (439 + 7 * jz) + 7 ≤ 601024 := by omega
  have hs9 : (21347 + 42 * jz) + 42 ≤ 7293034 := by omega
  unfold f_law_c21 at hf
  refine hl_aload_n hx hb dL_law_1435 rfl (lv_at hl 4 rfl) ?_
  refine lv_aload_n hx hb dL_law_1436 rfl (lv_at hl 5 rfl) ?_
  refine lv_iload hx hb dL_law_1437 (lv_at hl 0 rfl) ?_
  refine lv_iconst (v := 1) hx hb dL_law_1439 (by decide) ?_
  refine lv_iadd hx hb dL_law_1440 ?_
  obtain ⟨j1, hj1, hf⟩ := bnd hf
  refine hw_sld hx hb hX hbl hbA hH hj1 dL_law_1441 ?_
  refine hl_aload_n hx hb dL_law_1442 rfl (lv_at hl 2 rfl) ?_
  obtain ⟨q2, hq2, hf⟩ := bnd hf
  refine hcW hH (vx_runSW (As := [rv E v1, .int ((xs j1)), rv E v3]) (rest := []) ⟨hx, hb, hml, hown, hts⟩ (k_L_urgent l hls E K H.size v1 (xs j1) v3 w hq2) (vx_cwSW (hh := [(0, 9, 12, 69)]) _ hts (gW m5_232 m5_233 m1_0 m5_234) rfl rfl rfl hs_L_urgent ⟨Nat.le_of_ble_eq_true rfl, Nat.le_of_ble_eq_true rfl⟩) ⟨HB.blind, HB.pre hKs hT hb0 hH⟩ rfl rfl hl.1 rfl (lv_room rc0) dL_law_1443 ⟨(Nat.le_trans (Nat.add_le_add_left (Nat.le_of_ble_eq_true rfl : 1 ≤ 7) _) hc9), (Nat.le_trans (Nat.add_le_add_left (Nat.le_of_ble_eq_true rfl : 6 ≤ 42) _) hs9)⟩) (fun H locs hH => ?_)
  refine lv_istore (i := 6) (lv' := [(6, .int (q2.1)), (5, .int v5), (4, rv E v4), (3, rv E v3), (2, rv E v2), (1, rv E v1), (0, .ref b)]) hx hb dL_law_1446 hl (by decide) rfl (fun ls hl => ?_)
  refine hl_aload_n hx hb dL_law_1448 rfl (lv_at hl 4 rfl) ?_
  refine lv_aload_n hx hb dL_law_1449 rfl (lv_at hl 6 rfl) ?_
  refine lv_iload hx hb dL_law_1450 (lv_at hl 1 rfl) ?_
  refine lv_iconst (v := 1) hx hb dL_law_1452 (by decide) ?_
  refine lv_iadd hx hb dL_law_1453 ?_
  obtain ⟨j3, hj3, hf⟩ := bnd hf
  refine hw_sld hx hb hX hbl hbA hH hj3 dL_law_1454 ?_
  obtain ⟨a4, ha4, hf⟩ := bnd hf
  replace ha4 := chk_some ha4
  obtain ⟨q5, hq5, hf⟩ := bnd hf
  refine hcV_i hx hb hml hown hts hKs hT hb0 hH (As := [.int ((xs j3))]) (rest := []) (k_X13_urgent l E K H.size a4 (xs j3) q2.2 ha4.2 hq5) (gV m8_22 m8_23 m8_24 m1_16 m8_25) hd_X13_urgent ⟨Nat.le_of_ble_eq_true rfl, Nat.le_of_ble_eq_true rfl, rfl, rfl⟩ ha4.1 ha4.2 rfl rfl rfl hl.1 rfl rc0 rfl dL_law_1455 ⟨(Nat.le_trans (Nat.add_le_add_left (Nat.le_of_ble_eq_true rfl : 1 ≤ 7) _) hc9), (Nat.le_trans (Nat.add_le_add_left (Nat.le_of_ble_eq_true rfl : 6 ≤ 42) _) hs9)⟩ (fun H locs hH => ?_)
  refine lv_istore (i := 7) (lv' := [(7, .int (q5.1)), (6, .int (q2.1)), (5, .int v5), (4, rv E v4), (3, rv E v3), (2, rv E v2), (1, rv E v1), (0, .ref b)]) hx hb dL_law_1458 hl (by decide) rfl (fun ls hl => ?_)
  refine hl_aload_n hx hb dL_law_1460 rfl (lv_at hl 5 rfl) ?_
  obtain ⟨q6, hq6, hf⟩ := bnd hf
  refine hcV_i hx hb hml hown hts hKs hT hb0 hH (As := []) (rest := []) (k_X13_thrown l E K H.size a4 q5.2 ha4.2 hq6) (gV m7_60 m7_61 m7_62 m1_16 m7_63) hd_X13_thrown ⟨Nat.le_of_ble_eq_true rfl, Nat.le_of_ble_eq_true rfl, rfl, rfl⟩ ha4.1 ha4.2 rfl rfl rfl hl.1 rfl rc0 rfl dL_law_1461 ⟨(Nat.le_trans (Nat.add_le_add_left (Nat.le_of_ble_eq_true rfl : 1 ≤ 7) _) hc9), (Nat.le_trans (Nat.add_le_add_left (Nat.le_of_ble_eq_true rfl : 6 ≤ 42) _) hs9)⟩ (fun H locs hH => ?_)
  refine lv_iload hx hb dL_law_1464 (lv_at hl 1 rfl) ?_
  refine lv_icmp_eq (tgt := 1471) hx hb dL_law_1466 (by decide) (fun c7 => ?_) (fun c7 => ?_)
  · replace hf := (if_pos c7).symm.trans hf
    refine lv_iload hx hb dL_law_1471 (lv_at hl 1 rfl) ?_
    refine lv_if_ne (tgt := 1488) hx hb dL_law_1473 (by decide) (fun c8 => ?_) (fun c8 => ?_)
    · replace hf := (if_neg c8).symm.trans hf
      refine lv_goto (tgt := 2519) hx hb dL_law_1488 (by decide) ?_
      cases hf
      refine W.widen (k := 439 + 7 * (jz + 1)) (n := 21347 + 42 * (jz + 1)) (by omega) (by omega) ?_
      exact hk _ _ _ _ hH (lv_sub hl [2, 3, 4, 5, 6, 7] rfl)
    · replace hf := (if_pos c8).symm.trans hf
      refine hl_aload_n hx hb dL_law_1476 rfl (lv_at hl 4 rfl) ?_
      refine lv_iconst (v := 0) hx hb dL_law_1477 (by decide) ?_
      obtain ⟨a9, ha9, hf⟩ := bnd hf
      replace ha9 := cha_some ha9
      obtain ⟨j10, hj10, hf⟩ := bnd hf
      refine hw_lald hx hb hKs hH ha9.1 ha9.2 hj10 dL_law_1478 ?_
      refine lv_iload hx hb dL_law_1479 (lv_at hl 0 rfl) ?_
      refine lv_i2l (v := (q5.1.toInt64)) hx hb dL_law_1481 rfl ?_
      refine W.lcmp hx hb dL_law_1482 ?_
      refine lv_if_eq (tgt := 1488) hx hb dL_law_1483 (by decide) (fun c11 => ?_) (fun c11 => ?_)
      · replace hf := (if_pos c11).symm.trans hf
        refine lv_goto (tgt := 2519) hx hb dL_law_1488 (by decide) ?_
        cases hf
        refine W.widen (k := 439 + 7 * (jz + 1)) (n := 21347 + 42 * (jz + 1)) (by omega) (by omega) ?_
        exact hk _ _ _ _ hH (lv_sub hl [2, 3, 4, 5, 6, 7] rfl)
      · replace hf := (if_neg c11).symm.trans hf
        refine lv_iconst (v := 0) hx hb dL_law_1486 (by decide) ?_
        cases hf
  · replace hf := (if_neg c7).symm.trans hf
    refine lv_iconst (v := 0) hx hb dL_law_1469 (by decide) ?_
    cases hf
