/-! The change behind the forecasts. -/
set_option maxHeartbeats 4000000 in
set_option maxRecDepth 100000 in
theorem law_246 {p : Program} {l : Launch} {e : Env} {s : State} {m : MethodId} {below : List Frame} {meth : Method} {c : Code} {E : Ev} {X : Kd} {z : Nat} {w : Wd} {H : Heap} {locs : List Loc} {ls : Array Slot} {cells slots bb : Nat} {S T : Nat → Nat} {L : Nat} {xs : Nat → Int32} (hls : l.stackTraces = false) (hLX : LX E L xs) (hL : L < 2 ^ 31)  {many : Nat} {v4 v5 v6 v7 : Int32} {hs : Nat → Nat → Nat} (C : CX p l e s m #[Value.ref (E.2.2.2.1 500)] meth c code 9 RL ret E) (hE : E.2.1 = s.heap.size) (hS : S 0 = 2 ∧ S 1 = 2 ∧ S 2 = 2 ∧ S 3 = 4) (hmn : many ≤ 30) (hd : T 0 + 5 < 600) (hC : Cst w bb S T 0 hs) (hG : GI (fun _ => false) S T) (hH : HQ E (Kx X) z w s H locs) (hl : lv_has ls 9 [(8, .int (nI (cnt (fun i => cs T i 0 == 2) (S 3)))), (7, .int v7), (6, .int v6), (5, .int v5), (4, .int v4), (3, .int (nI (T 0))), (2, .int (nI many)), (1, rv E (some 0)), (0, .ref (E.2.2.2.1 500))]) (h1 : cells ≤ 800) (h2 : slots ≤ 180000) : W p l e room_1 s m #[Value.ref (E.2.2.2.1 500)] below meth c H locs cells slots (lw_Z below #[Value.ref (E.2.2.2.1 500)] s) (F0 m 246 ls []) := by
  obtain ⟨hx, hb, hml, hown, hts, hKs, hT, hb0, hlocks, hret⟩ := id C
  refine hl_aload_n hx hb dlaw_246 rfl (lv_at hl 7 rfl) ?_
  refine lv_aload_n hx hb dlaw_247 rfl (lv_at hl 8 rfl) ?_
  refine lv_iload_n hx hb dlaw_248 rfl (lv_at hl 6 rfl) ?_
  refine lv_bipush (v := 9) hx hb dlaw_249 (by decide) ?_
  refine lv_iadd hx hb dlaw_251 ?_
  have e9 : nI many + 9 = nI (many + 9) := nI_add many 9
  obtain ⟨w1, f1, T', m', hs', k1, k2, k3, k4⟩ := act_ok (X := X) hC hG hS.2.1 hS.2.2.1 hS.2.2.2 hL (xs := xs) (k := many + 9) (by omega) (by omega)
  rw [← e9] at f1
  refine hcWv hH (va_runS (As := [rv E (some 0), .ref (E.2.2.2.1 500), .int (nI many + 9)]) (rest := []) ⟨hx, hb, hml, hown, hts⟩ (k_L_act l hls E hLX (Kx X) H.size (some 0) (nI many + 9) _ f1) (va_cwS _ hts (gS m6_79 m6_80 m1_0 m6_81) rfl rfl rfl hs_L_act ⟨Nat.le_of_ble_eq_true rfl, Nat.le_of_ble_eq_true rfl⟩) ⟨HB.blind, HB.pre hKs hT hb0 hH⟩ rfl rfl hl.1 rfl (lv_room rc0) dlaw_252 ⟨rm_c (by omega), rm_s (by omega)⟩) (fun H locs z1 hH => ?_)
  refine law_255 (v2 := nI many) C hE ⟨hS.2.1, hS.2.2.2⟩ hG m' X _ w1 H locs ls _ _ T' hs' k1 ?_ hH hl (by omega) (by omega)
  rcases k4 with ⟨k4, k5, k6⟩ | ⟨k4, k5⟩
  · rw [k4, k5]; rfl
  · rw [k4, k5]; rfl
