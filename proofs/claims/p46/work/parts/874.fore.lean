/-! The forecasts, and what comes of them. -/
set_option maxHeartbeats 4000000 in
set_option maxRecDepth 100000 in
theorem law_86 {p : Program} {l : Launch} {e : Env} {s : State} {m : MethodId} {below : List Frame} {meth : Method} {c : Code} {E : Ev} {X : Kd} {z : Nat} {w : Wd} {H : Heap} {locs : List Loc} {ls : Array Slot} {cells slots bb : Nat} {S T : Nat → Nat} {L : Nat} {xs : Nat → Int32} (hls : l.stackTraces = false) (hLX : LX E L xs) (hL : L < 2 ^ 31) {many mm : Nat} {hs : Nat → Nat → Nat} (C : CX p l e s m #[Value.ref (E.2.2.2.1 500)] meth c code 9 RL ret E) (hE : E.2.1 = s.heap.size) (hS : S 0 = 2 ∧ S 1 = 2 ∧ S 2 = 2 ∧ S 3 = 4) (hmn : many ≤ 30) (hd : T 0 ≤ 200) (hC : Cst w bb S T mm hs) (hG : GI (fun _ => false) S T) (hH : HQ E (Kx X) z w s H locs) (hl : lv_has ls 9 [(2, .int (nI many)), (1, rv E (some 0)), (0, .ref (E.2.2.2.1 500))]) (h1 : cells ≤ 750) (h2 : slots ≤ 170000) : W p l e room_1 s m #[Value.ref (E.2.2.2.1 500)] below meth c H locs cells slots (lw_Z below #[Value.ref (E.2.2.2.1 500)] s) (F0 m 86 ls []) := by
  obtain ⟨hx, hb, hml, hown, hts, hKs, hT, hb0, hlocks, hret⟩ := id C
  have hD := drN_rg (L := L) (xs := xs) (a := 34) (lo := 1) (hi := 30) (by omega)
  refine hl_aload_n hx hb dlaw_86 rfl (lv_at hl 1 rfl) ?_
  refine lv_bipush (v := 7) hx hb dlaw_87 (by decide) ?_
  have q89 := n_count7 (X := X) hC.1
  refine hcV_i hx hb hml hown hts hKs hT hb0 hH (As := [.int 7]) (rest := []) (k_X12_count l E (Kx X) H.size 0 7 _ kx0 q89) (gV m3_17 m3_18 m3_19 m1_1 m3_20) hd_X12_count ⟨Nat.le_of_ble_eq_true rfl, Nat.le_of_ble_eq_true rfl, rfl, rfl⟩ rfl kx0 rfl rfl rfl hl.1 rfl rc0 rfl dlaw_89 ⟨rm_c (by omega), rm_s (by omega)⟩ (fun H locs hH => ?_)
  refine lv_istore_n (i := 3) (lv' := [(3, .int (nI (T 0))), (2, .int (nI many)), (1, rv E (some 0)), (0, .ref (E.2.2.2.1 500))]) hx hb dlaw_92 rfl hl (by decide) (by first | rfl | (simp [List.filter_cons, cat_q, cat_i, cat_j, imax, imin]; done) | (simp [List.filter_cons, cat_q, cat_i, cat_j, imax, imin]; rfl)) (fun ls hl => ?_)
  refine lv_aload_n hx hb dlaw_93 rfl (lv_at hl 3 rfl) ?_
  refine lv_bipush (v := 34) hx hb dlaw_94 (by decide) ?_
  refine lv_iconst (v := 1) hx hb dlaw_96 (by decide) ?_
  refine lv_bipush (v := 30) hx hb dlaw_97 (by decide) ?_
  have f34 := draw_i (K := Kx X) (xs := xs) hL (a := 34) (lo := 1) (hi := 30) (x := 34) (y := 1) (z := 30) rfl rfl rfl (by omega) (by omega) (by omega) (w := w)
  refine hcG_i hH (va_runS (As := [.ref (E.2.2.2.1 500), .int 34, .int 1, .int 30]) (rest := []) ⟨hx, hb, hml, hown, hts⟩ (k_L_draw l E hLX (Kx X) H.size 34 1 30 w f34) (va_cwS _ hts (gS m4_59 m4_60 m1_0 m4_61) rfl rfl rfl hs_L_draw ⟨Nat.le_of_ble_eq_true rfl, Nat.le_of_ble_eq_true rfl⟩) ⟨HB.blind, HB.pre hKs hT hb0 hH⟩ rfl rfl hl.1 rfl (lv_room rc0) dlaw_99 ⟨rm_c (by omega), rm_s (by omega)⟩) (fun H locs hH => ?_)
  generalize drN L xs 34 1 30 = D at hD ⊢
  refine lv_istore (i := 4) (lv' := [(4, .int (nI D)), (3, .int (nI (T 0))), (2, .int (nI many)), (1, rv E (some 0)), (0, .ref (E.2.2.2.1 500))]) hx hb dlaw_102 hl (by decide) (by first | rfl | (simp [List.filter_cons, cat_q, cat_i, cat_j, imax, imin]; done) | (simp [List.filter_cons, cat_q, cat_i, cat_j, imax, imin]; rfl)) (fun ls hl => ?_)
  refine hl_aload_n hx hb dlaw_104 rfl (lv_at hl 3 rfl) ?_
  refine lv_bipush (v := 13) hx hb dlaw_105 (by decide) ?_
  have q107 := n_count13 (X := X) hC.1
  refine hcV_i hx hb hml hown hts hKs hT hb0 hH (As := [.int 13]) (rest := []) (k_X12_count l E (Kx X) H.size 0 13 _ kx0 q107) (gV m3_17 m3_18 m3_19 m1_1 m3_20) hd_X12_count ⟨Nat.le_of_ble_eq_true rfl, Nat.le_of_ble_eq_true rfl, rfl, rfl⟩ rfl kx0 rfl rfl rfl hl.1 rfl rc0 rfl dlaw_107 ⟨rm_c (by omega), rm_s (by omega)⟩ (fun H locs hH => ?_)
  refine lv_istore (i := 5) (lv' := [(5, .int (nI (cnt (fun i => cs T i 0 == 3) (S 3)))), (4, .int (nI D)), (3, .int (nI (T 0))), (2, .int (nI many)), (1, rv E (some 0)), (0, .ref (E.2.2.2.1 500))]) hx hb dlaw_110 hl (by decide) (by first | rfl | (simp [List.filter_cons, cat_q, cat_i, cat_j, imax, imin]; done) | (simp [List.filter_cons, cat_q, cat_i, cat_j, imax, imin]; rfl)) (fun ls hl => ?_)
  refine hl_aload_n hx hb dlaw_112 rfl (lv_at hl 4 rfl) ?_
  refine lv_iload hx hb dlaw_113 (lv_at hl 1 rfl) ?_
  obtain ⟨w1, f1, hC1⟩ := n_lapsesIn (X := X) hC (n := D) (by omega) (by omega) (by omega)
  refine hcV_i hx hb hml hown hts hKs hT hb0 hH (As := [.int (nI D)]) (rest := []) (k_NX12_lapsesIn l E (Kx X) H.size 0 (nI D) w kx0 f1) (gV m4_39 m4_40 m4_41 m1_1 m4_42) hd_NX12_lapsesIn ⟨Nat.le_of_ble_eq_true rfl, Nat.le_of_ble_eq_true rfl, rfl, rfl⟩ rfl kx0 rfl rfl rfl hl.1 rfl rc0 rfl dlaw_115 ⟨rm_c (by omega), rm_s (by omega)⟩ (fun H locs hH => ?_)
  refine lv_istore (i := 6) (lv' := [(6, .int (nI (cnt (fun i => cs (phT T (T 0 + D) (fin S T D)) i 0 == 3) (S 3)) - nI (cnt (fun i => cs T i 0 == 3) (S 3)))), (5, .int (nI (cnt (fun i => cs T i 0 == 3) (S 3)))), (4, .int (nI D)), (3, .int (nI (T 0))), (2, .int (nI many)), (1, rv E (some 0)), (0, .ref (E.2.2.2.1 500))]) hx hb dlaw_118 hl (by decide) (by first | rfl | (simp [List.filter_cons, cat_q, cat_i, cat_j, imax, imin]; done) | (simp [List.filter_cons, cat_q, cat_i, cat_j, imax, imin]; rfl)) (fun ls hl => ?_)
  refine hl_aload_n hx hb dlaw_120 rfl (lv_at hl 5 rfl) ?_
  obtain ⟨w2, f2, hC2⟩ := n_plannable (X := X) hC1
  refine hcV_i hx hb hml hown hts hKs hT hb0 hH (As := []) (rest := []) (k_X12_plannable l E (Kx X) H.size 0 w1 kx0 f2) (gV m4_43 m4_44 m4_45 m1_1 m4_46) hd_X12_plannable ⟨Nat.le_of_ble_eq_true rfl, Nat.le_of_ble_eq_true rfl, rfl, rfl⟩ rfl kx0 rfl rfl rfl hl.1 rfl rc0 rfl dlaw_121 ⟨rm_c (by omega), rm_s (by omega)⟩ (fun H locs hH => ?_)
  refine lv_istore (i := 7) (lv' := [(7, .int (nI (plN S T (-nI 1)))), (6, .int (nI (cnt (fun i => cs (phT T (T 0 + D) (fin S T D)) i 0 == 3) (S 3)) - nI (cnt (fun i => cs T i 0 == 3) (S 3)))), (5, .int (nI (cnt (fun i => cs T i 0 == 3) (S 3)))), (4, .int (nI D)), (3, .int (nI (T 0))), (2, .int (nI many)), (1, rv E (some 0)), (0, .ref (E.2.2.2.1 500))]) hx hb dlaw_124 hl (by decide) (by first | rfl | (simp [List.filter_cons, cat_q, cat_i, cat_j, imax, imin]; done) | (simp [List.filter_cons, cat_q, cat_i, cat_j, imax, imin]; rfl)) (fun ls hl => ?_)
  refine hl_aload_n hx hb dlaw_126 rfl (lv_at hl 6 rfl) ?_
  obtain ⟨w3, f3, hC3, hV3⟩ := n_save (X := X) hC2
  refine hcV_i hx hb hml hown hts hKs hT hb0 hH (As := []) (rest := []) (k_X12_saveState l E (Kx X) H.size 0 w2 kx0 f3) (gV m4_51 m4_52 m4_53 m1_1 m4_54) hd_X12_saveState ⟨Nat.le_of_ble_eq_true rfl, Nat.le_of_ble_eq_true rfl, rfl, rfl⟩ rfl kx0 rfl rfl rfl hl.1 rfl rc0 rfl dlaw_127 ⟨rm_c (by omega), rm_s (by omega)⟩ (fun H locs hH => ?_)
  refine lv_iload_n hx hb dlaw_130 rfl (lv_at hl 4 rfl) ?_
  refine lv_icmp_ne (tgt := 151) hx hb dlaw_131 (by decide) (fun cc => ?_) (fun cc => ?_)
  · first | exact (cc rfl).elim | exact absurd cc rfl
  refine hl_aload_n hx hb dlaw_134 rfl (lv_at hl 6 rfl) ?_
  obtain ⟨w4, f4, hC4⟩ := m_restore (X := X) hC3 hV3 hC.2.1
  refine hcV_i hx hb hml hown hts hKs hT hb0 hH (As := []) (rest := []) (k_NX12_restoreState l E (Kx X) H.size 0 w3 kx0 f4) (gV m4_55 m4_56 m4_57 m1_1 m4_58) hd_NX12_restoreState ⟨Nat.le_of_ble_eq_true rfl, Nat.le_of_ble_eq_true rfl, rfl, rfl⟩ rfl kx0 rfl rfl rfl hl.1 rfl rc0 rfl dlaw_135 ⟨rm_c (by omega), rm_s (by omega)⟩ (fun H locs hH => ?_)
  refine lv_iload_n hx hb dlaw_138 rfl (lv_at hl 4 rfl) ?_
  refine lv_icmp_ne (tgt := 151) hx hb dlaw_139 (by decide) (fun cc => ?_) (fun cc => ?_)
  · first | exact (cc rfl).elim | exact absurd cc rfl
  refine hl_aload_n hx hb dlaw_142 rfl (lv_at hl 6 rfl) ?_
  refine lv_bipush (v := 9) hx hb dlaw_143 (by decide) ?_
  have q145 := n_count9 (X := X) hC4.1
  refine hcV_i hx hb hml hown hts hKs hT hb0 hH (As := [.int 9]) (rest := []) (k_X12_count l E (Kx X) H.size 0 9 _ kx0 q145) (gV m3_17 m3_18 m3_19 m1_1 m3_20) hd_X12_count ⟨Nat.le_of_ble_eq_true rfl, Nat.le_of_ble_eq_true rfl, rfl, rfl⟩ rfl kx0 rfl rfl rfl hl.1 rfl rc0 rfl dlaw_145 ⟨rm_c (by omega), rm_s (by omega)⟩ (fun H locs hH => ?_)
  refine lv_if_eq (tgt := 153) hx hb dlaw_148 (by decide) (fun cc => ?_) (fun cc => ?_)
  rotate_left
  · first | exact (cc (show wI w4 1210 0 = 0 from hC4.2.2.1.1)).elim | exact absurd cc (show wI w4 1210 0 = 0 from hC4.2.2.1.1)
  refine hl_aload_n hx hb dlaw_153 rfl (lv_at hl 6 rfl) ?_
  refine lv_bipush (v := 12) hx hb dlaw_154 (by decide) ?_
  have q156 := n_count12 (X := X) hC4.1
  refine hcV_i hx hb hml hown hts hKs hT hb0 hH (As := [.int 12]) (rest := []) (k_X12_count l E (Kx X) H.size 0 12 _ kx0 q156) (gV m3_17 m3_18 m3_19 m1_1 m3_20) hd_X12_count ⟨Nat.le_of_ble_eq_true rfl, Nat.le_of_ble_eq_true rfl, rfl, rfl⟩ rfl kx0 rfl rfl rfl hl.1 rfl rc0 rfl dlaw_156 ⟨rm_c (by omega), rm_s (by omega)⟩ (fun H locs hH => ?_)
  refine lv_istore (i := 8) (lv' := [(8, .int (nI (cnt (fun i => cs T i 0 == 2) (S 3)))), (7, .int (nI (plN S T (-nI 1)))), (6, .int (nI (cnt (fun i => cs (phT T (T 0 + D) (fin S T D)) i 0 == 3) (S 3)) - nI (cnt (fun i => cs T i 0 == 3) (S 3)))), (5, .int (nI (cnt (fun i => cs T i 0 == 3) (S 3)))), (4, .int (nI D)), (3, .int (nI (T 0))), (2, .int (nI many)), (1, rv E (some 0)), (0, .ref (E.2.2.2.1 500))]) hx hb dlaw_159 hl (by decide) (by first | rfl | (simp [List.filter_cons, cat_q, cat_i, cat_j, imax, imin]; done) | (simp [List.filter_cons, cat_q, cat_i, cat_j, imax, imin]; rfl)) (fun ls hl => ?_)
  refine hl_aload_n hx hb dlaw_161 rfl (lv_at hl 7 rfl) ?_
  refine lv_iload hx hb dlaw_162 (lv_at hl 4 rfl) ?_
  obtain ⟨w5, f5, hC5⟩ := m_pass (X := X) hC4 (n := D) (by omega) (by omega) (by omega)
  refine hcV_i hx hb hml hown hts hKs hT hb0 hH (As := [.int (nI D)]) (rest := []) (k_NX12_pass l E (Kx X) H.size 0 (nI D) w4 kx0 f5) (gV m3_46 m3_47 m3_48 m1_1 m3_49) hd_NX12_pass ⟨Nat.le_of_ble_eq_true rfl, Nat.le_of_ble_eq_true rfl, rfl, rfl⟩ rfl kx0 rfl rfl rfl hl.1 rfl rc0 rfl dlaw_164 ⟨rm_c (by omega), rm_s (by omega)⟩ (fun H locs hH => ?_)
  refine hl_aload_n hx hb dlaw_167 rfl (lv_at hl 7 rfl) ?_
  refine lv_bipush (v := 12) hx hb dlaw_168 (by decide) ?_
  have q170 := n_count12 (X := X) hC5.1
  refine hcV_i hx hb hml hown hts hKs hT hb0 hH (As := [.int 12]) (rest := [.int (nI (hdN S T D))]) (k_X12_count l E (Kx X) H.size 0 12 _ kx0 q170) (gV m3_17 m3_18 m3_19 m1_1 m3_20) hd_X12_count ⟨Nat.le_of_ble_eq_true rfl, Nat.le_of_ble_eq_true rfl, rfl, rfl⟩ rfl kx0 rfl rfl rfl hl.1 rfl (rcI rc0) rfl dlaw_170 ⟨rm_c (by omega), rm_s (by omega)⟩ (fun H locs hH => ?_)
  refine lv_iload hx hb dlaw_173 (lv_at hl 0 rfl) ?_
  refine lv_isub hx hb dlaw_175 ?_
  refine lv_icmp_ne (tgt := 210) hx hb dlaw_176 (by decide) (fun cc => ?_) (fun cc => ?_)
  · first | exact (cc (hd_grow (s := S) (t := T) (n := D)).symm).elim | exact absurd cc (hd_grow (s := S) (t := T) (n := D)).symm
  refine hl_aload_n hx hb dlaw_179 rfl (lv_at hl 7 rfl) ?_
  refine lv_bipush (v := 13) hx hb dlaw_180 (by decide) ?_
  have q182 := n_count13 (X := X) hC5.1
  refine hcV_i hx hb hml hown hts hKs hT hb0 hH (As := [.int 13]) (rest := []) (k_X12_count l E (Kx X) H.size 0 13 _ kx0 q182) (gV m3_17 m3_18 m3_19 m1_1 m3_20) hd_X12_count ⟨Nat.le_of_ble_eq_true rfl, Nat.le_of_ble_eq_true rfl, rfl, rfl⟩ rfl kx0 rfl rfl rfl hl.1 rfl rc0 rfl dlaw_182 ⟨rm_c (by omega), rm_s (by omega)⟩ (fun H locs hH => ?_)
  refine lv_iload hx hb dlaw_185 (lv_at hl 3 rfl) ?_
  refine lv_isub hx hb dlaw_187 ?_
  refine lv_iload hx hb dlaw_188 (lv_at hl 2 rfl) ?_
  refine lv_icmp_ne (tgt := 210) hx hb dlaw_190 (by decide) (fun cc => ?_) (fun cc => ?_)
  · first | exact (cc rfl).elim | exact absurd cc rfl
  refine hl_aload_n hx hb dlaw_193 rfl (lv_at hl 7 rfl) ?_
  obtain ⟨w6, f6, hC6⟩ := m_undo (X := X) (m := 0) hC5
  have hC6 : Cst w6 bb S T 0 (rmH 0 hs T) := hC6
  refine hcV_i hx hb hml hown hts hKs hT hb0 hH (As := []) (rest := []) (k_NX12_undo l E (Kx X) H.size 0 w5 kx0 f6) (gV m4_20 m4_21 m4_22 m1_1 m4_23) hd_NX12_undo ⟨Nat.le_of_ble_eq_true rfl, Nat.le_of_ble_eq_true rfl, rfl, rfl⟩ rfl kx0 rfl rfl rfl hl.1 rfl rc0 rfl dlaw_194 ⟨rm_c (by omega), rm_s (by omega)⟩ (fun H locs hH => ?_)
  refine lv_if_ne (tgt := 210) hx hb dlaw_197 (by decide) (fun cc => ?_) (fun cc => ?_)
  · first | exact (cc (show nI 0 = 0 from rfl)).elim | exact absurd cc (show nI 0 = 0 from rfl)
  refine hl_aload_n hx hb dlaw_200 rfl (lv_at hl 7 rfl) ?_
  refine lv_bipush (v := 7) hx hb dlaw_201 (by decide) ?_
  have q203 := n_count7 (X := X) hC6.1
  refine hcV_i hx hb hml hown hts hKs hT hb0 hH (As := [.int 7]) (rest := []) (k_X12_count l E (Kx X) H.size 0 7 _ kx0 q203) (gV m3_17 m3_18 m3_19 m1_1 m3_20) hd_X12_count ⟨Nat.le_of_ble_eq_true rfl, Nat.le_of_ble_eq_true rfl, rfl, rfl⟩ rfl kx0 rfl rfl rfl hl.1 rfl rc0 rfl dlaw_203 ⟨rm_c (by omega), rm_s (by omega)⟩ (fun H locs hH => ?_)
  refine lv_iload_n hx hb dlaw_206 rfl (lv_at hl 5 rfl) ?_
  refine lv_icmp_eq (tgt := 212) hx hb dlaw_207 (by decide) (fun cc => ?_) (fun cc => ?_)
  rotate_left
  · first | exact (cc rfl).elim | exact absurd cc rfl
  refine hl_aload_n hx hb dlaw_212 rfl (lv_at hl 7 rfl) ?_
  obtain ⟨w7, f7, hC7⟩ := m_planAll (X := X) hC6
  refine hcV_i hx hb hml hown hts hKs hT hb0 hH (As := []) (rest := []) (k_X12_planAll l E (Kx X) H.size 0 w6 kx0 f7) (gV m3_156 m3_157 m3_158 m1_1 m3_159) hd_X12_planAll ⟨Nat.le_of_ble_eq_true rfl, Nat.le_of_ble_eq_true rfl, rfl, rfl⟩ rfl kx0 rfl rfl rfl hl.1 rfl rc0 rfl dlaw_213 ⟨rm_c (by omega), rm_s (by omega)⟩ (fun H locs hH => ?_)
  refine lv_iload hx hb dlaw_216 (lv_at hl 1 rfl) ?_
  refine lv_icmp_ne (tgt := 244) hx hb dlaw_218 (by decide) (fun cc => ?_) (fun cc => ?_)
  · first | exact (cc rfl).elim | exact absurd cc rfl
  refine hl_aload_n hx hb dlaw_221 rfl (lv_at hl 7 rfl) ?_
  have hG7 := GI_pSt hC.1.gs hC.1.gt hC.2.1 hG (cnt (wt T) (S 3)) (Nat.le_refl _)
  obtain ⟨n222, hn222, hH⟩ := hq_n hH
  obtain ⟨v222, g222, u222⟩ := good_ok (X := X) hC7 hG7 (by omega) (by omega) hn222
  refine hcWk hH (va_runS (As := [rv E (some 0)]) (rest := []) ⟨hx, hb, hml, hown, hts⟩ (k_L_isGood l E (Kx X) n222 (some 0) _ g222) (va_cwS _ hts (gS m6_179 m6_180 m1_0 m6_181) rfl rfl rfl hs_L_isGood ⟨Nat.le_of_ble_eq_true rfl, Nat.le_of_ble_eq_true rfl⟩) ⟨HB.blind, HB.preN hKs hT hb0 hH⟩ rfl rfl hl.1 rfl (lv_room rc0) dlaw_222 ⟨rm_c (by omega), rm_s (by omega)⟩) (fun H locs z1 hH => ?_)
  rw [kup_x hn222] at hH
  generalize kup X n222 (20, 2) = X at hH
  refine lv_if_eq (tgt := 244) hx hb dlaw_225 (by decide) (fun cc => ?_) (fun cc => ?_)
  · first | exact (cc lw_bt).elim | exact absurd cc lw_bt
  refine hl_aload_n hx hb dlaw_228 rfl (lv_at hl 7 rfl) ?_
  obtain ⟨w8, f8, hC8⟩ := m_undo (X := X) (m := 0) u222
  have hC8 : Cst w8 bb S T 0 (rmH 0 (rmH 0 hs T) T) := hC8
  refine hcV_i hx hb hml hown hts hKs hT hb0 hH (As := []) (rest := []) (k_NX12_undo l E (Kx X) H.size 0 _ kx0 f8) (gV m4_20 m4_21 m4_22 m1_1 m4_23) hd_NX12_undo ⟨Nat.le_of_ble_eq_true rfl, Nat.le_of_ble_eq_true rfl, rfl, rfl⟩ rfl kx0 rfl rfl rfl hl.1 rfl rc0 rfl dlaw_229 ⟨rm_c (by omega), rm_s (by omega)⟩ (fun H locs hH => ?_)
  refine lv_if_ne (tgt := 244) hx hb dlaw_232 (by decide) (fun cc => ?_) (fun cc => ?_)
  · first | exact (cc (show nI 0 = 0 from rfl)).elim | exact absurd cc (show nI 0 = 0 from rfl)
  refine hl_aload_n hx hb dlaw_235 rfl (lv_at hl 7 rfl) ?_
  obtain ⟨w9, f9, hC9⟩ := n_plannable (X := X) hC8
  refine hcV_i hx hb hml hown hts hKs hT hb0 hH (As := []) (rest := []) (k_X12_plannable l E (Kx X) H.size 0 w8 kx0 f9) (gV m4_43 m4_44 m4_45 m1_1 m4_46) hd_X12_plannable ⟨Nat.le_of_ble_eq_true rfl, Nat.le_of_ble_eq_true rfl, rfl, rfl⟩ rfl kx0 rfl rfl rfl hl.1 rfl rc0 rfl dlaw_236 ⟨rm_c (by omega), rm_s (by omega)⟩ (fun H locs hH => ?_)
  refine lv_iload hx hb dlaw_239 (lv_at hl 1 rfl) ?_
  refine lv_icmp_eq (tgt := 246) hx hb dlaw_241 (by decide) (fun cc => ?_) (fun cc => ?_)
  rotate_left
  · first | exact (cc rfl).elim | exact absurd cc rfl
  exact law_246 hls hLX hL C hE hS hmn (by omega) hC9 hG hH hl (by omega) (by omega)
