/-! What the tables and the premises give at the law's entry. -/
theorem eq_ref {args : Array Value} {s : State} {t u : Term} {a : Nat} (h : (Cond.eq t u).before args s = true) (hu : u.eval args s none [] s = some (.ref a)) : t.eval args s none [] s = some (.ref a) := by
  obtain ⟨w, h1, h2⟩ := Cond.eq_one (show (Cond.eq t u).holds args s none s [] = true from h)
  cases hu.symm.trans h2
  exact h1
def gvl : List Cond := flatC (Cond.and given_1 narrow_1)
def tkD : String := "LCourtCalendar$Token;"
abbrev tkTw (i : Nat) : Term := Term.static "CourtCalendar$Token" (tokN.getD i "") tkD
def iEl : List Nat := [163, 178, 79, 194, 87, 211, 96, 229, 106, 117, 129, 142, 248, 268, 289, 311, 37, 42, 48, 4, 7]
def iOl : List Nat := [164, 179, 80, 195, 88, 212, 97, 230, 107, 118, 130, 143, 249, 269, 290, 312, 38, 43, 49, 5, 8]
def iPl : List Nat := [165, 180, 81, 196, 89, 213, 98, 231, 108, 119, 131, 144, 250, 270, 291, 313, 39, 44, 50, 6, 9]
def iNl : List Nat := [0, 193, 171, 209, 172, 226, 173, 244, 174, 175, 176, 177, 263, 283, 304, 326, 168, 169, 170, 166, 167, 193, 0, 186, 210, 187, 227, 188, 245, 189, 190, 191, 192, 264, 284, 305, 327, 183, 184, 185, 181, 182, 171, 186, 0, 202, 95, 219, 104, 237, 114, 125, 137, 150, 256, 276, 297, 319, 84, 85, 86, 82, 83, 209, 210, 202, 0, 203, 228, 204, 246, 205, 206, 207, 208, 265, 285, 306, 328, 199, 200, 201, 197, 198, 172, 187, 95, 203, 0, 220, 105, 238, 115, 126, 138, 151, 257, 277, 298, 320, 92, 93, 94, 90, 91, 226, 227, 219, 228, 220, 0, 221, 247, 222, 223, 224, 225, 266, 286, 307, 329, 216, 217, 218, 214, 215, 173, 188, 104, 204, 105, 221, 0, 239, 116, 127, 139, 152, 258, 278, 299, 321, 101, 102, 103, 99, 100, 244, 245, 237, 246, 238, 247, 239, 0, 240, 241, 242, 243, 267, 287, 308, 330, 234, 235, 236, 232, 233, 174, 189, 114, 205, 115, 222, 116, 240, 0, 128, 140, 153, 259, 279, 300, 322, 111, 112, 113, 109, 110, 175, 190, 125, 206, 126, 223, 127, 241, 128, 0, 141, 154, 260, 280, 301, 323, 122, 123, 124, 120, 121, 176, 191, 137, 207, 138, 224, 139, 242, 140, 141, 0, 155, 261, 281, 302, 324, 134, 135, 136, 132, 133, 177, 192, 150, 208, 151, 225, 152, 243, 153, 154, 155, 0, 262, 282, 303, 325, 147, 148, 149, 145, 146, 263, 264, 256, 265, 257, 266, 258, 267, 259, 260, 261, 262, 0, 288, 309, 331, 253, 254, 255, 251, 252, 283, 284, 276, 285, 277, 286, 278, 287, 279, 280, 281, 282, 288, 0, 310, 332, 273, 274, 275, 271, 272, 304, 305, 297, 306, 298, 307, 299, 308, 300, 301, 302, 303, 309, 310, 0, 333, 294, 295, 296, 292, 293, 326, 327, 319, 328, 320, 329, 321, 330, 322, 323, 324, 325, 331, 332, 333, 0, 316, 317, 318, 314, 315, 168, 183, 84, 199, 92, 216, 101, 234, 111, 122, 134, 147, 253, 273, 294, 316, 0, 47, 53, 40, 41, 169, 184, 85, 200, 93, 217, 102, 235, 112, 123, 135, 148, 254, 274, 295, 317, 47, 0, 54, 45, 46, 170, 185, 86, 201, 94, 218, 103, 236, 113, 124, 136, 149, 255, 275, 296, 318, 53, 54, 0, 51, 52, 166, 181, 82, 197, 90, 214, 99, 232, 109, 120, 132, 145, 251, 271, 292, 314, 40, 45, 51, 0, 10, 167, 182, 83, 198, 91, 215, 100, 233, 110, 121, 133, 146, 252, 272, 293, 315, 41, 46, 52, 10, 0]
def iAl : List Nat := [16, 17, 18, 19, 20, 21, 22, 23, 24, 25, 26, 27, 28, 29, 30, 31, 32, 33, 34, 35, 36]
def iSl : List Nat := [58, 59, 60, 61, 62, 63, 64, 65, 66, 67, 68, 69, 70, 71, 72, 73, 74, 75, 76, 77, 78]
def iWl : List Nat := [474, 475, 476, 477, 478, 479, 480, 481, 482, 483, 484, 485, 486, 487, 488, 489, 490, 491, 492, 493, 494, 495, 496, 497, 498, 499, 500, 501, 502, 503, 504, 505, 506, 507, 508, 509, 510, 511, 512, 513, 514, 515, 516, 517, 518, 519, 520, 521, 522, 523, 524, 525, 526, 527, 528, 529, 530, 531, 532, 533, 534, 535, 536, 537, 538, 539, 540, 541, 542, 543, 544, 545, 546, 547, 548, 549, 550, 551, 552, 553, 554, 555, 556, 557, 558, 559, 560, 561, 562, 563, 564, 565, 566, 567, 568, 569, 570, 571, 572, 573, 574]
def iCl : List Nat := [347, 380, 396, 363, 379, 395, 364, 348, 397, 365, 349, 381]
theorem mg {k : Nat} {c : Cond} (h : gvl[k]? = some c) : c ∈ gvl := List.mem_of_getElem? h
set_option maxRecDepth 100000 in
theorem gvE : ∀ i, i < 21 → gvl[iEl.getD i 0]? = some (Cond.exactly (tkTw i) "CourtCalendar$Token") := by decide +kernel
set_option maxRecDepth 100000 in
theorem gvO : ∀ i, i < 21 → gvl[iOl.getD i 0]? = some (Cond.eq (.field (tkTw i) "java/lang/Enum" "ordinal" "I") (.int (tokO.getD i 0))) := by decide +kernel
set_option maxRecDepth 100000 in
theorem gvP : ∀ i, i < 21 → gvl[iPl.getD i 0]? = some (Cond.eq (.field (tkTw i) "CourtCalendar$Token" "packed" "J") (.long (tokP.getD i 0))) := by decide +kernel
theorem gv_tok : ∀ i, i < 21 → Cond.exactly (tkTw i) "CourtCalendar$Token" ∈ gvl ∧ Cond.eq (.field (tkTw i) "java/lang/Enum" "ordinal" "I") (.int (tokO.getD i 0)) ∈ gvl ∧ Cond.eq (.field (tkTw i) "CourtCalendar$Token" "packed" "J") (.long (tokP.getD i 0)) ∈ gvl := fun i hi => ⟨mg (gvE i hi), mg (gvO i hi), mg (gvP i hi)⟩
set_option maxRecDepth 100000 in
theorem gvN : ∀ i, i < 21 → ∀ j, j < 21 → i = j ∨ gvl[iNl.getD (21 * i + j) 0]? = some (Cond.not (.eq (tkTw i) (tkTw j))) ∨ gvl[iNl.getD (21 * i + j) 0]? = some (Cond.not (.eq (tkTw j) (tkTw i))) := by decide +kernel
theorem gv_ne : ∀ i, i < 21 → ∀ j, j < 21 → i = j ∨ Cond.not (.eq (tkTw i) (tkTw j)) ∈ gvl ∨ Cond.not (.eq (tkTw j) (tkTw i)) ∈ gvl := fun i hi j hj => (gvN i hi j hj).imp id (fun h => h.imp mg mg)
abbrev allT : Term := Term.static "CourtCalendar$Token" "ALL" "[LCourtCalendar$Token;"
abbrev swT : Term := Term.static "CourtCalendar$1" "$SwitchMap$CourtCalendar$Token" "[I"
set_option maxRecDepth 100000 in
theorem gvA : ∀ i, i < 21 → gvl[iAl.getD i 0]? = some (Cond.eq (.elem allT (.int (Int32.ofNat i))) (tkTw i)) := by decide +kernel
set_option maxRecDepth 100000 in
theorem gvS : ∀ i, i < 21 → gvl[iSl.getD i 0]? = some (Cond.eq (.elem swT (.int (Int32.ofNat i))) (.int (swm.getD i 0))) := by decide +kernel
set_option maxRecDepth 100000 in
theorem gv_all : Cond.arrayOf allT (.object "CourtCalendar$Token") ∈ gvl ∧ Cond.eq (.length allT) (.int 21) ∈ gvl ∧ ∀ i, i < 21 → Cond.eq (.elem allT (.int (Int32.ofNat i))) (tkTw i) ∈ gvl := ⟨(mg (k := 13) (by decide +kernel)), (mg (k := 14) (by decide +kernel)), fun i hi => mg (gvA i hi)⟩
set_option maxRecDepth 100000 in
theorem gv_sw : Cond.arrayOf swT .int ∈ gvl ∧ Cond.eq (.length swT) (.int 21) ∈ gvl ∧ ∀ i, i < 21 → Cond.eq (.elem swT (.int (Int32.ofNat i))) (.int (swm.getD i 0)) ∈ gvl := ⟨(mg (k := 56) (by decide +kernel)), (mg (k := 57) (by decide +kernel)), fun i hi => mg (gvS i hi)⟩
abbrev stT : Term := Term.string "CourtCalendarModel" 366
abbrev svT : Term := Term.field stT "java/lang/String" "value" "[B"
set_option maxRecDepth 100000 in
theorem gvW : ∀ j, j < 101 → gvl[iWl.getD j 0]? = some (Cond.eq (.elem svT (.int (Int32.ofNat j))) (.int (wordsB.getD j 0))) := by decide +kernel
set_option maxRecDepth 100000 in
theorem gv_str : Cond.exactly stT "java/lang/String" ∈ gvl ∧ Cond.eq (.field stT "java/lang/String" "coder" "B") (.int 0) ∈ gvl ∧ Cond.arrayOf svT .byte ∈ gvl ∧ Cond.eq (.length svT) (.int 101) ∈ gvl ∧ ∀ j, j < 101 → Cond.eq (.elem svT (.int (Int32.ofNat j))) (.int (wordsB.getD j 0)) ∈ gvl := ⟨(mg (k := 470) (by decide +kernel)), (mg (k := 471) (by decide +kernel)), (mg (k := 472) (by decide +kernel)), (mg (k := 473) (by decide +kernel)), fun j hj => mg (gvW j hj)⟩
set_option maxRecDepth 100000 in
theorem gv_st : Cond.isRef (.static "java/lang/Throwable" "UNASSIGNED_STACK" "[Ljava/lang/StackTraceElement;") ∈ gvl ∧ Cond.isRef (.static "java/lang/Throwable" "SUPPRESSED_SENTINEL" "Ljava/util/List;") ∈ gvl ∧ Cond.eq (.static "java/lang/String" "COMPACT_STRINGS" "Z") (.int 1) ∈ gvl ∧ Cond.isRef (.static "jdk/internal/util/Preconditions" "SIOOBE_FORMATTER" "Ljava/util/function/BiFunction;") ∈ gvl := ⟨(mg (k := 156) (by decide +kernel)), (mg (k := 157) (by decide +kernel)), (mg (k := 158) (by decide +kernel)), (mg (k := 159) (by decide +kernel))⟩
set_option maxRecDepth 100000 in
theorem gvC : ∀ k, k < 12 → gvl[iCl.getD k 0]? = some (Cond.not (.castable (ncp.getD k ("", "")).1 (ncp.getD k ("", "")).2)) := by decide +kernel
theorem gv_nc : ∀ x, x ∈ ncp → Cond.not (.castable x.1 x.2) ∈ gvl := fun x hx => by
  obtain ⟨k, hk⟩ := List.getElem?_of_mem hx
  have hlt : k < 12 := by
    obtain ⟨h, -⟩ := List.getElem?_eq_some_iff.mp hk
    exact h
  have e : ncp.getD k ("", "") = x := by simp [hk]
  have h := mg (gvC k hlt)
  rwa [e] at h
set_option maxHeartbeats 4000000 in
theorem law_HK1 {args : Array Value} {s : State} (hbt : ∀ w ∈ bt, w.before args s = true) : ∃ D : va_G, ∀ (c : Nat) (q : vw_C), vwCl[c]? = some q → u_Kn s q.1 q.2.1 q.2.2 (D.1 c) (D.2 c) := by
  have h : ∀ k : Nat, ∃ ci : ClassId × (Nat → Nat), ∀ q : vw_C, vwCl[k]? = some q → u_Kn s q.1 q.2.1 q.2.2 ci.1 ci.2 := by
    intro k
    match k with
    | 0 =>
      obtain ⟨c, i, h⟩ := u_known (C := RX1) (T := TX1) (N := 5) hbt iX1 (hbt _ m2_198)
      exact ⟨(c, i), fun q hq => by cases hq; exact h⟩
    | 1 =>
      obtain ⟨c, i, h⟩ := u_known (C := RX2) (T := TX2) (N := 2) hbt iX2 (hbt _ m1_50)
      exact ⟨(c, i), fun q hq => by cases hq; exact h⟩
    | 2 =>
      obtain ⟨c, i, h⟩ := u_known (C := RX3) (T := TX3) (N := 7) hbt iX3 (hbt _ m1_82)
      exact ⟨(c, i), fun q hq => by cases hq; exact h⟩
    | 3 =>
      obtain ⟨c, i, h⟩ := u_known (C := RX4) (T := TX4) (N := 2) hbt iX4 (hbt _ m1_65)
      exact ⟨(c, i), fun q hq => by cases hq; exact h⟩
    | 4 =>
      obtain ⟨c, i, h⟩ := u_known (C := RX5) (T := TX5) (N := 7) hbt iX5 (hbt _ m1_228)
      exact ⟨(c, i), fun q hq => by cases hq; exact h⟩
    | 5 =>
      obtain ⟨c, i, h⟩ := u_known (C := RX6) (T := TX6) (N := 12) hbt iX6 (hbt _ m2_151)
      exact ⟨(c, i), fun q hq => by cases hq; exact h⟩
    | 6 =>
      obtain ⟨c, i, h⟩ := u_known (C := RX7) (T := TX7) (N := 8) hbt iX7 (hbt _ m2_64)
      exact ⟨(c, i), fun q hq => by cases hq; exact h⟩
    | 7 =>
      obtain ⟨c, i, h⟩ := u_known (C := RX8) (T := TX8) (N := 7) hbt iX8 (hbt _ m1_234)
      exact ⟨(c, i), fun q hq => by cases hq; exact h⟩
    | 8 =>
      obtain ⟨c, i, h⟩ := u_known (C := RX9) (T := TX9) (N := 15) hbt iX9 (hbt _ m1_40)
      exact ⟨(c, i), fun q hq => by cases hq; exact h⟩
    | 9 =>
      obtain ⟨c, i, h⟩ := u_known (C := RX10) (T := TX10) (N := 6) hbt iX10 (hbt _ m2_55)
      exact ⟨(c, i), fun q hq => by cases hq; exact h⟩
    | 10 =>
      obtain ⟨c, i, h⟩ := u_known (C := RX12) (T := TX12) (N := 16) hbt iX12 (hbt _ m1_32)
      exact ⟨(c, i), fun q hq => by cases hq; exact h⟩
    | 11 =>
      obtain ⟨c, i, h⟩ := u_known (C := RX13) (T := TX13) (N := 39) hbt iX13 (hbt _ m6_162)
      exact ⟨(c, i), fun q hq => by cases hq; exact h⟩
    | k + 12 => exact ⟨(0, fun _ => 0), fun q hq => by simp [vwCl] at hq⟩
  obtain ⟨f, hf⟩ := Classical.axiomOfChoice h
  exact ⟨(fun k => (f k).1, fun k => (f k).2), fun c q hq => hf c q hq⟩
theorem ar_prim {args : Array Value} {s : State} {ty : FieldType} (h : (Cond.arrayClass ty).before args s = true) (hn : ∀ C, ty ≠ .object C) : ∃ cA : ClassId, ArrOfT s cA ty ∧ va_RA s cA ty := by
  obtain ⟨c, k, comp, h1, h2, h3⟩ := Cond.arrayClass_spec h
  refine ⟨c, fun n z => ⟨fun k h => (by cases h), k, h2, comp, h3⟩, ?_⟩
  cases ty <;> first | exact absurd rfl (hn _) | exact h1
theorem ar_obj {args : Array Value} {s : State} {C : String} (h : (Cond.arrayOver (.object C)).before args s = true) : ∃ cA : ClassId, ArrOfT s cA (.object C) ∧ va_RA s cA (.object C) := by
  obtain ⟨comp, c, k, h1, h2, h3, h4, h5⟩ := Cond.arrayOver_spec h
  exact ⟨c, fun n z => ⟨fun k h => (by cases h), k, h3, comp, h4⟩, k, comp, h3, h4, h1, h5⟩
set_option maxHeartbeats 4000000 in
theorem law_world {args : Array Value} {s : State} (hts : ∀ w ∈ lw_tbl, w.before args s = true) (hgv : (Jvm.Cond.and given_1 narrow_1).before args s = true) : ∃ E : Ev, E.2.1 = s.heap.size ∧ HK E s ∧ HT E s s.heap := by
  have hbt : ∀ w ∈ bt, w.before args s = true := fun w hw => hts w (List.mem_filter.mp hw).1
  have hg : ∀ c ∈ gvl, c.before args s = true := flat_of_before _ hgv
  have hAA : ∀ a : Nat, a < s.heap.size → ¬ (fun q => s.heap.size ≤ q) a := fun a h => Nat.not_le.mpr h
  obtain ⟨D, hD⟩ := law_HK1 hbt
  obtain ⟨a0, ha0, hb0⟩ := ar_prim (hbt _ m1_64) (fun C h => by cases h)
  obtain ⟨a1, ha1, hb1⟩ := ar_prim (hbt _ m2_27) (fun C h => by cases h)
  obtain ⟨a2, ha2, hb2⟩ := ar_prim (hbt _ m7_59) (fun C h => by cases h)
  obtain ⟨a3, ha3, hb3⟩ := ar_prim (hbt _ m1_81) (fun C h => by cases h)
  obtain ⟨a4, ha4, hb4⟩ := ar_prim (hbt _ m9_187) (fun C h => by cases h)
  obtain ⟨a5, ha5, hb5⟩ := ar_obj (hts _ m1_48)
  obtain ⟨a6, ha6, hb6⟩ := ar_obj (hts _ m1_46)
  obtain ⟨a7, ha7, hb7⟩ := ar_obj (hts _ m2_63)
  obtain ⟨a8, ha8, hb8⟩ := ar_obj (hts _ m2_149)
  have hls : ∀ i, i < tokN.length → (Cond.laysStatic RX11 (tokN.getD i "") tkD).before args s = true := by
    intro i hi
    match i, hi with
    | 0, _ => exact hts _ m9_212
    | 1, _ => exact hts _ m9_213
    | 2, _ => exact hts _ m3_137
    | 3, _ => exact hts _ m9_214
    | 4, _ => exact hts _ m3_162
    | 5, _ => exact hts _ m9_215
    | 6, _ => exact hts _ m3_172
    | 7, _ => exact hts _ m9_216
    | 8, _ => exact hts _ m3_178
    | 9, _ => exact hts _ m3_180
    | 10, _ => exact hts _ m3_182
    | 11, _ => exact hts _ m3_188
    | 12, _ => exact hts _ m9_217
    | 13, _ => exact hts _ m9_218
    | 14, _ => exact hts _ m9_219
    | 15, _ => exact hts _ m9_220
    | 16, _ => exact hts _ m3_71
    | 17, _ => exact hts _ m3_76
    | 18, _ => exact hts _ m3_78
    | 19, _ => exact hts _ m2_0
    | 20, _ => exact hts _ m3_64
    | k + 21, hi => exact absurd hi (by simp [tokN])
  obtain ⟨ad, hEn, hev⟩ := va_Enof2 (E := RX11) (d := tkD) (nm := tokN) (F := [("java/lang/Enum", "ordinal", "I", tokO)]) (A := fun q => s.heap.size ≤ q) hls (hbt _ m1_11)
    (fun i hi => hg _ (gv_tok i hi).1) (fun q hq i hi => by rcases List.mem_singleton.mp hq with rfl; exact hg _ (gv_tok i hi).2.1)
    (fun i j hi hj hne => by rcases gv_ne i hi j hj with h | h | h; exact absurd h hne; exact Or.inl (hg _ h); exact Or.inr (hg _ h)) hAA
  obtain ⟨t1, ht1, hT1⟩ := va_Tof (tm := allT) (N := 21) (f := fun j => .ref (ad j)) (A := fun q => s.heap.size ≤ q) (by decide) (hg _ gv_all.1) (va_eqt (hg _ gv_all.2.1)) (fun j hj => eq_ref (hg _ (gv_all.2.2 j hj)) (hev j hj)) hAA
  obtain ⟨t2, ht2, hT2⟩ := va_Tof (tm := swT) (N := 21) (f := fun j => .int (swm.getD j 0)) (A := fun q => s.heap.size ≤ q) (by decide) (hg _ gv_sw.1) (va_eqt (hg _ gv_sw.2.1)) (fun j hj => va_eqt (hg _ (gv_sw.2.2 j hj))) hAA
  obtain ⟨adK, adV, hS, hSe⟩ := vk_Sof (N := 1) (tm := fun _ => stT) (len := [101]) (byt := [wordsB]) (A := fun q => s.heap.size ≤ q) (args := args) (s := s)
    (fun i hi => by rw [Nat.lt_one_iff.mp hi]; decide) (fun i hi => hg _ gv_str.1) (fun i hi => hg _ gv_str.2.1) (fun i hi => hg _ gv_str.2.2.1) (fun i hi => by rw [Nat.lt_one_iff.mp hi]; exact hg _ gv_str.2.2.2.1)
    (fun i hi => by rw [Nat.lt_one_iff.mp hi]; exact fun j hj => hg _ (gv_str.2.2.2.2 j hj)) (fun i j hi hj hne => absurd ((Nat.lt_one_iff.mp hi).trans (Nat.lt_one_iff.mp hj).symm) hne) hAA
  obtain ⟨e, he1, he2, he3, he4, he5⟩ : ∃ e : Nat → Nat, (∀ i, i < 21 → e i = ad i) ∧ e 100 = t1 ∧ e 101 = t2 ∧ e 102 = adK 0 ∧ e 202 = adV 0 :=
    ⟨fun n => if n < 21 then ad n else if n = 100 then t1 else if n = 101 then t2 else if n = 102 then adK 0 else adV 0, fun i hi => if_pos hi, rfl, rfl, rfl, rfl⟩
  refine ⟨(D, s.heap.size, fun k => match k with | 20 => a0 | 21 => a1 | 22 => a2 | 23 => a3 | 24 => a4 | 25 => a5 | 26 => a6 | 27 => a7 | _ => a8, e), rfl, ⟨⟨hD, ?_⟩, ?_, ?_, ?_, ?_, ?_⟩, ?_⟩
  · intro k q hq
    match k, hq with
    | 0, hq => cases hq; exact ⟨ha0, hb0⟩
    | 1, hq => cases hq; exact ⟨ha1, hb1⟩
    | 2, hq => cases hq; exact ⟨ha2, hb2⟩
    | 3, hq => cases hq; exact ⟨ha3, hb3⟩
    | 4, hq => cases hq; exact ⟨ha4, hb4⟩
    | 5, hq => cases hq; exact ⟨ha5, hb5⟩
    | 6, hq => cases hq; exact ⟨ha6, hb6⟩
    | 7, hq => cases hq; exact ⟨ha7, hb7⟩
    | 8, hq => cases hq; exact ⟨ha8, hb8⟩
    | k + 9, hq => simp [tyl] at hq
  · intro w hw
    have h1 := hts w (List.mem_filter.mp hw).1
    have h2 := (List.mem_filter.mp hw).2
    cases w <;> first | exact va_Nw.of rfl h1 | exact absurd h2 (by simp [isNest])
  · show vk_R RX13 366 wtext (e 102) s
    rw [he4]
    exact vk_R.of (hts _ m8_235) (hSe 0 (by decide))
  · exact fun x hx => va_Nc.of (hg _ (gv_nc x hx))
  · exact va_Nw.of rfl (hts _ m3_227)
  · intro C hC
    simp only [aoc, List.mem_cons, List.not_mem_nil, or_false] at hC
    rcases hC with rfl | rfl | rfl | rfl
    · exact va_AO.of (hts _ m1_48)
    · exact va_AO.of (hts _ m1_46)
    · exact va_AO.of (hts _ m2_63)
    · exact va_AO.of (hts _ m2_149)
  · refine ⟨⟨fun i hi => ?_, fun i j hi hj h => hEn.2 i j hi hj (by rw [← he1 i hi, ← he1 j hj]; exact h)⟩, fun i hi => ?_, ⟨?_, ?_⟩, ⟨?_, ?_⟩, ⟨fun i hi => ?_, fun i j hi hj _ => (Nat.lt_one_iff.mp hi).trans (Nat.lt_one_iff.mp hj).symm⟩, ?_, ?_, ?_, ?_⟩
    · show va_Z _ _ _ (.ref (e i)) _ _ _ ∧ va_O _ (e i) _ _ _ ∧ ∀ q ∈ _, va_OF _ _ _ _ (e i) _ _ _
      rw [he1 i hi]
      exact hEn.1 i hi
    · show va_OF _ _ _ _ (e i) _ _ _
      rw [he1 i hi]
      exact vk_OFof (hev i hi) (va_eqtl (hg _ (gv_tok i hi).2.2)) hAA
    · show va_Z _ _ _ (.ref (e 100)) _ _ _
      rw [he2]
      exact va_Zof (hts _ m3_69) (hbt _ m1_11) ht1 hAA
    · show va_T _ (e 100) 21 (fun j => .ref (e j)) _ _ _
      rw [he2]
      obtain ⟨cell, h1, h2, h3, h4, h5, h6, h7⟩ := hT1
      exact ⟨cell, h1, h2, h3, h4, h5, fun j hj => by show cell.slots[j]? = some (Value.ref (e j)); rw [he1 j hj]; exact h6 j hj, h7⟩
    · show va_Z _ _ _ (.ref (e 101)) _ _ _
      rw [he3]
      exact va_Zof (hts _ m3_85) (hbt _ m1_17) ht2 hAA
    · show va_T _ (e 101) 21 _ _ _ _
      rw [he3]
      exact hT2
    · rw [Nat.lt_one_iff.mp hi]
      show va_O _ (e 102) _ _ _ ∧ va_OF _ _ _ _ (e 102) _ _ _ ∧ va_OF _ _ _ (.ref (e 202)) (e 102) _ _ _ ∧ va_T _ (e 202) _ _ _ _ _
      rw [he4, he5]
      exact hS.1 0 (by decide)
    · exact vx_Zqof (hts _ m5_4) (hbt _ m1_24) (hg _ gv_st.1) hAA
    · exact vx_Zqof (hts _ m5_6) (hbt _ m1_24) (hg _ gv_st.2.1) hAA
    · exact va_Zof (hts _ m9_5) (hbt _ m1_19) (va_eqt (hg _ gv_st.2.2.1)) hAA
    · exact va_Zqof (hts _ m9_21) (hbt _ m1_21) (hg _ gv_st.2.2.2) hAA
