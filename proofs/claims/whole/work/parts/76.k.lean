section
variable {p : Program} {l : Launch} {e : Env} {s : State} {m : MethodId} {args : Array Value} {below : List Frame} {meth : Method} {c : Code} {E : Ev} {K : Kd} {z : Nat}

theorem dL_plan_0 : decode cL_plan 0 = .ok (.aload 6, 2) := by decide +kernel
theorem dL_plan_2 : decode cL_plan 2 = .ok (.iconst 0, 1) := by decide +kernel
theorem dL_plan_3 : decode cL_plan 3 = .ok (.aload_n 0, 1) := by decide +kernel
theorem dL_plan_4 : decode cL_plan 4 = .ok (.iload_n 1, 1) := by decide +kernel
theorem dL_plan_5 : decode cL_plan 5 = .ok (.iload_n 2, 1) := by decide +kernel
theorem dL_plan_6 : decode cL_plan 6 = .ok (.iload_n 3, 1) := by decide +kernel
theorem dL_plan_7 : decode cL_plan 7 = .ok (.iload 4, 2) := by decide +kernel
theorem dL_plan_9 : decode cL_plan 9 = .ok (.iload 5, 2) := by decide +kernel
theorem dL_plan_11 : decode cL_plan 11 = .ok (.invokevirtual 84, 3) := by decide +kernel
theorem dL_plan_14 : decode cL_plan 14 = .ok (.i2l, 1) := by decide +kernel
theorem dL_plan_15 : decode cL_plan 15 = .ok (.lastore, 1) := by decide +kernel
theorem dL_plan_16 : decode cL_plan 16 = .ok (.goto 15, 3) := by decide +kernel
theorem dL_plan_19 : decode cL_plan 19 = .ok (.astore 7, 2) := by decide +kernel
theorem dL_plan_21 : decode cL_plan 21 = .ok (.iconst 1, 1) := by decide +kernel
theorem dL_plan_22 : decode cL_plan 22 = .ok (.ireturn, 1) := by decide +kernel
theorem dL_plan_23 : decode cL_plan 23 = .ok (.astore 7, 2) := by decide +kernel
theorem dL_plan_25 : decode cL_plan 25 = .ok (.iconst 2, 1) := by decide +kernel
theorem dL_plan_26 : decode cL_plan 26 = .ok (.ireturn, 1) := by decide +kernel
theorem dL_plan_27 : decode cL_plan 27 = .ok (.astore 7, 2) := by decide +kernel
theorem dL_plan_29 : decode cL_plan 29 = .ok (.iconst 3, 1) := by decide +kernel
theorem dL_plan_30 : decode cL_plan 30 = .ok (.ireturn, 1) := by decide +kernel
theorem dL_plan_31 : decode cL_plan 31 = .ok (.iconst 0, 1) := by decide +kernel
theorem dL_plan_32 : decode cL_plan 32 = .ok (.ireturn, 1) := by decide +kernel
theorem hs_L_plan : yL_plan.cls ≠ "java/lang/invoke/MethodHandle" ∧ yL_plan.cls ≠ "java/lang/invoke/VarHandle" ∧ (parseMethodDescriptor yL_plan.desc).map (fun d => d.parameters.length) = some 7 := by decide +kernel
set_option maxHeartbeats 4000000 in
set_option maxRecDepth 100000 in
theorem k_L_plan (l : Launch) (hls : l.stackTraces = false) (E : Ev) (K : Kd) (z : Nat) (a_0 : Option Nat) (a_1 : Int32) (a_2 : Int32) (a_3 : Int32) (a_4 : Int32) (a_5 : Int32) (a_6 : Option Nat) (w : Wd) {r : Int32} {w' : Wd} (hf : f_L_plan K a_0 a_1 a_2 a_3 a_4 a_5 a_6 w = some (r, w')) : Met l yL_plan (Cond.codeWith yL_plan cL_plan 8 (Option.some Jvm.ClassFile.FieldType.int) [(0, 16, 19, 29), (0, 16, 23, 13), (0, 16, 27, 58)] :: bt) ({ frames := 9, cells := 7, slots := 42, locals := 162 } : Room) (va_Pc [rv E a_0, .int a_1, .int a_2, .int a_3, .int a_4, .int a_5, rv E a_6] (HB E K w z)) (QW E K w' r) 7 42 (hA E) := by
  refine MetH_ofW (cc := cL_plan) (maxL := 8) (ret := (Option.some Jvm.ClassFile.FieldType.int)) (hh := [(0, 16, 19, 29), (0, 16, 23, 13), (0, 16, 27, 58)]) (by decide) rfl ?_
  intro p e s m args below meth c s₁ B hml htab hv
  obtain ⟨rfl, hz, hP, hKs, hT, hb0⟩ := hv
  have C : CX p l e s m _ meth c cL_plan 8 RL (Option.some Jvm.ClassFile.FieldType.int) E := ⟨B.exec, B.bytes, hml, findClass_of_methodNamed B.named, fun w h => atoms_spec (ws := Cond.codeWith yL_plan cL_plan 8 (Option.some Jvm.ClassFile.FieldType.int) [(0, 16, 19, 29), (0, 16, 23, 13), (0, 16, 27, 58)] :: bt) B.pre w (List.mem_cons_of_mem _ h), hKs, hT, by rw [hz]; exact hb0, B.notSynchronized, B.returns⟩
  have hH : HQ E K z w s s.heap [] := ⟨hP, va_S.rf, hz⟩
  obtain ⟨hx, hb, hml, hown, hts, hKs, hT, hb0, hlocks, hret⟩ := id C
  have hl := lv_entry [rv E a_0, .int a_1, .int a_2, .int a_3, .int a_4, .int a_5, rv E a_6] (n := 8) (by simp [lg_len_nil, lg_len_i, lg_len_j, lg_len_q, lg_len_f, lg_len_d, lg_len_r])
  rw [lg_entry_eq]
  generalize (lg_sl [rv E a_0, .int a_1, .int a_2, .int a_3, .int a_4, .int a_5, rv E a_6] ++ List.replicate (8 - (lg_sl [rv E a_0, .int a_1, .int a_2, .int a_3, .int a_4, .int a_5, rv E a_6]).length) Slot.unset).toArray = ls at hl ⊢
  replace hl : lv_has ls 8 [(0, rv E a_0), (1, .int a_1), (2, .int a_2), (3, .int a_3), (4, .int a_4), (5, .int a_5), (6, rv E a_6)] := by simpa only [lv_args, cat_q, cat_i, cat_j, reduceIte, Nat.reduceEqDiff, Nat.reduceAdd, Nat.zero_add] using hl
  generalize s.heap = H at hH ⊢
  unfold f_L_plan at hf
  refine hl_aload hx hb dL_plan_0 (lv_at hl 6 rfl) ?_
  refine lv_iconst (v := 0) hx hb dL_plan_2 (by decide) ?_
  refine hl_aload_n hx hb dL_plan_3 rfl (lv_at hl 0 rfl) ?_
  refine lv_iload_n hx hb dL_plan_4 rfl (lv_at hl 1 rfl) ?_
  refine lv_iload_n hx hb dL_plan_5 rfl (lv_at hl 2 rfl) ?_
  refine lv_iload_n hx hb dL_plan_6 rfl (lv_at hl 3 rfl) ?_
  refine lv_iload hx hb dL_plan_7 (lv_at hl 4 rfl) ?_
  refine lv_iload hx hb dL_plan_9 (lv_at hl 5 rfl) ?_
  obtain ⟨a1, ha1, hf⟩ := bnd hf
  replace ha1 := chk_some ha1
  obtain ⟨q2, hq2, hf⟩ := bnd hf
  refine hxC_i hx hb hml hown hts hKs hT hb0 hH (As := [.int a_1, .int a_2, .int a_3, .int a_4, .int a_5]) (rest := [.int 0, rv E a_6]) (k_X12_plan l hls E K H.size a1 a_1 a_2 a_3 a_4 a_5 w ha1.2 hq2) (gV m6_61 m6_62 m6_63 m1_1 m6_64) hd_X12_plan ⟨Nat.le_of_ble_eq_true rfl, Nat.le_of_ble_eq_true rfl, rfl, rfl⟩ ha1.1 ha1.2 rfl rfl rfl hl.1 rfl (rcI (rcV rc0)) rfl dL_plan_11 ⟨Nat.le_of_ble_eq_true rfl, Nat.le_of_ble_eq_true rfl⟩ (fun c4 hc4 H locs q9 ce9 hH hc9 hv9 hf9 => ?_) (fun v3 hv3 H locs hH => ?_)
  · replace hf := (xh_inr hc4).symm.trans hf
    by_cases h5 : c4 = 1
    · subst h5
      replace hf := (if_pos rfl).symm.trans hf
      refine vx_catch (name := "java/lang/IndexOutOfBoundsException") hown [] ⟨0, 16, 19, 29⟩ [⟨0, 16, 23, 13⟩, ⟨0, 16, 27, 58⟩] htab pass0 (by decide) (by decide) (hts _ m5_86) (va_Nw.use rfl (hKs.2.1 _ m5_97)) hc9 hv9 hf9 ?_
      refine lv_astore (lv' := [(7, .ref q9), (0, rv E a_0), (1, .int a_1), (2, .int a_2), (3, .int a_3), (4, .int a_4), (5, .int a_5), (6, rv E a_6)]) hx hb dL_plan_19 hl (by decide) (by simp [List.filter_cons, cat_q, cat_i, cat_j]) (fun ls hl => ?_)
      refine lv_iconst (v := 1) hx hb dL_plan_21 (by decide) ?_
      exact hw_wret hx hb (Nat.le_of_ble_eq_true rfl) (Nat.le_of_ble_eq_true rfl) hret hf hH hlocks dL_plan_22
    replace hf := (if_neg h5).symm.trans hf
    by_cases h6 : c4 = 2
    · subst h6
      replace hf := (if_pos rfl).symm.trans hf
      refine vx_catch (name := "java/lang/IllegalArgumentException") hown [⟨0, 16, 19, 29⟩] ⟨0, 16, 23, 13⟩ [⟨0, 16, 27, 58⟩] htab (pass1 (Or.inr ⟨by decide, "java/lang/IndexOutOfBoundsException", hts _ m5_86, hKs.2.2.2.1 ("java/lang/IllegalArgumentException", "java/lang/IndexOutOfBoundsException") (by decide)⟩) pass0) (by decide) (by decide) (hts _ m4_213) (va_Nw.use rfl (hKs.2.1 _ m4_220)) hc9 hv9 hf9 ?_
      refine lv_astore (lv' := [(7, .ref q9), (0, rv E a_0), (1, .int a_1), (2, .int a_2), (3, .int a_3), (4, .int a_4), (5, .int a_5), (6, rv E a_6)]) hx hb dL_plan_23 hl (by decide) (by simp [List.filter_cons, cat_q, cat_i, cat_j]) (fun ls hl => ?_)
      refine lv_iconst (v := 2) hx hb dL_plan_25 (by decide) ?_
      exact hw_wret hx hb (Nat.le_of_ble_eq_true rfl) (Nat.le_of_ble_eq_true rfl) hret hf hH hlocks dL_plan_26
    replace hf := (if_neg h6).symm.trans hf
    by_cases h7 : c4 = 3
    · subst h7
      replace hf := (if_pos rfl).symm.trans hf
      refine vx_catch (name := "java/lang/IllegalStateException") hown [⟨0, 16, 19, 29⟩, ⟨0, 16, 23, 13⟩] ⟨0, 16, 27, 58⟩ [] htab (pass1 (Or.inr ⟨by decide, "java/lang/IndexOutOfBoundsException", hts _ m5_86, hKs.2.2.2.1 ("java/lang/IllegalStateException", "java/lang/IndexOutOfBoundsException") (by decide)⟩) (pass1 (Or.inr ⟨by decide, "java/lang/IllegalArgumentException", hts _ m4_213, hKs.2.2.2.1 ("java/lang/IllegalStateException", "java/lang/IllegalArgumentException") (by decide)⟩) pass0)) (by decide) (by decide) (hts _ m5_182) (va_Nw.use rfl (hKs.2.1 _ m5_197)) hc9 hv9 hf9 ?_
      refine lv_astore (lv' := [(7, .ref q9), (0, rv E a_0), (1, .int a_1), (2, .int a_2), (3, .int a_3), (4, .int a_4), (5, .int a_5), (6, rv E a_6)]) hx hb dL_plan_27 hl (by decide) (by simp [List.filter_cons, cat_q, cat_i, cat_j]) (fun ls hl => ?_)
      refine lv_iconst (v := 3) hx hb dL_plan_29 (by decide) ?_
      exact hw_wret hx hb (Nat.le_of_ble_eq_true rfl) (Nat.le_of_ble_eq_true rfl) hret hf hH hlocks dL_plan_30
    replace hf := (if_neg h7).symm.trans hf
    cases hf
  · replace hf := (xh_inl hv3).symm.trans hf
    refine lv_i2l (v := (v3.toInt64)) hx hb dL_plan_14 rfl ?_
    obtain ⟨a8, ha8, hf⟩ := bnd hf
    replace ha8 := cha_some ha8
    obtain ⟨j9, hj9, hf⟩ := bnd hf
    obtain ⟨w10, hw10, hf⟩ := bnd hf
    replace hw10 := Option.some.inj hw10
    refine hw_last (x := (v3.toInt64)) hx hb hKs hH ha8.1 ha8.2 hj9 dL_plan_15 (fun H locs hH => ?_)
    rw [hw10] at hH
    refine lv_goto (tgt := 31) hx hb dL_plan_16 (by decide) ?_
    refine lv_iconst (v := 0) hx hb dL_plan_31 (by decide) ?_
    exact hw_wret hx hb (Nat.le_of_ble_eq_true rfl) (Nat.le_of_ble_eq_true rfl) hret hf hH hlocks dL_plan_32

theorem dL_printDay_0 : decode cL_printDay 0 = .ok (.aload_n 2, 1) := by decide +kernel
theorem dL_printDay_1 : decode cL_printDay 1 = .ok (.iconst 0, 1) := by decide +kernel
theorem dL_printDay_2 : decode cL_printDay 2 = .ok (.aload_n 0, 1) := by decide +kernel
theorem dL_printDay_3 : decode cL_printDay 3 = .ok (.iload_n 1, 1) := by decide +kernel
theorem dL_printDay_4 : decode cL_printDay 4 = .ok (.invokevirtual 109, 3) := by decide +kernel
theorem dL_printDay_7 : decode cL_printDay 7 = .ok (.i2l, 1) := by decide +kernel
theorem dL_printDay_8 : decode cL_printDay 8 = .ok (.lastore, 1) := by decide +kernel
theorem dL_printDay_9 : decode cL_printDay 9 = .ok (.goto 6, 3) := by decide +kernel
theorem dL_printDay_12 : decode cL_printDay 12 = .ok (.astore_n 3, 1) := by decide +kernel
theorem dL_printDay_13 : decode cL_printDay 13 = .ok (.iconst 1, 1) := by decide +kernel
theorem dL_printDay_14 : decode cL_printDay 14 = .ok (.ireturn, 1) := by decide +kernel
theorem dL_printDay_15 : decode cL_printDay 15 = .ok (.iconst 0, 1) := by decide +kernel
theorem dL_printDay_16 : decode cL_printDay 16 = .ok (.ireturn, 1) := by decide +kernel
theorem hs_L_printDay : yL_printDay.cls ≠ "java/lang/invoke/MethodHandle" ∧ yL_printDay.cls ≠ "java/lang/invoke/VarHandle" ∧ (parseMethodDescriptor yL_printDay.desc).map (fun d => d.parameters.length) = some 3 := by decide +kernel
set_option maxHeartbeats 4000000 in
set_option maxRecDepth 100000 in
theorem k_L_printDay (l : Launch) (hls : l.stackTraces = false) (E : Ev) (K : Kd) (z : Nat) (a_0 : Option Nat) (a_1 : Int32) (a_2 : Option Nat) (w : Wd) {r : Int32} {w' : Wd} (hf : f_L_printDay K a_0 a_1 a_2 w = some (r, w')) : Met l yL_printDay (Cond.codeWith yL_printDay cL_printDay 4 (Option.some Jvm.ClassFile.FieldType.int) [(0, 9, 12, 13)] :: bt) ({ frames := 8, cells := 1, slots := 6, locals := 135 } : Room) (va_Pc [rv E a_0, .int a_1, rv E a_2] (HB E K w z)) (QW E K w' r) 1 6 (hA E) := by
  refine MetH_ofW (cc := cL_printDay) (maxL := 4) (ret := (Option.some Jvm.ClassFile.FieldType.int)) (hh := [(0, 9, 12, 13)]) (by decide) rfl ?_
  intro p e s m args below meth c s₁ B hml htab hv
  obtain ⟨rfl, hz, hP, hKs, hT, hb0⟩ := hv
  have C : CX p l e s m _ meth c cL_printDay 4 RL (Option.some Jvm.ClassFile.FieldType.int) E := ⟨B.exec, B.bytes, hml, findClass_of_methodNamed B.named, fun w h => atoms_spec (ws := Cond.codeWith yL_printDay cL_printDay 4 (Option.some Jvm.ClassFile.FieldType.int) [(0, 9, 12, 13)] :: bt) B.pre w (List.mem_cons_of_mem _ h), hKs, hT, by rw [hz]; exact hb0, B.notSynchronized, B.returns⟩
  have hH : HQ E K z w s s.heap [] := ⟨hP, va_S.rf, hz⟩
  obtain ⟨hx, hb, hml, hown, hts, hKs, hT, hb0, hlocks, hret⟩ := id C
  have hl := lv_entry [rv E a_0, .int a_1, rv E a_2] (n := 4) (by simp [lg_len_nil, lg_len_i, lg_len_j, lg_len_q, lg_len_f, lg_len_d, lg_len_r])
  rw [lg_entry_eq]
  generalize (lg_sl [rv E a_0, .int a_1, rv E a_2] ++ List.replicate (4 - (lg_sl [rv E a_0, .int a_1, rv E a_2]).length) Slot.unset).toArray = ls at hl ⊢
  replace hl : lv_has ls 4 [(0, rv E a_0), (1, .int a_1), (2, rv E a_2)] := by simpa only [lv_args, cat_q, cat_i, cat_j, reduceIte, Nat.reduceEqDiff, Nat.reduceAdd, Nat.zero_add] using hl
  generalize s.heap = H at hH ⊢
  unfold f_L_printDay at hf
  refine hl_aload_n hx hb dL_printDay_0 rfl (lv_at hl 2 rfl) ?_
  refine lv_iconst (v := 0) hx hb dL_printDay_1 (by decide) ?_
  refine hl_aload_n hx hb dL_printDay_2 rfl (lv_at hl 0 rfl) ?_
  refine lv_iload_n hx hb dL_printDay_3 rfl (lv_at hl 1 rfl) ?_
  obtain ⟨a1, ha1, hf⟩ := bnd hf
  replace ha1 := chk_some ha1
  obtain ⟨q2, hq2, hf⟩ := bnd hf
  refine hxC_i hx hb hml hown hts hKs hT hb0 hH (As := [.int a_1]) (rest := [.int 0, rv E a_2]) (k_X12_printDay l hls E K H.size a1 a_1 w ha1.2 hq2) (gV m6_135 m6_136 m6_137 m1_1 m6_138) hd_X12_printDay ⟨Nat.le_of_ble_eq_true rfl, Nat.le_of_ble_eq_true rfl, rfl, rfl⟩ ha1.1 ha1.2 rfl rfl rfl hl.1 rfl (rcI (rcV rc0)) rfl dL_printDay_4 ⟨Nat.le_of_ble_eq_true rfl, Nat.le_of_ble_eq_true rfl⟩ (fun c4 hc4 H locs q9 ce9 hH hc9 hv9 hf9 => ?_) (fun v3 hv3 H locs hH => ?_)
  · replace hf := (xh_inr hc4).symm.trans hf
    by_cases h5 : c4 = 2
    · subst h5
      replace hf := (if_pos rfl).symm.trans hf
      refine vx_catch (name := "java/lang/IllegalArgumentException") hown [] ⟨0, 9, 12, 13⟩ [] htab pass0 (by decide) (by decide) (hts _ m4_213) (va_Nw.use rfl (hKs.2.1 _ m4_220)) hc9 hv9 hf9 ?_
      refine lv_astore_n (lv' := [(3, .ref q9), (0, rv E a_0), (1, .int a_1), (2, rv E a_2)]) hx hb dL_printDay_12 rfl hl (by decide) (by simp [List.filter_cons, cat_q, cat_i, cat_j]) (fun ls hl => ?_)
      refine lv_iconst (v := 1) hx hb dL_printDay_13 (by decide) ?_
      exact hw_wret hx hb (Nat.le_of_ble_eq_true rfl) (Nat.le_of_ble_eq_true rfl) hret hf hH hlocks dL_printDay_14
    replace hf := (if_neg h5).symm.trans hf
    cases hf
  · replace hf := (xh_inl hv3).symm.trans hf
    refine lv_i2l (v := (v3.toInt64)) hx hb dL_printDay_7 rfl ?_
    obtain ⟨a6, ha6, hf⟩ := bnd hf
    replace ha6 := cha_some ha6
    obtain ⟨j7, hj7, hf⟩ := bnd hf
    obtain ⟨w8, hw8, hf⟩ := bnd hf
    replace hw8 := Option.some.inj hw8
    refine hw_last (x := (v3.toInt64)) hx hb hKs hH ha6.1 ha6.2 hj7 dL_printDay_8 (fun H locs hH => ?_)
    rw [hw8] at hH
    refine lv_goto (tgt := 15) hx hb dL_printDay_9 (by decide) ?_
    refine lv_iconst (v := 0) hx hb dL_printDay_15 (by decide) ?_
    exact hw_wret hx hb (Nat.le_of_ble_eq_true rfl) (Nat.le_of_ble_eq_true rfl) hret hf hH hlocks dL_printDay_16

theorem dX12_opening_0 : decode cX12_opening 0 = .ok (.aload_n 0, 1) := by decide +kernel
theorem dX12_opening_1 : decode cX12_opening 1 = .ok (.iconst 3, 1) := by decide +kernel
theorem dX12_opening_2 : decode cX12_opening 2 = .ok (.iload_n 1, 1) := by decide +kernel
theorem dX12_opening_3 : decode cX12_opening 3 = .ok (.invokevirtual 175, 3) := by decide +kernel
theorem dX12_opening_6 : decode cX12_opening 6 = .ok (.iload_n 2, 1) := by decide +kernel
theorem dX12_opening_7 : decode cX12_opening 7 = .ok (.ifCond .lt 8, 3) := by decide +kernel
theorem dX12_opening_10 : decode cX12_opening 10 = .ok (.iload_n 2, 1) := by decide +kernel
theorem dX12_opening_11 : decode cX12_opening 11 = .ok (.iconst 3, 1) := by decide +kernel
theorem dX12_opening_12 : decode cX12_opening 12 = .ok (.if_icmp .le 11, 3) := by decide +kernel
theorem dX12_opening_15 : decode cX12_opening 15 = .ok (.new 193, 3) := by decide +kernel
theorem dX12_opening_18 : decode cX12_opening 18 = .ok (.dup, 1) := by decide +kernel
theorem dX12_opening_19 : decode cX12_opening 19 = .ok (.invokespecial 195, 3) := by decide +kernel
theorem dX12_opening_22 : decode cX12_opening 22 = .ok (.athrow, 1) := by decide +kernel
theorem dX12_opening_23 : decode cX12_opening 23 = .ok (.aload_n 0, 1) := by decide +kernel
theorem dX12_opening_24 : decode cX12_opening 24 = .ok (.iload_n 1, 1) := by decide +kernel
theorem dX12_opening_25 : decode cX12_opening 25 = .ok (.invokevirtual 280, 3) := by decide +kernel
theorem dX12_opening_28 : decode cX12_opening 28 = .ok (.aload_n 0, 1) := by decide +kernel
theorem dX12_opening_29 : decode cX12_opening 29 = .ok (.getfield 52, 3) := by decide +kernel
theorem dX12_opening_32 : decode cX12_opening 32 = .ok (.aload_n 0, 1) := by decide +kernel
theorem dX12_opening_33 : decode cX12_opening 33 = .ok (.getfield 35, 3) := by decide +kernel
theorem dX12_opening_36 : decode cX12_opening 36 = .ok (.iload_n 1, 1) := by decide +kernel
theorem dX12_opening_37 : decode cX12_opening 37 = .ok (.iconst 0, 1) := by decide +kernel
theorem dX12_opening_38 : decode cX12_opening 38 = .ok (.invokevirtual 287, 3) := by decide +kernel
theorem dX12_opening_41 : decode cX12_opening 41 = .ok (.ifCond .ne 5, 3) := by decide +kernel
theorem dX12_opening_44 : decode cX12_opening 44 = .ok (.iconst (-1), 1) := by decide +kernel
theorem dX12_opening_45 : decode cX12_opening 45 = .ok (.ireturn, 1) := by decide +kernel
theorem dX12_opening_46 : decode cX12_opening 46 = .ok (.iload_n 2, 1) := by decide +kernel
theorem dX12_opening_47 : decode cX12_opening 47 = .ok (.tableswitch 49 0 2 #[25, 33, 41], 25) := by decide +kernel
theorem dX12_opening_72 : decode cX12_opening 72 = .ok (.aload_n 0, 1) := by decide +kernel
theorem dX12_opening_73 : decode cX12_opening 73 = .ok (.getfield 52, 3) := by decide +kernel
theorem dX12_opening_76 : decode cX12_opening 76 = .ok (.getfield 291, 3) := by decide +kernel
theorem dX12_opening_79 : decode cX12_opening 79 = .ok (.ireturn, 1) := by decide +kernel
theorem dX12_opening_80 : decode cX12_opening 80 = .ok (.aload_n 0, 1) := by decide +kernel
theorem dX12_opening_81 : decode cX12_opening 81 = .ok (.getfield 52, 3) := by decide +kernel
theorem dX12_opening_84 : decode cX12_opening 84 = .ok (.getfield 292, 3) := by decide +kernel
theorem dX12_opening_87 : decode cX12_opening 87 = .ok (.ireturn, 1) := by decide +kernel
theorem dX12_opening_88 : decode cX12_opening 88 = .ok (.aload_n 0, 1) := by decide +kernel
theorem dX12_opening_89 : decode cX12_opening 89 = .ok (.getfield 52, 3) := by decide +kernel
theorem dX12_opening_92 : decode cX12_opening 92 = .ok (.getfield 293, 3) := by decide +kernel
theorem dX12_opening_95 : decode cX12_opening 95 = .ok (.ireturn, 1) := by decide +kernel
theorem dX12_opening_96 : decode cX12_opening 96 = .ok (.aload_n 0, 1) := by decide +kernel
theorem dX12_opening_97 : decode cX12_opening 97 = .ok (.getfield 52, 3) := by decide +kernel
theorem dX12_opening_100 : decode cX12_opening 100 = .ok (.getfield 294, 3) := by decide +kernel
theorem dX12_opening_103 : decode cX12_opening 103 = .ok (.ireturn, 1) := by decide +kernel
theorem hd_X12_opening : yX12_opening.cls = RX12 ∧ yX12_opening.cls ≠ "java/lang/invoke/MethodHandle" ∧ yX12_opening.cls ≠ "java/lang/invoke/VarHandle" ∧ (parseMethodDescriptor yX12_opening.desc).map (fun d => d.parameters.length) = some 2 := by decide +kernel
theorem hs_X12_opening : yX12_opening.cls ≠ "java/lang/invoke/MethodHandle" ∧ yX12_opening.cls ≠ "java/lang/invoke/VarHandle" ∧ (parseMethodDescriptor yX12_opening.desc).map (fun d => d.parameters.length) = some 2 := by decide +kernel
set_option maxHeartbeats 4000000 in
set_option maxRecDepth 100000 in
theorem k_X12_opening (l : Launch) (hls : l.stackTraces = false) (E : Ev) (K : Kd) (z : Nat) (o : Nat) (a_1 : Int32) (a_2 : Int32) (w : Wd) (ho : K o = some (10, 0)) {r : Int32 ⊕ Nat} {w' : Wd} (hf : f_X12_opening K o a_1 a_2 w = some (r, w')) : vx_Met l yX12_opening (Cond.code yX12_opening cX12_opening 3 (Option.some Jvm.ClassFile.FieldType.int) :: bt) ({ frames := 7, cells := 2, slots := 12, locals := 128 } : Room) (va_Pc [rv E (some o), .int a_1, .int a_2] (HB E K w z)) (XI E K z w' r) (XX E K w' r) 2 12 (hA E) := by
  refine vx_ofW (cc := cX12_opening) (maxL := 3) (ret := (Option.some Jvm.ClassFile.FieldType.int)) (by decide) rfl ?_
  intro p e s m args below meth c s₁ B hml hout hv
  obtain ⟨rfl, hz, hP, hKs, hT, hb0⟩ := hv
  have C : CX p l e s m _ meth c cX12_opening 3 RX12 (Option.some Jvm.ClassFile.FieldType.int) E := ⟨B.exec, B.bytes, hml, findClass_of_methodNamed B.named, fun w h => atoms_spec (ws := Cond.code yX12_opening cX12_opening 3 (Option.some Jvm.ClassFile.FieldType.int) :: bt) B.pre w (List.mem_cons_of_mem _ h), hKs, hT, by rw [hz]; exact hb0, B.notSynchronized, B.returns⟩
  have hH : HQ E K z w s s.heap [] := ⟨hP, va_S.rf, hz⟩
  obtain ⟨hx, hb, hml, hown, hts, hKs, hT, hb0, hlocks, hret⟩ := id C
  have hl := lv_entry [rv E (some o), .int a_1, .int a_2] (n := 3) (by simp [lg_len_nil, lg_len_i, lg_len_j, lg_len_q, lg_len_f, lg_len_d, lg_len_r])
  rw [lg_entry_eq]
  generalize (lg_sl [rv E (some o), .int a_1, .int a_2] ++ List.replicate (3 - (lg_sl [rv E (some o), .int a_1, .int a_2]).length) Slot.unset).toArray = ls at hl ⊢
  replace hl : lv_has ls 3 [(0, rv E (some o)), (1, .int a_1), (2, .int a_2)] := by simpa only [lv_args, cat_q, cat_i, cat_j, reduceIte, Nat.reduceEqDiff, Nat.reduceAdd, Nat.zero_add] using hl
  generalize s.heap = H at hH ⊢
  unfold f_X12_opening at hf
  refine hl_aload_n hx hb dX12_opening_0 rfl (lv_at hl 0 rfl) ?_
  refine lv_iconst (v := 3) hx hb dX12_opening_1 (by decide) ?_
  refine lv_iload_n hx hb dX12_opening_2 rfl (lv_at hl 1 rfl) ?_
  obtain ⟨q1, hq1, hf⟩ := bnd hf
  refine hxV_v hx hb hml hown hts hKs hT hb0 hH (As := [.int 3, .int a_1]) (rest := []) (k_X12_requireExisting l hls E K H.size o 3 a_1 w ho hq1) (gV m5_91 m5_93 ms_37 m1_1 m5_94) hd_X12_requireExisting ⟨Nat.le_of_ble_eq_true rfl, Nat.le_of_ble_eq_true rfl, rfl, rfl⟩ rfl ho rfl rfl rfl hl.1 rfl rc0 rfl dX12_opening_3 ⟨Nat.le_of_ble_eq_true rfl, Nat.le_of_ble_eq_true rfl⟩ ⟨Nat.le_of_ble_eq_true rfl, Nat.le_of_ble_eq_true rfl⟩ hout hlocks (fun x hx9 => (fun h9 => ⟨(congrArg Prod.fst h9).symm, (congrArg Prod.snd h9).symm⟩) (Option.some.inj ((xk_inr hx9).symm.trans hf))) (fun v2 hv2 H locs hH => ?_)
  replace hf := (xk_inl hv2).symm.trans hf
  refine lv_iload_n hx hb dX12_opening_6 rfl (lv_at hl 2 rfl) ?_
  refine lv_if_lt (tgt := 15) hx hb dX12_opening_7 (by decide) (fun c3 => ?_) (fun c3 => ?_)
  · replace hf := (if_pos c3).symm.trans hf
    exact hx_throw hx hb hls (code := 1) hml hl.1 hown hts hKs hT hb0 hH (by decide) rfl m5_95 m1_28 hat_RX12_195 dX12_opening_15 dX12_opening_18 dX12_opening_19 dX12_opening_22 hout (Nat.le_of_ble_eq_true rfl) rc0 (Nat.le_of_ble_eq_true rfl) (Nat.le_of_ble_eq_true rfl) (Nat.le_of_ble_eq_true rfl) hlocks hf (Nat.le_of_ble_eq_true rfl) (Nat.le_of_ble_eq_true rfl)
  · replace hf := (if_neg c3).symm.trans hf
    refine lv_iload_n hx hb dX12_opening_10 rfl (lv_at hl 2 rfl) ?_
    refine lv_iconst (v := 3) hx hb dX12_opening_11 (by decide) ?_
    refine lv_icmp_le (tgt := 23) hx hb dX12_opening_12 (by decide) (fun c4 => ?_) (fun c4 => ?_)
    · replace hf := (if_pos c4).symm.trans hf
      refine hl_aload_n hx hb dX12_opening_23 rfl (lv_at hl 0 rfl) ?_
      refine lv_iload_n hx hb dX12_opening_24 rfl (lv_at hl 1 rfl) ?_
      obtain ⟨q5, hq5, hf⟩ := bnd hf
      refine hxV_v hx hb hml hown hts hKs hT hb0 hH (As := [.int a_1]) (rest := []) (k_X12_requireUnfinished l hls E K H.size o a_1 q1.2 ho hq5) (gV m5_191 m5_193 ms_40 m1_1 m5_194) hd_X12_requireUnfinished ⟨Nat.le_of_ble_eq_true rfl, Nat.le_of_ble_eq_true rfl, rfl, rfl⟩ rfl ho rfl rfl rfl hl.1 rfl rc0 rfl dX12_opening_25 ⟨Nat.le_of_ble_eq_true rfl, Nat.le_of_ble_eq_true rfl⟩ ⟨Nat.le_of_ble_eq_true rfl, Nat.le_of_ble_eq_true rfl⟩ hout hlocks (fun x hx9 => (fun h9 => ⟨(congrArg Prod.fst h9).symm, (congrArg Prod.snd h9).symm⟩) (Option.some.inj ((xk_inr hx9).symm.trans hf))) (fun v6 hv6 H locs hH => ?_)
      replace hf := (xk_inl hv6).symm.trans hf
      refine hl_aload_n hx hb dX12_opening_28 rfl (lv_at hl 0 rfl) ?_
      refine g12_11 hx hb hts hown hKs hH rfl ho m2_230 dX12_opening_29 ?_
      refine hl_aload_n hx hb dX12_opening_32 rfl (lv_at hl 0 rfl) ?_
      refine g12_5 hx hb hts hown hKs hH rfl ho m2_224 dX12_opening_33 ?_
      refine lv_iload_n hx hb dX12_opening_36 rfl (lv_at hl 1 rfl) ?_
      refine lv_iconst (v := 0) hx hb dX12_opening_37 (by decide) ?_
      obtain ⟨a7, ha7, hf⟩ := bnd hf
      replace ha7 := chk_some ha7
      obtain ⟨q8, hq8, hf⟩ := bnd hf
      refine hcV_i hx hb hml hown hts hKs hT hb0 hH (As := [rv E (wR q5.2 1205 o), .int a_1, .int 0]) (rest := []) (k_X6_findFirst l E K H.size a7 (wR q5.2 1205 o) a_1 0 q5.2 ha7.2 hq8) (gV m5_221 m4_112 m4_113 m1_14 m4_114) hd_X6_findFirst ⟨Nat.le_of_ble_eq_true rfl, Nat.le_of_ble_eq_true rfl, rfl, rfl⟩ ha7.1 ha7.2 rfl rfl rfl hl.1 rfl rc0 rfl dX12_opening_38 ⟨Nat.le_of_ble_eq_true rfl, Nat.le_of_ble_eq_true rfl⟩ (fun H locs hH => ?_)
      refine lv_if_ne (tgt := 46) hx hb dX12_opening_41 (by decide) (fun c9 => ?_) (fun c9 => ?_)
      · replace hf := (if_neg c9).symm.trans hf
        refine lv_iload_n hx hb dX12_opening_46 rfl (lv_at hl 2 rfl) ?_
        by_cases c10 : (a_2 < 0 ∨ 2 < a_2)
        · replace hf := (if_pos c10).symm.trans hf
          refine hl_tabOut (tgt := 96) hx hb dX12_opening_47 c10 (by decide) (by decide) (by decide) ?_
          refine hl_aload_n hx hb dX12_opening_96 rfl (lv_at hl 0 rfl) ?_
          refine g12_11 hx hb hts hown hKs hH rfl ho m2_230 dX12_opening_97 ?_
          obtain ⟨a11, ha11, hf⟩ := bnd hf
          replace ha11 := chk_some ha11
          refine gn6_11 hx hb hts hown hKs hH ha11.1 ha11.2 m2_171 dX12_opening_100 ?_
          exact hx_iret hx hb (Nat.le_of_ble_eq_true rfl) (Nat.le_of_ble_eq_true rfl) hret hf hH hlocks dX12_opening_103
        replace hf := (if_neg c10).symm.trans hf
        by_cases c12 : a_2 = 0
        · replace hf := (if_pos c12).symm.trans hf
          refine hl_tabIn (tgt := 72) hx hb dX12_opening_47 c12 (by decide) (by decide) rfl (by decide) ?_
          refine hl_aload_n hx hb dX12_opening_72 rfl (lv_at hl 0 rfl) ?_
          refine g12_11 hx hb hts hown hKs hH rfl ho m2_230 dX12_opening_73 ?_
          obtain ⟨a13, ha13, hf⟩ := bnd hf
          replace ha13 := chk_some ha13
          refine gn6_8 hx hb hts hown hKs hH ha13.1 ha13.2 m2_165 dX12_opening_76 ?_
          exact hx_iret hx hb (Nat.le_of_ble_eq_true rfl) (Nat.le_of_ble_eq_true rfl) hret hf hH hlocks dX12_opening_79
        replace hf := (if_neg c12).symm.trans hf
        by_cases c14 : a_2 = 1
        · replace hf := (if_pos c14).symm.trans hf
          refine hl_tabIn (tgt := 80) hx hb dX12_opening_47 c14 (by decide) (by decide) rfl (by decide) ?_
          refine hl_aload_n hx hb dX12_opening_80 rfl (lv_at hl 0 rfl) ?_
          refine g12_11 hx hb hts hown hKs hH rfl ho m2_230 dX12_opening_81 ?_
          obtain ⟨a15, ha15, hf⟩ := bnd hf
          replace ha15 := chk_some ha15
          refine gn6_9 hx hb hts hown hKs hH ha15.1 ha15.2 m2_167 dX12_opening_84 ?_
          exact hx_iret hx hb (Nat.le_of_ble_eq_true rfl) (Nat.le_of_ble_eq_true rfl) hret hf hH hlocks dX12_opening_87
        replace hf := (if_neg c14).symm.trans hf
        by_cases c16 : a_2 = 2
        · replace hf := (if_pos c16).symm.trans hf
          refine hl_tabIn (tgt := 88) hx hb dX12_opening_47 c16 (by decide) (by decide) rfl (by decide) ?_
          refine hl_aload_n hx hb dX12_opening_88 rfl (lv_at hl 0 rfl) ?_
          refine g12_11 hx hb hts hown hKs hH rfl ho m2_230 dX12_opening_89 ?_
          obtain ⟨a17, ha17, hf⟩ := bnd hf
          replace ha17 := chk_some ha17
          refine gn6_10 hx hb hts hown hKs hH ha17.1 ha17.2 m2_169 dX12_opening_92 ?_
          exact hx_iret hx hb (Nat.le_of_ble_eq_true rfl) (Nat.le_of_ble_eq_true rfl) hret hf hH hlocks dX12_opening_95
        replace hf := (if_neg c16).symm.trans hf
        cases hf
      · replace hf := (if_pos c9).symm.trans hf
        refine lv_iconst (v := (-1)) hx hb dX12_opening_44 (by decide) ?_
        exact hx_iret hx hb (Nat.le_of_ble_eq_true rfl) (Nat.le_of_ble_eq_true rfl) hret hf hH hlocks dX12_opening_45
    · replace hf := (if_neg c4).symm.trans hf
      exact hx_throw hx hb hls (code := 1) hml hl.1 hown hts hKs hT hb0 hH (by decide) rfl m5_95 m1_28 hat_RX12_195 dX12_opening_15 dX12_opening_18 dX12_opening_19 dX12_opening_22 hout (Nat.le_of_ble_eq_true rfl) rc0 (Nat.le_of_ble_eq_true rfl) (Nat.le_of_ble_eq_true rfl) (Nat.le_of_ble_eq_true rfl) hlocks hf (Nat.le_of_ble_eq_true rfl) (Nat.le_of_ble_eq_true rfl)

theorem dX12_openDays_0 : decode cX12_openDays 0 = .ok (.aload_n 0, 1) := by decide +kernel
theorem dX12_openDays_1 : decode cX12_openDays 1 = .ok (.iconst 3, 1) := by decide +kernel
theorem dX12_openDays_2 : decode cX12_openDays 2 = .ok (.iload_n 1, 1) := by decide +kernel
theorem dX12_openDays_3 : decode cX12_openDays 3 = .ok (.invokevirtual 175, 3) := by decide +kernel
theorem dX12_openDays_6 : decode cX12_openDays 6 = .ok (.aload_n 0, 1) := by decide +kernel
theorem dX12_openDays_7 : decode cX12_openDays 7 = .ok (.iload_n 1, 1) := by decide +kernel
theorem dX12_openDays_8 : decode cX12_openDays 8 = .ok (.invokevirtual 280, 3) := by decide +kernel
theorem dX12_openDays_11 : decode cX12_openDays 11 = .ok (.aload_n 0, 1) := by decide +kernel
theorem dX12_openDays_12 : decode cX12_openDays 12 = .ok (.getfield 52, 3) := by decide +kernel
theorem dX12_openDays_15 : decode cX12_openDays 15 = .ok (.aload_n 0, 1) := by decide +kernel
theorem dX12_openDays_16 : decode cX12_openDays 16 = .ok (.getfield 35, 3) := by decide +kernel
theorem dX12_openDays_19 : decode cX12_openDays 19 = .ok (.iload_n 1, 1) := by decide +kernel
theorem dX12_openDays_20 : decode cX12_openDays 20 = .ok (.invokevirtual 295, 3) := by decide +kernel
theorem dX12_openDays_23 : decode cX12_openDays 23 = .ok (.ireturn, 1) := by decide +kernel
theorem hd_X12_openDays : yX12_openDays.cls = RX12 ∧ yX12_openDays.cls ≠ "java/lang/invoke/MethodHandle" ∧ yX12_openDays.cls ≠ "java/lang/invoke/VarHandle" ∧ (parseMethodDescriptor yX12_openDays.desc).map (fun d => d.parameters.length) = some 1 := by decide +kernel
theorem hs_X12_openDays : yX12_openDays.cls ≠ "java/lang/invoke/MethodHandle" ∧ yX12_openDays.cls ≠ "java/lang/invoke/VarHandle" ∧ (parseMethodDescriptor yX12_openDays.desc).map (fun d => d.parameters.length) = some 1 := by decide +kernel
set_option maxHeartbeats 4000000 in
set_option maxRecDepth 100000 in
theorem k_X12_openDays (l : Launch) (hls : l.stackTraces = false) (E : Ev) (K : Kd) (z : Nat) (o : Nat) (a_1 : Int32) (w : Wd) (ho : K o = some (10, 0)) {r : Int32 ⊕ Nat} {w' : Wd} (hf : f_X12_openDays K o a_1 w = some (r, w')) : vx_Met l yX12_openDays (Cond.code yX12_openDays cX12_openDays 2 (Option.some Jvm.ClassFile.FieldType.int) :: bt) ({ frames := 7, cells := 2, slots := 12, locals := 128 } : Room) (va_Pc [rv E (some o), .int a_1] (HB E K w z)) (XI E K z w' r) (XX E K w' r) 2 12 (hA E) := by
  refine vx_ofW (cc := cX12_openDays) (maxL := 2) (ret := (Option.some Jvm.ClassFile.FieldType.int)) (by decide) rfl ?_
  intro p e s m args below meth c s₁ B hml hout hv
  obtain ⟨rfl, hz, hP, hKs, hT, hb0⟩ := hv
  have C : CX p l e s m _ meth c cX12_openDays 2 RX12 (Option.some Jvm.ClassFile.FieldType.int) E := ⟨B.exec, B.bytes, hml, findClass_of_methodNamed B.named, fun w h => atoms_spec (ws := Cond.code yX12_openDays cX12_openDays 2 (Option.some Jvm.ClassFile.FieldType.int) :: bt) B.pre w (List.mem_cons_of_mem _ h), hKs, hT, by rw [hz]; exact hb0, B.notSynchronized, B.returns⟩
  have hH : HQ E K z w s s.heap [] := ⟨hP, va_S.rf, hz⟩
  obtain ⟨hx, hb, hml, hown, hts, hKs, hT, hb0, hlocks, hret⟩ := id C
  have hl := lv_entry [rv E (some o), .int a_1] (n := 2) (by simp [lg_len_nil, lg_len_i, lg_len_j, lg_len_q, lg_len_f, lg_len_d, lg_len_r])
  rw [lg_entry_eq]
  generalize (lg_sl [rv E (some o), .int a_1] ++ List.replicate (2 - (lg_sl [rv E (some o), .int a_1]).length) Slot.unset).toArray = ls at hl ⊢
  replace hl : lv_has ls 2 [(0, rv E (some o)), (1, .int a_1)] := by simpa only [lv_args, cat_q, cat_i, cat_j, reduceIte, Nat.reduceEqDiff, Nat.reduceAdd, Nat.zero_add] using hl
  generalize s.heap = H at hH ⊢
  unfold f_X12_openDays at hf
  refine hl_aload_n hx hb dX12_openDays_0 rfl (lv_at hl 0 rfl) ?_
  refine lv_iconst (v := 3) hx hb dX12_openDays_1 (by decide) ?_
  refine lv_iload_n hx hb dX12_openDays_2 rfl (lv_at hl 1 rfl) ?_
  obtain ⟨q1, hq1, hf⟩ := bnd hf
  refine hxV_v hx hb hml hown hts hKs hT hb0 hH (As := [.int 3, .int a_1]) (rest := []) (k_X12_requireExisting l hls E K H.size o 3 a_1 w ho hq1) (gV m5_91 m5_93 ms_37 m1_1 m5_94) hd_X12_requireExisting ⟨Nat.le_of_ble_eq_true rfl, Nat.le_of_ble_eq_true rfl, rfl, rfl⟩ rfl ho rfl rfl rfl hl.1 rfl rc0 rfl dX12_openDays_3 ⟨Nat.le_of_ble_eq_true rfl, Nat.le_of_ble_eq_true rfl⟩ ⟨Nat.le_of_ble_eq_true rfl, Nat.le_of_ble_eq_true rfl⟩ hout hlocks (fun x hx9 => (fun h9 => ⟨(congrArg Prod.fst h9).symm, (congrArg Prod.snd h9).symm⟩) (Option.some.inj ((xk_inr hx9).symm.trans hf))) (fun v2 hv2 H locs hH => ?_)
  replace hf := (xk_inl hv2).symm.trans hf
  refine hl_aload_n hx hb dX12_openDays_6 rfl (lv_at hl 0 rfl) ?_
  refine lv_iload_n hx hb dX12_openDays_7 rfl (lv_at hl 1 rfl) ?_
  obtain ⟨q3, hq3, hf⟩ := bnd hf
  refine hxV_v hx hb hml hown hts hKs hT hb0 hH (As := [.int a_1]) (rest := []) (k_X12_requireUnfinished l hls E K H.size o a_1 q1.2 ho hq3) (gV m5_191 m5_193 ms_40 m1_1 m5_194) hd_X12_requireUnfinished ⟨Nat.le_of_ble_eq_true rfl, Nat.le_of_ble_eq_true rfl, rfl, rfl⟩ rfl ho rfl rfl rfl hl.1 rfl rc0 rfl dX12_openDays_8 ⟨Nat.le_of_ble_eq_true rfl, Nat.le_of_ble_eq_true rfl⟩ ⟨Nat.le_of_ble_eq_true rfl, Nat.le_of_ble_eq_true rfl⟩ hout hlocks (fun x hx9 => (fun h9 => ⟨(congrArg Prod.fst h9).symm, (congrArg Prod.snd h9).symm⟩) (Option.some.inj ((xk_inr hx9).symm.trans hf))) (fun v4 hv4 H locs hH => ?_)
  replace hf := (xk_inl hv4).symm.trans hf
  refine hl_aload_n hx hb dX12_openDays_11 rfl (lv_at hl 0 rfl) ?_
  refine g12_11 hx hb hts hown hKs hH rfl ho m2_230 dX12_openDays_12 ?_
  refine hl_aload_n hx hb dX12_openDays_15 rfl (lv_at hl 0 rfl) ?_
  refine g12_5 hx hb hts hown hKs hH rfl ho m2_224 dX12_openDays_16 ?_
  refine lv_iload_n hx hb dX12_openDays_19 rfl (lv_at hl 1 rfl) ?_
  obtain ⟨a5, ha5, hf⟩ := bnd hf
  replace ha5 := chk_some ha5
  obtain ⟨q6, hq6, hf⟩ := bnd hf
  refine hcV_i hx hb hml hown hts hKs hT hb0 hH (As := [rv E (wR q3.2 1205 o), .int a_1]) (rest := []) (k_X6_countOpenDays l E K H.size a5 (wR q3.2 1205 o) a_1 q3.2 ha5.2 hq6) (gV m5_229 m5_230 m5_231 m1_14 m5_232) hd_X6_countOpenDays ⟨Nat.le_of_ble_eq_true rfl, Nat.le_of_ble_eq_true rfl, rfl, rfl⟩ ha5.1 ha5.2 rfl rfl rfl hl.1 rfl rc0 rfl dX12_openDays_20 ⟨Nat.le_of_ble_eq_true rfl, Nat.le_of_ble_eq_true rfl⟩ (fun H locs hH => ?_)
  exact hx_iret hx hb (Nat.le_of_ble_eq_true rfl) (Nat.le_of_ble_eq_true rfl) hret hf hH hlocks dX12_openDays_23

theorem dX12_fewestOfficers_0 : decode cX12_fewestOfficers 0 = .ok (.aload_n 0, 1) := by decide +kernel
theorem dX12_fewestOfficers_1 : decode cX12_fewestOfficers 1 = .ok (.getfield 59, 3) := by decide +kernel
theorem dX12_fewestOfficers_4 : decode cX12_fewestOfficers 4 = .ok (.aload_n 0, 1) := by decide +kernel
theorem dX12_fewestOfficers_5 : decode cX12_fewestOfficers 5 = .ok (.getfield 35, 3) := by decide +kernel
theorem dX12_fewestOfficers_8 : decode cX12_fewestOfficers 8 = .ok (.invokevirtual 312, 3) := by decide +kernel
theorem dX12_fewestOfficers_11 : decode cX12_fewestOfficers 11 = .ok (.ireturn, 1) := by decide +kernel
theorem hd_X12_fewestOfficers : yX12_fewestOfficers.cls = RX12 ∧ yX12_fewestOfficers.cls ≠ "java/lang/invoke/MethodHandle" ∧ yX12_fewestOfficers.cls ≠ "java/lang/invoke/VarHandle" ∧ (parseMethodDescriptor yX12_fewestOfficers.desc).map (fun d => d.parameters.length) = some 0 := by decide +kernel
theorem hs_X12_fewestOfficers : yX12_fewestOfficers.cls ≠ "java/lang/invoke/MethodHandle" ∧ yX12_fewestOfficers.cls ≠ "java/lang/invoke/VarHandle" ∧ (parseMethodDescriptor yX12_fewestOfficers.desc).map (fun d => d.parameters.length) = some 0 := by decide +kernel
set_option maxHeartbeats 4000000 in
set_option maxRecDepth 100000 in
theorem k_X12_fewestOfficers (l : Launch) (E : Ev) (K : Kd) (z : Nat) (o : Nat) (w : Wd) (ho : K o = some (10, 0)) {r : Int32} {w' : Wd} (hf : f_X12_fewestOfficers K o w = some (r, w')) : Met l yX12_fewestOfficers (Cond.code yX12_fewestOfficers cX12_fewestOfficers 1 (Option.some Jvm.ClassFile.FieldType.int) :: bt) ({ frames := 18, cells := 0, slots := 0, locals := 491 } : Room) (va_Pc [rv E (some o)] (HB E K w z)) (QI E K z w' r) 0 0 (hA E) := by
  refine Met.ofW (cc := cX12_fewestOfficers) (maxL := 1) (ret := (Option.some Jvm.ClassFile.FieldType.int)) (by decide) rfl ?_
  intro p e s m args below meth c s₁ B hml hv
  obtain ⟨rfl, hz, hP, hKs, hT, hb0⟩ := hv
  have C : CX p l e s m _ meth c cX12_fewestOfficers 1 RX12 (Option.some Jvm.ClassFile.FieldType.int) E := ⟨B.exec, B.bytes, hml, findClass_of_methodNamed B.named, fun w h => atoms_spec (ws := Cond.code yX12_fewestOfficers cX12_fewestOfficers 1 (Option.some Jvm.ClassFile.FieldType.int) :: bt) B.pre w (List.mem_cons_of_mem _ h), hKs, hT, by rw [hz]; exact hb0, B.notSynchronized, B.returns⟩
  have hH : HQ E K z w s s.heap [] := ⟨hP, va_S.rf, hz⟩
  obtain ⟨hx, hb, hml, hown, hts, hKs, hT, hb0, hlocks, hret⟩ := id C
  have hl := lv_entry [rv E (some o)] (n := 1) (by simp [lg_len_nil, lg_len_i, lg_len_j, lg_len_q, lg_len_f, lg_len_d, lg_len_r])
  rw [lg_entry_eq]
  generalize (lg_sl [rv E (some o)] ++ List.replicate (1 - (lg_sl [rv E (some o)]).length) Slot.unset).toArray = ls at hl ⊢
  replace hl : lv_has ls 1 [(0, rv E (some o))] := by simpa only [lv_args, cat_q, cat_i, cat_j, reduceIte, Nat.reduceEqDiff, Nat.reduceAdd, Nat.zero_add] using hl
  generalize s.heap = H at hH ⊢
  unfold f_X12_fewestOfficers at hf
  refine hl_aload_n hx hb dX12_fewestOfficers_0 rfl (lv_at hl 0 rfl) ?_
  refine g12_12 hx hb hts hown hKs hH rfl ho m2_231 dX12_fewestOfficers_1 ?_
  refine hl_aload_n hx hb dX12_fewestOfficers_4 rfl (lv_at hl 0 rfl) ?_
  refine g12_5 hx hb hts hown hKs hH rfl ho m2_224 dX12_fewestOfficers_5 ?_
  obtain ⟨a1, ha1, hf⟩ := bnd hf
  replace ha1 := chk_some ha1
  obtain ⟨q2, hq2, hf⟩ := bnd hf
  refine hcV_i hx hb hml hown hts hKs hT hb0 hH (As := [rv E (wR w 1205 o)]) (rest := []) (k_X1_countFewest l E K H.size a1 (wR w 1205 o) w ha1.2 hq2) (gV m4_27 m4_28 m4_29 m1_15 m4_30) hd_X1_countFewest ⟨Nat.le_of_ble_eq_true rfl, Nat.le_of_ble_eq_true rfl, rfl, rfl⟩ ha1.1 ha1.2 rfl rfl rfl hl.1 rfl rc0 rfl dX12_fewestOfficers_8 ⟨Nat.zero_le _, Nat.zero_le _⟩ (fun H locs hH => ?_)
  exact hw_iret hx hb hret hf hH hlocks dX12_fewestOfficers_11

theorem dX12_planNext_0 : decode cX12_planNext 0 = .ok (.aload_n 0, 1) := by decide +kernel
theorem dX12_planNext_1 : decode cX12_planNext 1 = .ok (.iconst 3, 1) := by decide +kernel
theorem dX12_planNext_2 : decode cX12_planNext 2 = .ok (.iload_n 1, 1) := by decide +kernel
theorem dX12_planNext_3 : decode cX12_planNext 3 = .ok (.invokevirtual 175, 3) := by decide +kernel
theorem dX12_planNext_6 : decode cX12_planNext 6 = .ok (.aload_n 0, 1) := by decide +kernel
theorem dX12_planNext_7 : decode cX12_planNext 7 = .ok (.getfield 35, 3) := by decide +kernel
theorem dX12_planNext_10 : decode cX12_planNext 10 = .ok (.getfield 213, 3) := by decide +kernel
theorem dX12_planNext_13 : decode cX12_planNext 13 = .ok (.iload_n 1, 1) := by decide +kernel
theorem dX12_planNext_14 : decode cX12_planNext 14 = .ok (.aaload, 1) := by decide +kernel
theorem dX12_planNext_15 : decode cX12_planNext 15 = .ok (.getfield 236, 3) := by decide +kernel
theorem dX12_planNext_18 : decode cX12_planNext 18 = .ok (.ifCond .eq 11, 3) := by decide +kernel
theorem dX12_planNext_21 : decode cX12_planNext 21 = .ok (.new 331, 3) := by decide +kernel
theorem dX12_planNext_24 : decode cX12_planNext 24 = .ok (.dup, 1) := by decide +kernel
theorem dX12_planNext_25 : decode cX12_planNext 25 = .ok (.invokespecial 333, 3) := by decide +kernel
theorem dX12_planNext_28 : decode cX12_planNext 28 = .ok (.athrow, 1) := by decide +kernel
theorem dX12_planNext_29 : decode cX12_planNext 29 = .ok (.aload_n 0, 1) := by decide +kernel
theorem dX12_planNext_30 : decode cX12_planNext 30 = .ok (.getfield 52, 3) := by decide +kernel
theorem dX12_planNext_33 : decode cX12_planNext 33 = .ok (.aload_n 0, 1) := by decide +kernel
theorem dX12_planNext_34 : decode cX12_planNext 34 = .ok (.getfield 35, 3) := by decide +kernel
theorem dX12_planNext_37 : decode cX12_planNext 37 = .ok (.iload_n 1, 1) := by decide +kernel
theorem dX12_planNext_38 : decode cX12_planNext 38 = .ok (.iconst 0, 1) := by decide +kernel
theorem dX12_planNext_39 : decode cX12_planNext 39 = .ok (.invokevirtual 287, 3) := by decide +kernel
theorem dX12_planNext_42 : decode cX12_planNext 42 = .ok (.ifCond .ne 11, 3) := by decide +kernel
theorem dX12_planNext_45 : decode cX12_planNext 45 = .ok (.new 303, 3) := by decide +kernel
theorem dX12_planNext_48 : decode cX12_planNext 48 = .ok (.dup, 1) := by decide +kernel
theorem dX12_planNext_49 : decode cX12_planNext 49 = .ok (.invokespecial 305, 3) := by decide +kernel
theorem dX12_planNext_52 : decode cX12_planNext 52 = .ok (.athrow, 1) := by decide +kernel
theorem dX12_planNext_53 : decode cX12_planNext 53 = .ok (.aload_n 0, 1) := by decide +kernel
theorem dX12_planNext_54 : decode cX12_planNext 54 = .ok (.invokevirtual 325, 3) := by decide +kernel
theorem dX12_planNext_57 : decode cX12_planNext 57 = .ok (.aload_n 0, 1) := by decide +kernel
theorem dX12_planNext_58 : decode cX12_planNext 58 = .ok (.getfield 52, 3) := by decide +kernel
theorem dX12_planNext_61 : decode cX12_planNext 61 = .ok (.aload_n 0, 1) := by decide +kernel
theorem dX12_planNext_62 : decode cX12_planNext 62 = .ok (.getfield 35, 3) := by decide +kernel
theorem dX12_planNext_65 : decode cX12_planNext 65 = .ok (.iload_n 1, 1) := by decide +kernel
theorem dX12_planNext_66 : decode cX12_planNext 66 = .ok (.invokevirtual 338, 3) := by decide +kernel
theorem dX12_planNext_69 : decode cX12_planNext 69 = .ok (.aload_n 0, 1) := by decide +kernel
theorem dX12_planNext_70 : decode cX12_planNext 70 = .ok (.getfield 52, 3) := by decide +kernel
theorem dX12_planNext_73 : decode cX12_planNext 73 = .ok (.getfield 291, 3) := by decide +kernel
theorem dX12_planNext_76 : decode cX12_planNext 76 = .ok (.ireturn, 1) := by decide +kernel
theorem hd_X12_planNext : yX12_planNext.cls = RX12 ∧ yX12_planNext.cls ≠ "java/lang/invoke/MethodHandle" ∧ yX12_planNext.cls ≠ "java/lang/invoke/VarHandle" ∧ (parseMethodDescriptor yX12_planNext.desc).map (fun d => d.parameters.length) = some 1 := by decide +kernel
theorem hs_X12_planNext : yX12_planNext.cls ≠ "java/lang/invoke/MethodHandle" ∧ yX12_planNext.cls ≠ "java/lang/invoke/VarHandle" ∧ (parseMethodDescriptor yX12_planNext.desc).map (fun d => d.parameters.length) = some 1 := by decide +kernel
set_option maxHeartbeats 4000000 in
set_option maxRecDepth 100000 in
theorem k_X12_planNext (l : Launch) (hls : l.stackTraces = false) (E : Ev) (K : Kd) (z : Nat) (o : Nat) (a_1 : Int32) (w : Wd) (ho : K o = some (10, 0)) {r : Int32 ⊕ Nat} {w' : Wd} (hf : f_X12_planNext K o a_1 w = some (r, w')) : vx_Met l yX12_planNext (Cond.code yX12_planNext cX12_planNext 2 (Option.some Jvm.ClassFile.FieldType.int) :: bt) ({ frames := 7, cells := 2, slots := 12, locals := 128 } : Room) (va_Pc [rv E (some o), .int a_1] (HB E K w z)) (XI E K z w' r) (XX E K w' r) 2 12 (hA E) := by
  refine vx_ofW (cc := cX12_planNext) (maxL := 2) (ret := (Option.some Jvm.ClassFile.FieldType.int)) (by decide) rfl ?_
  intro p e s m args below meth c s₁ B hml hout hv
  obtain ⟨rfl, hz, hP, hKs, hT, hb0⟩ := hv
  have C : CX p l e s m _ meth c cX12_planNext 2 RX12 (Option.some Jvm.ClassFile.FieldType.int) E := ⟨B.exec, B.bytes, hml, findClass_of_methodNamed B.named, fun w h => atoms_spec (ws := Cond.code yX12_planNext cX12_planNext 2 (Option.some Jvm.ClassFile.FieldType.int) :: bt) B.pre w (List.mem_cons_of_mem _ h), hKs, hT, by rw [hz]; exact hb0, B.notSynchronized, B.returns⟩
  have hH : HQ E K z w s s.heap [] := ⟨hP, va_S.rf, hz⟩
  obtain ⟨hx, hb, hml, hown, hts, hKs, hT, hb0, hlocks, hret⟩ := id C
  have hl := lv_entry [rv E (some o), .int a_1] (n := 2) (by simp [lg_len_nil, lg_len_i, lg_len_j, lg_len_q, lg_len_f, lg_len_d, lg_len_r])
  rw [lg_entry_eq]
  generalize (lg_sl [rv E (some o), .int a_1] ++ List.replicate (2 - (lg_sl [rv E (some o), .int a_1]).length) Slot.unset).toArray = ls at hl ⊢
  replace hl : lv_has ls 2 [(0, rv E (some o)), (1, .int a_1)] := by simpa only [lv_args, cat_q, cat_i, cat_j, reduceIte, Nat.reduceEqDiff, Nat.reduceAdd, Nat.zero_add] using hl
  generalize s.heap = H at hH ⊢
  unfold f_X12_planNext at hf
  refine hl_aload_n hx hb dX12_planNext_0 rfl (lv_at hl 0 rfl) ?_
  refine lv_iconst (v := 3) hx hb dX12_planNext_1 (by decide) ?_
  refine lv_iload_n hx hb dX12_planNext_2 rfl (lv_at hl 1 rfl) ?_
  obtain ⟨q1, hq1, hf⟩ := bnd hf
  refine hxV_v hx hb hml hown hts hKs hT hb0 hH (As := [.int 3, .int a_1]) (rest := []) (k_X12_requireExisting l hls E K H.size o 3 a_1 w ho hq1) (gV m5_91 m5_93 ms_37 m1_1 m5_94) hd_X12_requireExisting ⟨Nat.le_of_ble_eq_true rfl, Nat.le_of_ble_eq_true rfl, rfl, rfl⟩ rfl ho rfl rfl rfl hl.1 rfl rc0 rfl dX12_planNext_3 ⟨Nat.le_of_ble_eq_true rfl, Nat.le_of_ble_eq_true rfl⟩ ⟨Nat.le_of_ble_eq_true rfl, Nat.le_of_ble_eq_true rfl⟩ hout hlocks (fun x hx9 => (fun h9 => ⟨(congrArg Prod.fst h9).symm, (congrArg Prod.snd h9).symm⟩) (Option.some.inj ((xk_inr hx9).symm.trans hf))) (fun v2 hv2 H locs hH => ?_)
  replace hf := (xk_inl hv2).symm.trans hf
  refine hl_aload_n hx hb dX12_planNext_6 rfl (lv_at hl 0 rfl) ?_
  refine g12_5 hx hb hts hown hKs hH rfl ho m2_224 dX12_planNext_7 ?_
  obtain ⟨a3, ha3, hf⟩ := bnd hf
  replace ha3 := chk_some ha3
  refine gn10_5 hx hb hts hown hKs hH ha3.1 ha3.2 m2_135 dX12_planNext_10 ?_
  refine lv_iload_n hx hb dX12_planNext_13 rfl (lv_at hl 1 rfl) ?_
  obtain ⟨a4, ha4, hf⟩ := bnd hf
  replace ha4 := cha_some ha4
  obtain ⟨j5, hj5, hf⟩ := bnd hf
  refine hw_aald27 hx hb hKs hH ha4.1 ha4.2 hj5 dX12_planNext_14 ?_
  obtain ⟨a6, ha6, hf⟩ := bnd hf
  replace ha6 := chk_some ha6
  refine gn7_0 hx hb hts hown hKs hH ha6.1 ha6.2 m2_71 dX12_planNext_15 ?_
  refine lv_if_eq (tgt := 29) hx hb dX12_planNext_18 (by decide) (fun c7 => ?_) (fun c7 => ?_)
  · replace hf := (if_pos c7).symm.trans hf
    refine hl_aload_n hx hb dX12_planNext_29 rfl (lv_at hl 0 rfl) ?_
    refine g12_11 hx hb hts hown hKs hH rfl ho m2_230 dX12_planNext_30 ?_
    refine hl_aload_n hx hb dX12_planNext_33 rfl (lv_at hl 0 rfl) ?_
    refine g12_5 hx hb hts hown hKs hH rfl ho m2_224 dX12_planNext_34 ?_
    refine lv_iload_n hx hb dX12_planNext_37 rfl (lv_at hl 1 rfl) ?_
    refine lv_iconst (v := 0) hx hb dX12_planNext_38 (by decide) ?_
    obtain ⟨a8, ha8, hf⟩ := bnd hf
    replace ha8 := chk_some ha8
    obtain ⟨q9, hq9, hf⟩ := bnd hf
    refine hcV_i hx hb hml hown hts hKs hT hb0 hH (As := [rv E (wR q1.2 1205 o), .int a_1, .int 0]) (rest := []) (k_X6_findFirst l E K H.size a8 (wR q1.2 1205 o) a_1 0 q1.2 ha8.2 hq9) (gV m5_221 m4_112 m4_113 m1_14 m4_114) hd_X6_findFirst ⟨Nat.le_of_ble_eq_true rfl, Nat.le_of_ble_eq_true rfl, rfl, rfl⟩ ha8.1 ha8.2 rfl rfl rfl hl.1 rfl rc0 rfl dX12_planNext_39 ⟨Nat.le_of_ble_eq_true rfl, Nat.le_of_ble_eq_true rfl⟩ (fun H locs hH => ?_)
    refine lv_if_ne (tgt := 53) hx hb dX12_planNext_42 (by decide) (fun c10 => ?_) (fun c10 => ?_)
    · replace hf := (if_neg c10).symm.trans hf
      refine hl_aload_n hx hb dX12_planNext_53 rfl (lv_at hl 0 rfl) ?_
      obtain ⟨q11, hq11, hf⟩ := bnd hf
      refine hcV_v hx hb hml hown hts hKs hT hb0 hH (As := []) (rest := []) (k_X12_remember l E K H.size o q9.2 ho hq11) (gV m4_83 m4_85 ms_24 m1_1 m4_86) hd_X12_remember ⟨Nat.le_of_ble_eq_true rfl, Nat.le_of_ble_eq_true rfl, rfl, rfl⟩ rfl ho rfl rfl rfl hl.1 rfl rc0 rfl dX12_planNext_54 ⟨Nat.le_of_ble_eq_true rfl, Nat.le_of_ble_eq_true rfl⟩ (fun H locs hH => ?_)
      refine hl_aload_n hx hb dX12_planNext_57 rfl (lv_at hl 0 rfl) ?_
      refine g12_11 hx hb hts hown hKs hH rfl ho m2_230 dX12_planNext_58 ?_
      refine hl_aload_n hx hb dX12_planNext_61 rfl (lv_at hl 0 rfl) ?_
      refine g12_5 hx hb hts hown hKs hH rfl ho m2_224 dX12_planNext_62 ?_
      refine lv_iload_n hx hb dX12_planNext_65 rfl (lv_at hl 1 rfl) ?_
      obtain ⟨a12, ha12, hf⟩ := bnd hf
      replace ha12 := chk_some ha12
      obtain ⟨q13, hq13, hf⟩ := bnd hf
      refine hcV_v hx hb hml hown hts hKs hT hb0 hH (As := [rv E (wR q11 1205 o), .int a_1]) (rest := []) (k_X6_setFound l E K H.size a12 (wR q11 1205 o) a_1 q11 ha12.2 hq13) (gV m6_73 m4_183 m4_184 m1_14 m4_185) hd_X6_setFound ⟨Nat.le_of_ble_eq_true rfl, Nat.le_of_ble_eq_true rfl, rfl, rfl⟩ ha12.1 ha12.2 rfl rfl rfl hl.1 rfl rc0 rfl dX12_planNext_66 ⟨Nat.le_of_ble_eq_true rfl, Nat.le_of_ble_eq_true rfl⟩ (fun H locs hH => ?_)
      refine hl_aload_n hx hb dX12_planNext_69 rfl (lv_at hl 0 rfl) ?_
      refine g12_11 hx hb hts hown hKs hH rfl ho m2_230 dX12_planNext_70 ?_
      obtain ⟨a14, ha14, hf⟩ := bnd hf
      replace ha14 := chk_some ha14
      refine gn6_8 hx hb hts hown hKs hH ha14.1 ha14.2 m2_165 dX12_planNext_73 ?_
      exact hx_iret hx hb (Nat.le_of_ble_eq_true rfl) (Nat.le_of_ble_eq_true rfl) hret hf hH hlocks dX12_planNext_76
    · replace hf := (if_pos c10).symm.trans hf
      exact hx_throw hx hb hls (code := 4) hml hl.1 hown hts hKs hT hb0 hH (by decide) rfl m6_2 m1_30 hat_RX12_305 dX12_planNext_45 dX12_planNext_48 dX12_planNext_49 dX12_planNext_52 hout (Nat.le_of_ble_eq_true rfl) rc0 (Nat.le_of_ble_eq_true rfl) (Nat.le_of_ble_eq_true rfl) (Nat.le_of_ble_eq_true rfl) hlocks hf (Nat.le_of_ble_eq_true rfl) (Nat.le_of_ble_eq_true rfl)
  · replace hf := (if_neg c7).symm.trans hf
    exact hx_throw hx hb hls (code := 3) hml hl.1 hown hts hKs hT hb0 hH (by decide) rfl m5_195 m1_29 hat_RX12_333 dX12_planNext_21 dX12_planNext_24 dX12_planNext_25 dX12_planNext_28 hout (Nat.le_of_ble_eq_true rfl) rc0 (Nat.le_of_ble_eq_true rfl) (Nat.le_of_ble_eq_true rfl) (Nat.le_of_ble_eq_true rfl) hlocks hf (Nat.le_of_ble_eq_true rfl) (Nat.le_of_ble_eq_true rfl)

theorem dX12_planAll_0 : decode cX12_planAll 0 = .ok (.aload_n 0, 1) := by decide +kernel
theorem dX12_planAll_1 : decode cX12_planAll 1 = .ok (.invokevirtual 325, 3) := by decide +kernel
theorem dX12_planAll_4 : decode cX12_planAll 4 = .ok (.aload_n 0, 1) := by decide +kernel
theorem dX12_planAll_5 : decode cX12_planAll 5 = .ok (.getfield 52, 3) := by decide +kernel
theorem dX12_planAll_8 : decode cX12_planAll 8 = .ok (.aload_n 0, 1) := by decide +kernel
theorem dX12_planAll_9 : decode cX12_planAll 9 = .ok (.getfield 35, 3) := by decide +kernel
theorem dX12_planAll_12 : decode cX12_planAll 12 = .ok (.iconst 0, 1) := by decide +kernel
theorem dX12_planAll_13 : decode cX12_planAll 13 = .ok (.invokevirtual 342, 3) := by decide +kernel
theorem dX12_planAll_16 : decode cX12_planAll 16 = .ok (.ireturn, 1) := by decide +kernel
theorem hd_X12_planAll : yX12_planAll.cls = RX12 ∧ yX12_planAll.cls ≠ "java/lang/invoke/MethodHandle" ∧ yX12_planAll.cls ≠ "java/lang/invoke/VarHandle" ∧ (parseMethodDescriptor yX12_planAll.desc).map (fun d => d.parameters.length) = some 0 := by decide +kernel
theorem hs_X12_planAll : yX12_planAll.cls ≠ "java/lang/invoke/MethodHandle" ∧ yX12_planAll.cls ≠ "java/lang/invoke/VarHandle" ∧ (parseMethodDescriptor yX12_planAll.desc).map (fun d => d.parameters.length) = some 0 := by decide +kernel
set_option maxHeartbeats 4000000 in
set_option maxRecDepth 100000 in
theorem k_X12_planAll (l : Launch) (E : Ev) (K : Kd) (z : Nat) (o : Nat) (w : Wd) (ho : K o = some (10, 0)) {r : Int32} {w' : Wd} (hf : f_X12_planAll K o w = some (r, w')) : Met l yX12_planAll (Cond.code yX12_planAll cX12_planAll 1 (Option.some Jvm.ClassFile.FieldType.int) :: bt) ({ frames := 6, cells := 0, slots := 0, locals := 153 } : Room) (va_Pc [rv E (some o)] (HB E K w z)) (QI E K z w' r) 0 0 (hA E) := by
  refine Met.ofW (cc := cX12_planAll) (maxL := 1) (ret := (Option.some Jvm.ClassFile.FieldType.int)) (by decide) rfl ?_
  intro p e s m args below meth c s₁ B hml hv
  obtain ⟨rfl, hz, hP, hKs, hT, hb0⟩ := hv
  have C : CX p l e s m _ meth c cX12_planAll 1 RX12 (Option.some Jvm.ClassFile.FieldType.int) E := ⟨B.exec, B.bytes, hml, findClass_of_methodNamed B.named, fun w h => atoms_spec (ws := Cond.code yX12_planAll cX12_planAll 1 (Option.some Jvm.ClassFile.FieldType.int) :: bt) B.pre w (List.mem_cons_of_mem _ h), hKs, hT, by rw [hz]; exact hb0, B.notSynchronized, B.returns⟩
  have hH : HQ E K z w s s.heap [] := ⟨hP, va_S.rf, hz⟩
  obtain ⟨hx, hb, hml, hown, hts, hKs, hT, hb0, hlocks, hret⟩ := id C
  have hl := lv_entry [rv E (some o)] (n := 1) (by simp [lg_len_nil, lg_len_i, lg_len_j, lg_len_q, lg_len_f, lg_len_d, lg_len_r])
  rw [lg_entry_eq]
  generalize (lg_sl [rv E (some o)] ++ List.replicate (1 - (lg_sl [rv E (some o)]).length) Slot.unset).toArray = ls at hl ⊢
  replace hl : lv_has ls 1 [(0, rv E (some o))] := by simpa only [lv_args, cat_q, cat_i, cat_j, reduceIte, Nat.reduceEqDiff, Nat.reduceAdd, Nat.zero_add] using hl
  generalize s.heap = H at hH ⊢
  unfold f_X12_planAll at hf
  refine hl_aload_n hx hb dX12_planAll_0 rfl (lv_at hl 0 rfl) ?_
  obtain ⟨q1, hq1, hf⟩ := bnd hf
  refine hcV_v hx hb hml hown hts hKs hT hb0 hH (As := []) (rest := []) (k_X12_remember l E K H.size o w ho hq1) (gV m4_83 m4_85 ms_24 m1_1 m4_86) hd_X12_remember ⟨Nat.le_of_ble_eq_true rfl, Nat.le_of_ble_eq_true rfl, rfl, rfl⟩ rfl ho rfl rfl rfl hl.1 rfl rc0 rfl dX12_planAll_1 ⟨Nat.zero_le _, Nat.zero_le _⟩ (fun H locs hH => ?_)
  refine hl_aload_n hx hb dX12_planAll_4 rfl (lv_at hl 0 rfl) ?_
  refine g12_11 hx hb hts hown hKs hH rfl ho m2_230 dX12_planAll_5 ?_
  refine hl_aload_n hx hb dX12_planAll_8 rfl (lv_at hl 0 rfl) ?_
  refine g12_5 hx hb hts hown hKs hH rfl ho m2_224 dX12_planAll_9 ?_
  refine lv_iconst (v := 0) hx hb dX12_planAll_12 (by decide) ?_
  obtain ⟨a2, ha2, hf⟩ := bnd hf
  replace ha2 := chk_some ha2
  obtain ⟨q3, hq3, hf⟩ := bnd hf
  refine hcV_i hx hb hml hown hts hKs hT hb0 hH (As := [rv E (wR q1 1205 o), .int 0]) (rest := []) (k_X6_planWaiting l E K H.size a2 (wR q1 1205 o) 0 q1 ha2.2 hq3) (gV m4_96 m4_97 m4_98 m1_14 m4_99) hd_X6_planWaiting ⟨Nat.le_of_ble_eq_true rfl, Nat.le_of_ble_eq_true rfl, rfl, rfl⟩ ha2.1 ha2.2 rfl rfl rfl hl.1 rfl rc0 rfl dX12_planAll_13 ⟨Nat.zero_le _, Nat.zero_le _⟩ (fun H locs hH => ?_)
  exact hw_iret hx hb hret hf hH hlocks dX12_planAll_16

theorem dX12_forecastPlanned_0 : decode cX12_forecastPlanned 0 = .ok (.aload_n 0, 1) := by decide +kernel
theorem dX12_forecastPlanned_1 : decode cX12_forecastPlanned 1 = .ok (.getfield 42, 3) := by decide +kernel
theorem dX12_forecastPlanned_4 : decode cX12_forecastPlanned 4 = .ok (.aload_n 0, 1) := by decide +kernel
theorem dX12_forecastPlanned_5 : decode cX12_forecastPlanned 5 = .ok (.getfield 35, 3) := by decide +kernel
theorem dX12_forecastPlanned_8 : decode cX12_forecastPlanned 8 = .ok (.invokevirtual 362, 3) := by decide +kernel
theorem dX12_forecastPlanned_11 : decode cX12_forecastPlanned 11 = .ok (.aload_n 0, 1) := by decide +kernel
theorem dX12_forecastPlanned_12 : decode cX12_forecastPlanned 12 = .ok (.getfield 52, 3) := by decide +kernel
theorem dX12_forecastPlanned_15 : decode cX12_forecastPlanned 15 = .ok (.aload_n 0, 1) := by decide +kernel
theorem dX12_forecastPlanned_16 : decode cX12_forecastPlanned 16 = .ok (.getfield 42, 3) := by decide +kernel
theorem dX12_forecastPlanned_19 : decode cX12_forecastPlanned 19 = .ok (.iload_n 1, 1) := by decide +kernel
theorem dX12_forecastPlanned_20 : decode cX12_forecastPlanned 20 = .ok (.invokevirtual 342, 3) := by decide +kernel
theorem dX12_forecastPlanned_23 : decode cX12_forecastPlanned 23 = .ok (.ireturn, 1) := by decide +kernel
theorem hd_X12_forecastPlanned : yX12_forecastPlanned.cls = RX12 ∧ yX12_forecastPlanned.cls ≠ "java/lang/invoke/MethodHandle" ∧ yX12_forecastPlanned.cls ≠ "java/lang/invoke/VarHandle" ∧ (parseMethodDescriptor yX12_forecastPlanned.desc).map (fun d => d.parameters.length) = some 1 := by decide +kernel
theorem hs_X12_forecastPlanned : yX12_forecastPlanned.cls ≠ "java/lang/invoke/MethodHandle" ∧ yX12_forecastPlanned.cls ≠ "java/lang/invoke/VarHandle" ∧ (parseMethodDescriptor yX12_forecastPlanned.desc).map (fun d => d.parameters.length) = some 1 := by decide +kernel
set_option maxHeartbeats 4000000 in
set_option maxRecDepth 100000 in
theorem k_X12_forecastPlanned (l : Launch) (E : Ev) (K : Kd) (z : Nat) (o : Nat) (a_1 : Int32) (w : Wd) (ho : K o = some (10, 0)) {r : Int32} {w' : Wd} (hf : f_X12_forecastPlanned K o a_1 w = some (r, w')) : Met l yX12_forecastPlanned (Cond.code yX12_forecastPlanned cX12_forecastPlanned 2 (Option.some Jvm.ClassFile.FieldType.int) :: bt) ({ frames := 6, cells := 0, slots := 0, locals := 153 } : Room) (va_Pc [rv E (some o), .int a_1] (HB E K w z)) (QI E K z w' r) 0 0 (hA E) := by
  refine Met.ofW (cc := cX12_forecastPlanned) (maxL := 2) (ret := (Option.some Jvm.ClassFile.FieldType.int)) (by decide) rfl ?_
  intro p e s m args below meth c s₁ B hml hv
  obtain ⟨rfl, hz, hP, hKs, hT, hb0⟩ := hv
  have C : CX p l e s m _ meth c cX12_forecastPlanned 2 RX12 (Option.some Jvm.ClassFile.FieldType.int) E := ⟨B.exec, B.bytes, hml, findClass_of_methodNamed B.named, fun w h => atoms_spec (ws := Cond.code yX12_forecastPlanned cX12_forecastPlanned 2 (Option.some Jvm.ClassFile.FieldType.int) :: bt) B.pre w (List.mem_cons_of_mem _ h), hKs, hT, by rw [hz]; exact hb0, B.notSynchronized, B.returns⟩
  have hH : HQ E K z w s s.heap [] := ⟨hP, va_S.rf, hz⟩
  obtain ⟨hx, hb, hml, hown, hts, hKs, hT, hb0, hlocks, hret⟩ := id C
  have hl := lv_entry [rv E (some o), .int a_1] (n := 2) (by simp [lg_len_nil, lg_len_i, lg_len_j, lg_len_q, lg_len_f, lg_len_d, lg_len_r])
  rw [lg_entry_eq]
  generalize (lg_sl [rv E (some o), .int a_1] ++ List.replicate (2 - (lg_sl [rv E (some o), .int a_1]).length) Slot.unset).toArray = ls at hl ⊢
  replace hl : lv_has ls 2 [(0, rv E (some o)), (1, .int a_1)] := by simpa only [lv_args, cat_q, cat_i, cat_j, reduceIte, Nat.reduceEqDiff, Nat.reduceAdd, Nat.zero_add] using hl
  generalize s.heap = H at hH ⊢
  unfold f_X12_forecastPlanned at hf
  refine hl_aload_n hx hb dX12_forecastPlanned_0 rfl (lv_at hl 0 rfl) ?_
  refine g12_8 hx hb hts hown hKs hH rfl ho m2_227 dX12_forecastPlanned_1 ?_
  refine hl_aload_n hx hb dX12_forecastPlanned_4 rfl (lv_at hl 0 rfl) ?_
  refine g12_5 hx hb hts hown hKs hH rfl ho m2_224 dX12_forecastPlanned_5 ?_
  obtain ⟨a1, ha1, hf⟩ := bnd hf
  replace ha1 := chk_some ha1
  obtain ⟨q2, hq2, hf⟩ := bnd hf
  refine hcV_v hx hb hml hown hts hKs hT hb0 hH (As := [rv E (wR w 1205 o)]) (rest := []) (k_X10_copyFrom l E K H.size a1 (wR w 1205 o) w ha1.2 hq2) (gV m4_87 m4_88 m4_89 m1_12 m4_90) hd_X10_copyFrom ⟨Nat.le_of_ble_eq_true rfl, Nat.le_of_ble_eq_true rfl, rfl, rfl⟩ ha1.1 ha1.2 rfl rfl rfl hl.1 rfl rc0 rfl dX12_forecastPlanned_8 ⟨Nat.zero_le _, Nat.zero_le _⟩ (fun H locs hH => ?_)
  refine hl_aload_n hx hb dX12_forecastPlanned_11 rfl (lv_at hl 0 rfl) ?_
  refine g12_11 hx hb hts hown hKs hH rfl ho m2_230 dX12_forecastPlanned_12 ?_
  refine hl_aload_n hx hb dX12_forecastPlanned_15 rfl (lv_at hl 0 rfl) ?_
  refine g12_8 hx hb hts hown hKs hH rfl ho m2_227 dX12_forecastPlanned_16 ?_
  refine lv_iload_n hx hb dX12_forecastPlanned_19 rfl (lv_at hl 1 rfl) ?_
  obtain ⟨a3, ha3, hf⟩ := bnd hf
  replace ha3 := chk_some ha3
  obtain ⟨q4, hq4, hf⟩ := bnd hf
  refine hcV_i hx hb hml hown hts hKs hT hb0 hH (As := [rv E (wR q2 1208 o), .int a_1]) (rest := []) (k_X6_planWaiting l E K H.size a3 (wR q2 1208 o) a_1 q2 ha3.2 hq4) (gV m4_96 m4_97 m4_98 m1_14 m4_99) hd_X6_planWaiting ⟨Nat.le_of_ble_eq_true rfl, Nat.le_of_ble_eq_true rfl, rfl, rfl⟩ ha3.1 ha3.2 rfl rfl rfl hl.1 rfl rc0 rfl dX12_forecastPlanned_20 ⟨Nat.zero_le _, Nat.zero_le _⟩ (fun H locs hH => ?_)
  exact hw_iret hx hb hret hf hH hlocks dX12_forecastPlanned_23

theorem dX12_keyOfficer_0 : decode cX12_keyOfficer 0 = .ok (.aload_n 0, 1) := by decide +kernel
theorem dX12_keyOfficer_1 : decode cX12_keyOfficer 1 = .ok (.iconst 0, 1) := by decide +kernel
theorem dX12_keyOfficer_2 : decode cX12_keyOfficer 2 = .ok (.invokevirtual 366, 3) := by decide +kernel
theorem dX12_keyOfficer_5 : decode cX12_keyOfficer 5 = .ok (.istore_n 1, 1) := by decide +kernel
theorem dX12_keyOfficer_6 : decode cX12_keyOfficer 6 = .ok (.iconst (-1), 1) := by decide +kernel
theorem dX12_keyOfficer_7 : decode cX12_keyOfficer 7 = .ok (.istore_n 2, 1) := by decide +kernel
theorem dX12_keyOfficer_8 : decode cX12_keyOfficer 8 = .ok (.iconst 0, 1) := by decide +kernel
theorem dX12_keyOfficer_9 : decode cX12_keyOfficer 9 = .ok (.istore_n 3, 1) := by decide +kernel
theorem dX12_keyOfficer_10 : decode cX12_keyOfficer 10 = .ok (.iload_n 3, 1) := by decide +kernel
theorem dX12_keyOfficer_11 : decode cX12_keyOfficer 11 = .ok (.aload_n 0, 1) := by decide +kernel
theorem dX12_keyOfficer_12 : decode cX12_keyOfficer 12 = .ok (.getfield 35, 3) := by decide +kernel
theorem dX12_keyOfficer_15 : decode cX12_keyOfficer 15 = .ok (.getfield 87, 3) := by decide +kernel
theorem dX12_keyOfficer_18 : decode cX12_keyOfficer 18 = .ok (.iconst 1, 1) := by decide +kernel
theorem dX12_keyOfficer_19 : decode cX12_keyOfficer 19 = .ok (.invokevirtual 105, 3) := by decide +kernel
theorem dX12_keyOfficer_22 : decode cX12_keyOfficer 22 = .ok (.if_icmp .ge 29, 3) := by decide +kernel
theorem dX12_keyOfficer_25 : decode cX12_keyOfficer 25 = .ok (.aload_n 0, 1) := by decide +kernel
theorem dX12_keyOfficer_26 : decode cX12_keyOfficer 26 = .ok (.iconst 1, 1) := by decide +kernel
theorem dX12_keyOfficer_27 : decode cX12_keyOfficer 27 = .ok (.iload_n 3, 1) := by decide +kernel
theorem dX12_keyOfficer_28 : decode cX12_keyOfficer 28 = .ok (.ishl, 1) := by decide +kernel
theorem dX12_keyOfficer_29 : decode cX12_keyOfficer 29 = .ok (.invokevirtual 366, 3) := by decide +kernel
theorem dX12_keyOfficer_32 : decode cX12_keyOfficer 32 = .ok (.istore 4, 2) := by decide +kernel
theorem dX12_keyOfficer_34 : decode cX12_keyOfficer 34 = .ok (.iload 4, 2) := by decide +kernel
theorem dX12_keyOfficer_36 : decode cX12_keyOfficer 36 = .ok (.iload_n 1, 1) := by decide +kernel
theorem dX12_keyOfficer_37 : decode cX12_keyOfficer 37 = .ok (.if_icmp .ge 8, 3) := by decide +kernel
theorem dX12_keyOfficer_40 : decode cX12_keyOfficer 40 = .ok (.iload 4, 2) := by decide +kernel
theorem dX12_keyOfficer_42 : decode cX12_keyOfficer 42 = .ok (.istore_n 1, 1) := by decide +kernel
theorem dX12_keyOfficer_43 : decode cX12_keyOfficer 43 = .ok (.iload_n 3, 1) := by decide +kernel
theorem dX12_keyOfficer_44 : decode cX12_keyOfficer 44 = .ok (.istore_n 2, 1) := by decide +kernel
theorem dX12_keyOfficer_45 : decode cX12_keyOfficer 45 = .ok (.iinc 3 1, 3) := by decide +kernel
theorem dX12_keyOfficer_48 : decode cX12_keyOfficer 48 = .ok (.goto (-38), 3) := by decide +kernel
theorem dX12_keyOfficer_51 : decode cX12_keyOfficer 51 = .ok (.iload_n 2, 1) := by decide +kernel
theorem dX12_keyOfficer_52 : decode cX12_keyOfficer 52 = .ok (.ireturn, 1) := by decide +kernel
theorem hd_X12_keyOfficer : yX12_keyOfficer.cls = RX12 ∧ yX12_keyOfficer.cls ≠ "java/lang/invoke/MethodHandle" ∧ yX12_keyOfficer.cls ≠ "java/lang/invoke/VarHandle" ∧ (parseMethodDescriptor yX12_keyOfficer.desc).map (fun d => d.parameters.length) = some 0 := by decide +kernel
theorem hs_X12_keyOfficer : yX12_keyOfficer.cls ≠ "java/lang/invoke/MethodHandle" ∧ yX12_keyOfficer.cls ≠ "java/lang/invoke/VarHandle" ∧ (parseMethodDescriptor yX12_keyOfficer.desc).map (fun d => d.parameters.length) = some 0 := by decide +kernel
set_option maxHeartbeats 4000000 in
set_option maxRecDepth 100000 in
theorem l_X12_keyOfficer_L10 (C : CX p l e s m args meth c cX12_keyOfficer 5 RX12 (Option.some Jvm.ClassFile.FieldType.int) E) {o : Nat} (ho : K o = some (10, 0)) {r : Int32} {w' : Wd} (k : Int32 → Int32 → Int32 → Wd → Option (Int32 × Wd)) (hk : ∀ (v1_10 : Int32) (v2_10 : Int32) (v3_10 : Int32) (w : Wd) (H : Heap) (locs : List Loc) (ls : Array Slot), HQ E K z w s H locs → lv_has ls 5 [(1, .int v1_10), (2, .int v2_10), (3, .int v3_10), (0, rv E (some o))] → k v1_10 v2_10 v3_10 w = some (r, w') → W p l e ({ frames := 7, cells := 0, slots := 0, locals := 174 } : Room) s m args below meth c H locs 0 0 (MQ below (QI E K z w' r) args s 0 0 (hA E)) (F0 m 51 ls [])) : ∀ (n : Nat) (v1_10 : Int32) (v2_10 : Int32) (v3_10 : Int32) (w : Wd) (H : Heap) (locs : List Loc) (ls : Array Slot), HQ E K z w s H locs → lv_has ls 5 [(1, .int v1_10), (2, .int v2_10), (3, .int v3_10), (0, rv E (some o))] → f_X12_keyOfficer_L10 K o k n v1_10 v2_10 v3_10 w = some (r, w') → W p l e ({ frames := 7, cells := 0, slots := 0, locals := 174 } : Room) s m args below meth c H locs 0 0 (MQ below (QI E K z w' r) args s 0 0 (hA E)) (F0 m 10 ls []) := by
  obtain ⟨hx, hb, hml, hown, hts, hKs, hT, hb0, hlocks, hret⟩ := id C
  intro n
  induction n with
  | zero =>
    intro v1_10 v2_10 v3_10 w H locs ls hH hl hf
    cases hf
  | succ n ih =>
    intro v1_10 v2_10 v3_10 w H locs ls hH hl hf
    rw [f_X12_keyOfficer_L10] at hf
    refine lv_iload_n hx hb dX12_keyOfficer_10 rfl (lv_at hl 2 rfl) ?_
    refine hl_aload_n hx hb dX12_keyOfficer_11 rfl (lv_at hl 3 rfl) ?_
    refine g12_5 hx hb hts hown hKs hH rfl ho m2_224 dX12_keyOfficer_12 ?_
    obtain ⟨a3, ha3, hf⟩ := bnd hf
    replace ha3 := chk_some ha3
    refine gn10_0 hx hb hts hown hKs hH ha3.1 ha3.2 m2_122 dX12_keyOfficer_15 ?_
    refine lv_iconst (v := 1) hx hb dX12_keyOfficer_18 (by decide) ?_
    obtain ⟨a4, ha4, hf⟩ := bnd hf
    replace ha4 := chk_some ha4
    obtain ⟨q5, hq5, hf⟩ := bnd hf
    refine hcV_i hx hb hml hown hts hKs hT hb0 hH (As := [.int 1]) (rest := [.int v3_10]) (k_X9_size l E K H.size a4 1 w ha4.2 hq5) (gV m3_229 m3_151 m3_152 m1_2 m3_153) hd_X9_size ⟨Nat.le_of_ble_eq_true rfl, Nat.le_of_ble_eq_true rfl, rfl, rfl⟩ ha4.1 ha4.2 rfl rfl rfl hl.1 rfl (rcI rc0) rfl dX12_keyOfficer_19 ⟨Nat.zero_le _, Nat.zero_le _⟩ (fun H locs hH => ?_)
    refine lv_icmp_ge (tgt := 51) hx hb dX12_keyOfficer_22 (by decide) (fun c6 => ?_) (fun c6 => ?_)
    · replace hf := (if_pos c6).symm.trans hf
      exact hk v1_10 v2_10 v3_10 _ _ _ _ hH (lv_sub hl [0, 1, 2, 3] rfl) hf
    · replace hf := (if_neg c6).symm.trans hf
      refine hl_aload_n hx hb dX12_keyOfficer_25 rfl (lv_at hl 3 rfl) ?_
      refine lv_iconst (v := 1) hx hb dX12_keyOfficer_26 (by decide) ?_
      refine lv_iload_n hx hb dX12_keyOfficer_27 rfl (lv_at hl 2 rfl) ?_
      refine lv_ishl hx hb dX12_keyOfficer_28 ?_
      obtain ⟨q7, hq7, hf⟩ := bnd hf
      refine hcV_i hx hb hml hown hts hKs hT hb0 hH (As := [.int ((1 <<< (v3_10 &&& 31)))]) (rest := []) (k_X12_forecastPlanned l E K H.size o (1 <<< (v3_10 &&& 31)) q5.2 ho hq7) (gV m4_194 m4_196 ms_31 m1_1 m4_197) hd_X12_forecastPlanned ⟨Nat.le_of_ble_eq_true rfl, Nat.le_of_ble_eq_true rfl, rfl, rfl⟩ rfl ho rfl rfl rfl hl.1 rfl rc0 rfl dX12_keyOfficer_29 ⟨Nat.zero_le _, Nat.zero_le _⟩ (fun H locs hH => ?_)
      refine lv_istore (lv' := [(4, .int (q7.1)), (1, .int v1_10), (2, .int v2_10), (3, .int v3_10), (0, rv E (some o))]) hx hb dX12_keyOfficer_32 hl (by decide) rfl (fun ls hl => ?_)
      refine lv_iload hx hb dX12_keyOfficer_34 (lv_at hl 0 rfl) ?_
      refine lv_iload_n hx hb dX12_keyOfficer_36 rfl (lv_at hl 1 rfl) ?_
      refine lv_icmp_ge (tgt := 45) hx hb dX12_keyOfficer_37 (by decide) (fun c8 => ?_) (fun c8 => ?_)
      · replace hf := (if_pos c8).symm.trans hf
        refine lv_iinc (v := (v3_10 + 1)) (lv' := [(3, .int ((v3_10 + 1))), (4, .int (q7.1)), (1, .int v1_10), (2, .int v2_10), (0, rv E (some o))]) hx hb dX12_keyOfficer_45 hl (k := 3) rfl rfl (by decide) rfl (fun ls hl => ?_)
        refine lv_goto (tgt := 10) hx hb dX12_keyOfficer_48 (by decide) ?_
        exact ih v1_10 v2_10 (v3_10 + 1) _ _ _ _ hH (lv_sub hl [2, 3, 0, 4] rfl) hf
      · replace hf := (if_neg c8).symm.trans hf
        refine lv_iload hx hb dX12_keyOfficer_40 (lv_at hl 0 rfl) ?_
        refine lv_istore_n (lv' := [(1, .int (q7.1)), (4, .int (q7.1)), (2, .int v2_10), (3, .int v3_10), (0, rv E (some o))]) hx hb dX12_keyOfficer_42 rfl hl (by decide) rfl (fun ls hl => ?_)
        refine lv_iload_n hx hb dX12_keyOfficer_43 rfl (lv_at hl 3 rfl) ?_
        refine lv_istore_n (lv' := [(2, .int v3_10), (1, .int (q7.1)), (4, .int (q7.1)), (3, .int v3_10), (0, rv E (some o))]) hx hb dX12_keyOfficer_44 rfl hl (by decide) rfl (fun ls hl => ?_)
        refine lv_iinc (v := (v3_10 + 1)) (lv' := [(3, .int ((v3_10 + 1))), (2, .int v3_10), (1, .int (q7.1)), (4, .int (q7.1)), (0, rv E (some o))]) hx hb dX12_keyOfficer_45 hl (k := 3) rfl rfl (by decide) rfl (fun ls hl => ?_)
        refine lv_goto (tgt := 10) hx hb dX12_keyOfficer_48 (by decide) ?_
        exact ih q7.1 v3_10 (v3_10 + 1) _ _ _ _ hH (lv_sub hl [2, 1, 0, 4] rfl) hf
set_option maxHeartbeats 4000000 in
set_option maxRecDepth 100000 in
theorem k_X12_keyOfficer (l : Launch) (E : Ev) (K : Kd) (z : Nat) (o : Nat) (w : Wd) (ho : K o = some (10, 0)) {r : Int32} {w' : Wd} (hf : f_X12_keyOfficer K o w = some (r, w')) : Met l yX12_keyOfficer (Cond.code yX12_keyOfficer cX12_keyOfficer 5 (Option.some Jvm.ClassFile.FieldType.int) :: bt) ({ frames := 7, cells := 0, slots := 0, locals := 174 } : Room) (va_Pc [rv E (some o)] (HB E K w z)) (QI E K z w' r) 0 0 (hA E) := by
  refine Met.ofW (cc := cX12_keyOfficer) (maxL := 5) (ret := (Option.some Jvm.ClassFile.FieldType.int)) (by decide) rfl ?_
  intro p e s m args below meth c s₁ B hml hv
  obtain ⟨rfl, hz, hP, hKs, hT, hb0⟩ := hv
  have C : CX p l e s m _ meth c cX12_keyOfficer 5 RX12 (Option.some Jvm.ClassFile.FieldType.int) E := ⟨B.exec, B.bytes, hml, findClass_of_methodNamed B.named, fun w h => atoms_spec (ws := Cond.code yX12_keyOfficer cX12_keyOfficer 5 (Option.some Jvm.ClassFile.FieldType.int) :: bt) B.pre w (List.mem_cons_of_mem _ h), hKs, hT, by rw [hz]; exact hb0, B.notSynchronized, B.returns⟩
  have hH : HQ E K z w s s.heap [] := ⟨hP, va_S.rf, hz⟩
  obtain ⟨hx, hb, hml, hown, hts, hKs, hT, hb0, hlocks, hret⟩ := id C
  have hl := lv_entry [rv E (some o)] (n := 5) (by simp [lg_len_nil, lg_len_i, lg_len_j, lg_len_q, lg_len_f, lg_len_d, lg_len_r])
  rw [lg_entry_eq]
  generalize (lg_sl [rv E (some o)] ++ List.replicate (5 - (lg_sl [rv E (some o)]).length) Slot.unset).toArray = ls at hl ⊢
  replace hl : lv_has ls 5 [(0, rv E (some o))] := by simpa only [lv_args, cat_q, cat_i, cat_j, reduceIte, Nat.reduceEqDiff, Nat.reduceAdd, Nat.zero_add] using hl
  generalize s.heap = H at hH ⊢
  unfold f_X12_keyOfficer at hf
  refine hl_aload_n hx hb dX12_keyOfficer_0 rfl (lv_at hl 0 rfl) ?_
  refine lv_iconst (v := 0) hx hb dX12_keyOfficer_1 (by decide) ?_
  obtain ⟨q1, hq1, hf⟩ := bnd hf
  refine hcV_i hx hb hml hown hts hKs hT hb0 hH (As := [.int 0]) (rest := []) (k_X12_forecastPlanned l E K H.size o 0 w ho hq1) (gV m4_194 m4_196 ms_31 m1_1 m4_197) hd_X12_forecastPlanned ⟨Nat.le_of_ble_eq_true rfl, Nat.le_of_ble_eq_true rfl, rfl, rfl⟩ rfl ho rfl rfl rfl hl.1 rfl rc0 rfl dX12_keyOfficer_2 ⟨Nat.zero_le _, Nat.zero_le _⟩ (fun H locs hH => ?_)
  refine lv_istore_n (lv' := [(1, .int (q1.1)), (0, rv E (some o))]) hx hb dX12_keyOfficer_5 rfl hl (by decide) rfl (fun ls hl => ?_)
  refine lv_iconst (v := (-1)) hx hb dX12_keyOfficer_6 (by decide) ?_
  refine lv_istore_n (lv' := [(2, .int ((-1))), (1, .int (q1.1)), (0, rv E (some o))]) hx hb dX12_keyOfficer_7 rfl hl (by decide) rfl (fun ls hl => ?_)
  refine lv_iconst (v := 0) hx hb dX12_keyOfficer_8 (by decide) ?_
  refine lv_istore_n (lv' := [(3, .int 0), (2, .int ((-1))), (1, .int (q1.1)), (0, rv E (some o))]) hx hb dX12_keyOfficer_9 rfl hl (by decide) rfl (fun ls hl => ?_)
  refine l_X12_keyOfficer_L10  C ho _ (fun v1_10 v2_10 v3_10 w2 H locs ls hH hl hf => ?_) fu q1.1 (-1) 0 q1.2 _ _ _ hH (lv_sub hl [2, 1, 0, 3] rfl) hf
  refine lv_iload_n hx hb dX12_keyOfficer_51 rfl (lv_at hl 1 rfl) ?_
  exact hw_iret hx hb hret hf hH hlocks dX12_keyOfficer_52

theorem dX13_next_0 : decode cX13_next 0 = .ok (.aload_n 0, 1) := by decide +kernel
theorem dX13_next_1 : decode cX13_next 1 = .ok (.aload_n 0, 1) := by decide +kernel
theorem dX13_next_2 : decode cX13_next 2 = .ok (.getfield 337, 3) := by decide +kernel
theorem dX13_next_5 : decode cX13_next 5 = .ok (.invokevirtual 340, 3) := by decide +kernel
theorem dX13_next_8 : decode cX13_next 8 = .ok (.bipush 32, 2) := by decide +kernel
theorem dX13_next_10 : decode cX13_next 10 = .ok (.if_icmp .eq 16, 3) := by decide +kernel
theorem dX13_next_13 : decode cX13_next 13 = .ok (.aload_n 0, 1) := by decide +kernel
theorem dX13_next_14 : decode cX13_next 14 = .ok (.aload_n 0, 1) := by decide +kernel
theorem dX13_next_15 : decode cX13_next 15 = .ok (.getfield 337, 3) := by decide +kernel
theorem dX13_next_18 : decode cX13_next 18 = .ok (.invokevirtual 340, 3) := by decide +kernel
theorem dX13_next_21 : decode cX13_next 21 = .ok (.bipush 10, 2) := by decide +kernel
theorem dX13_next_23 : decode cX13_next 23 = .ok (.if_icmp .ne 16, 3) := by decide +kernel
theorem dX13_next_26 : decode cX13_next 26 = .ok (.aload_n 0, 1) := by decide +kernel
theorem dX13_next_27 : decode cX13_next 27 = .ok (.aload_n 0, 1) := by decide +kernel
theorem dX13_next_28 : decode cX13_next 28 = .ok (.getfield 337, 3) := by decide +kernel
theorem dX13_next_31 : decode cX13_next 31 = .ok (.iconst 1, 1) := by decide +kernel
theorem dX13_next_32 : decode cX13_next 32 = .ok (.iadd, 1) := by decide +kernel
theorem dX13_next_33 : decode cX13_next 33 = .ok (.putfield 337, 3) := by decide +kernel
theorem dX13_next_36 : decode cX13_next 36 = .ok (.goto (-36), 3) := by decide +kernel
theorem dX13_next_39 : decode cX13_next 39 = .ok (.aload_n 0, 1) := by decide +kernel
theorem dX13_next_40 : decode cX13_next 40 = .ok (.aload_n 0, 1) := by decide +kernel
theorem dX13_next_41 : decode cX13_next 41 = .ok (.getfield 337, 3) := by decide +kernel
theorem dX13_next_44 : decode cX13_next 44 = .ok (.putfield 343, 3) := by decide +kernel
theorem dX13_next_47 : decode cX13_next 47 = .ok (.aload_n 0, 1) := by decide +kernel
theorem dX13_next_48 : decode cX13_next 48 = .ok (.aload_n 0, 1) := by decide +kernel
theorem dX13_next_49 : decode cX13_next 49 = .ok (.getfield 337, 3) := by decide +kernel
theorem dX13_next_52 : decode cX13_next 52 = .ok (.invokevirtual 340, 3) := by decide +kernel
theorem dX13_next_55 : decode cX13_next 55 = .ok (.istore_n 1, 1) := by decide +kernel
theorem dX13_next_56 : decode cX13_next 56 = .ok (.iload_n 1, 1) := by decide +kernel
theorem dX13_next_57 : decode cX13_next 57 = .ok (.iconst (-1), 1) := by decide +kernel
theorem dX13_next_58 : decode cX13_next 58 = .ok (.if_icmp .ne 11, 3) := by decide +kernel
theorem dX13_next_61 : decode cX13_next 61 = .ok (.aload_n 0, 1) := by decide +kernel
theorem dX13_next_62 : decode cX13_next 62 = .ok (.iconst 0, 1) := by decide +kernel
theorem dX13_next_63 : decode cX13_next 63 = .ok (.putfield 346, 3) := by decide +kernel
theorem dX13_next_66 : decode cX13_next 66 = .ok (.goto 206, 3) := by decide +kernel
theorem dX13_next_69 : decode cX13_next 69 = .ok (.iload_n 1, 1) := by decide +kernel
theorem dX13_next_70 : decode cX13_next 70 = .ok (.i2l, 1) := by decide +kernel
theorem dX13_next_71 : decode cX13_next 71 = .ok (.ldc2_w 349, 3) := by decide +kernel
theorem dX13_next_74 : decode cX13_next 74 = .ok (.ldc2_w 351, 3) := by decide +kernel
theorem dX13_next_77 : decode cX13_next 77 = .ok (.invokestatic 123, 3) := by decide +kernel
theorem dX13_next_80 : decode cX13_next 80 = .ok (.ifCond .eq 53, 3) := by decide +kernel
theorem dX13_next_83 : decode cX13_next 83 = .ok (.aload_n 0, 1) := by decide +kernel
theorem dX13_next_84 : decode cX13_next 84 = .ok (.aload_n 0, 1) := by decide +kernel
theorem dX13_next_85 : decode cX13_next 85 = .ok (.getfield 337, 3) := by decide +kernel
theorem dX13_next_88 : decode cX13_next 88 = .ok (.invokevirtual 340, 3) := by decide +kernel
theorem dX13_next_91 : decode cX13_next 91 = .ok (.i2l, 1) := by decide +kernel
theorem dX13_next_92 : decode cX13_next 92 = .ok (.ldc2_w 349, 3) := by decide +kernel
theorem dX13_next_95 : decode cX13_next 95 = .ok (.ldc2_w 351, 3) := by decide +kernel
theorem dX13_next_98 : decode cX13_next 98 = .ok (.invokestatic 123, 3) := by decide +kernel
theorem dX13_next_101 : decode cX13_next 101 = .ok (.ifCond .eq 16, 3) := by decide +kernel
theorem dX13_next_104 : decode cX13_next 104 = .ok (.aload_n 0, 1) := by decide +kernel
theorem dX13_next_105 : decode cX13_next 105 = .ok (.aload_n 0, 1) := by decide +kernel
theorem dX13_next_106 : decode cX13_next 106 = .ok (.getfield 337, 3) := by decide +kernel
theorem dX13_next_109 : decode cX13_next 109 = .ok (.iconst 1, 1) := by decide +kernel
theorem dX13_next_110 : decode cX13_next 110 = .ok (.iadd, 1) := by decide +kernel
theorem dX13_next_111 : decode cX13_next 111 = .ok (.putfield 337, 3) := by decide +kernel
theorem dX13_next_114 : decode cX13_next 114 = .ok (.goto (-31), 3) := by decide +kernel
theorem dX13_next_117 : decode cX13_next 117 = .ok (.aload_n 0, 1) := by decide +kernel
theorem dX13_next_118 : decode cX13_next 118 = .ok (.iconst 1, 1) := by decide +kernel
theorem dX13_next_119 : decode cX13_next 119 = .ok (.putfield 346, 3) := by decide +kernel
theorem dX13_next_122 : decode cX13_next 122 = .ok (.aload_n 0, 1) := by decide +kernel
theorem dX13_next_123 : decode cX13_next 123 = .ok (.aload_n 0, 1) := by decide +kernel
theorem dX13_next_124 : decode cX13_next 124 = .ok (.invokevirtual 353, 3) := by decide +kernel
theorem dX13_next_127 : decode cX13_next 127 = .ok (.putfield 356, 3) := by decide +kernel
theorem dX13_next_130 : decode cX13_next 130 = .ok (.goto 142, 3) := by decide +kernel
theorem dX13_next_133 : decode cX13_next 133 = .ok (.iload_n 1, 1) := by decide +kernel
theorem dX13_next_134 : decode cX13_next 134 = .ok (.i2l, 1) := by decide +kernel
theorem dX13_next_135 : decode cX13_next 135 = .ok (.ldc2_w 359, 3) := by decide +kernel
theorem dX13_next_138 : decode cX13_next 138 = .ok (.ldc2_w 361, 3) := by decide +kernel
theorem dX13_next_141 : decode cX13_next 141 = .ok (.invokestatic 123, 3) := by decide +kernel
theorem dX13_next_144 : decode cX13_next 144 = .ok (.ifCond .eq 103, 3) := by decide +kernel
theorem dX13_next_147 : decode cX13_next 147 = .ok (.aload_n 0, 1) := by decide +kernel
theorem dX13_next_148 : decode cX13_next 148 = .ok (.iconst 0, 1) := by decide +kernel
theorem dX13_next_149 : decode cX13_next 149 = .ok (.putfield 363, 3) := by decide +kernel
theorem dX13_next_152 : decode cX13_next 152 = .ok (.aload_n 0, 1) := by decide +kernel
theorem dX13_next_153 : decode cX13_next 153 = .ok (.aload_n 0, 1) := by decide +kernel
theorem dX13_next_154 : decode cX13_next 154 = .ok (.getfield 337, 3) := by decide +kernel
theorem dX13_next_157 : decode cX13_next 157 = .ok (.invokevirtual 340, 3) := by decide +kernel
theorem dX13_next_160 : decode cX13_next 160 = .ok (.i2l, 1) := by decide +kernel
theorem dX13_next_161 : decode cX13_next 161 = .ok (.ldc2_w 359, 3) := by decide +kernel
theorem dX13_next_164 : decode cX13_next 164 = .ok (.ldc2_w 361, 3) := by decide +kernel
theorem dX13_next_167 : decode cX13_next 167 = .ok (.invokestatic 123, 3) := by decide +kernel
theorem dX13_next_170 : decode cX13_next 170 = .ok (.ifCond .eq 52, 3) := by decide +kernel
theorem dX13_next_173 : decode cX13_next 173 = .ok (.aload_n 0, 1) := by decide +kernel
theorem dX13_next_174 : decode cX13_next 174 = .ok (.getfield 337, 3) := by decide +kernel
theorem dX13_next_177 : decode cX13_next 177 = .ok (.aload_n 0, 1) := by decide +kernel
theorem dX13_next_178 : decode cX13_next 178 = .ok (.getfield 343, 3) := by decide +kernel
theorem dX13_next_181 : decode cX13_next 181 = .ok (.isub, 1) := by decide +kernel
theorem dX13_next_182 : decode cX13_next 182 = .ok (.iconst 3, 1) := by decide +kernel
theorem dX13_next_183 : decode cX13_next 183 = .ok (.if_icmp .ge 26, 3) := by decide +kernel
theorem dX13_next_186 : decode cX13_next 186 = .ok (.aload_n 0, 1) := by decide +kernel
theorem dX13_next_187 : decode cX13_next 187 = .ok (.bipush 10, 2) := by decide +kernel
theorem dX13_next_189 : decode cX13_next 189 = .ok (.aload_n 0, 1) := by decide +kernel
theorem dX13_next_190 : decode cX13_next 190 = .ok (.getfield 363, 3) := by decide +kernel
theorem dX13_next_193 : decode cX13_next 193 = .ok (.imul, 1) := by decide +kernel
theorem dX13_next_194 : decode cX13_next 194 = .ok (.aload_n 0, 1) := by decide +kernel
theorem dX13_next_195 : decode cX13_next 195 = .ok (.aload_n 0, 1) := by decide +kernel
theorem dX13_next_196 : decode cX13_next 196 = .ok (.getfield 337, 3) := by decide +kernel
theorem dX13_next_199 : decode cX13_next 199 = .ok (.invokevirtual 340, 3) := by decide +kernel
theorem dX13_next_202 : decode cX13_next 202 = .ok (.iadd, 1) := by decide +kernel
theorem dX13_next_203 : decode cX13_next 203 = .ok (.bipush 48, 2) := by decide +kernel
theorem dX13_next_205 : decode cX13_next 205 = .ok (.isub, 1) := by decide +kernel
theorem dX13_next_206 : decode cX13_next 206 = .ok (.putfield 363, 3) := by decide +kernel
theorem dX13_next_209 : decode cX13_next 209 = .ok (.aload_n 0, 1) := by decide +kernel
theorem dX13_next_210 : decode cX13_next 210 = .ok (.dup, 1) := by decide +kernel
theorem dX13_next_211 : decode cX13_next 211 = .ok (.getfield 337, 3) := by decide +kernel
theorem dX13_next_214 : decode cX13_next 214 = .ok (.iconst 1, 1) := by decide +kernel
theorem dX13_next_215 : decode cX13_next 215 = .ok (.iadd, 1) := by decide +kernel
theorem dX13_next_216 : decode cX13_next 216 = .ok (.putfield 337, 3) := by decide +kernel
theorem dX13_next_219 : decode cX13_next 219 = .ok (.goto (-67), 3) := by decide +kernel
theorem dX13_next_222 : decode cX13_next 222 = .ok (.aload_n 0, 1) := by decide +kernel
theorem dX13_next_223 : decode cX13_next 223 = .ok (.aload_n 0, 1) := by decide +kernel
theorem dX13_next_224 : decode cX13_next 224 = .ok (.getfield 337, 3) := by decide +kernel
theorem dX13_next_227 : decode cX13_next 227 = .ok (.aload_n 0, 1) := by decide +kernel
theorem dX13_next_228 : decode cX13_next 228 = .ok (.getfield 343, 3) := by decide +kernel
theorem dX13_next_231 : decode cX13_next 231 = .ok (.isub, 1) := by decide +kernel
theorem dX13_next_232 : decode cX13_next 232 = .ok (.iconst 3, 1) := by decide +kernel
theorem dX13_next_233 : decode cX13_next 233 = .ok (.if_icmp .le 7, 3) := by decide +kernel
theorem dX13_next_236 : decode cX13_next 236 = .ok (.iconst 4, 1) := by decide +kernel
theorem dX13_next_237 : decode cX13_next 237 = .ok (.goto 4, 3) := by decide +kernel
theorem dX13_next_240 : decode cX13_next 240 = .ok (.iconst 2, 1) := by decide +kernel
theorem dX13_next_241 : decode cX13_next 241 = .ok (.putfield 346, 3) := by decide +kernel
theorem dX13_next_244 : decode cX13_next 244 = .ok (.goto 28, 3) := by decide +kernel
theorem dX13_next_247 : decode cX13_next 247 = .ok (.aload_n 0, 1) := by decide +kernel
theorem dX13_next_248 : decode cX13_next 248 = .ok (.aload_n 0, 1) := by decide +kernel
theorem dX13_next_249 : decode cX13_next 249 = .ok (.getfield 337, 3) := by decide +kernel
theorem dX13_next_252 : decode cX13_next 252 = .ok (.iconst 1, 1) := by decide +kernel
theorem dX13_next_253 : decode cX13_next 253 = .ok (.iadd, 1) := by decide +kernel
theorem dX13_next_254 : decode cX13_next 254 = .ok (.putfield 337, 3) := by decide +kernel
theorem dX13_next_257 : decode cX13_next 257 = .ok (.aload_n 0, 1) := by decide +kernel
theorem dX13_next_258 : decode cX13_next 258 = .ok (.iload_n 1, 1) := by decide +kernel
theorem dX13_next_259 : decode cX13_next 259 = .ok (.bipush 59, 2) := by decide +kernel
theorem dX13_next_261 : decode cX13_next 261 = .ok (.if_icmp .ne 7, 3) := by decide +kernel
theorem dX13_next_264 : decode cX13_next 264 = .ok (.iconst 3, 1) := by decide +kernel
theorem dX13_next_265 : decode cX13_next 265 = .ok (.goto 4, 3) := by decide +kernel
theorem dX13_next_268 : decode cX13_next 268 = .ok (.iconst 4, 1) := by decide +kernel
theorem dX13_next_269 : decode cX13_next 269 = .ok (.putfield 346, 3) := by decide +kernel
theorem dX13_next_272 : decode cX13_next 272 = .ok (.return_, 1) := by decide +kernel
theorem hd_X13_next : yX13_next.cls = RX13 ∧ yX13_next.cls ≠ "java/lang/invoke/MethodHandle" ∧ yX13_next.cls ≠ "java/lang/invoke/VarHandle" ∧ (parseMethodDescriptor yX13_next.desc).map (fun d => d.parameters.length) = some 0 := by decide +kernel
theorem hs_X13_next : yX13_next.cls ≠ "java/lang/invoke/MethodHandle" ∧ yX13_next.cls ≠ "java/lang/invoke/VarHandle" ∧ (parseMethodDescriptor yX13_next.desc).map (fun d => d.parameters.length) = some 0 := by decide +kernel
set_option maxHeartbeats 4000000 in
set_option maxRecDepth 100000 in
theorem l_X13_next_L0 (C : CX p l e s m args meth c cX13_next 2 RX13 (Option.none : Option Jvm.ClassFile.FieldType) E) {o : Nat} (ho : K o = some (11, 0)) {w' : Wd} (k : Wd → Option Wd) (hk : ∀ (w : Wd) (H : Heap) (locs : List Loc) (ls : Array Slot), HQ E K z w s H locs → lv_has ls 2 [(0, rv E (some o))] → k w = some w' → W p l e ({ frames := 5, cells := 0, slots := 0, locals := 108 } : Room) s m args below meth c H locs 0 0 (MQ below (QV E K z w') args s 0 0 (hA E)) (F0 m 39 ls [])) : ∀ (n : Nat) (w : Wd) (H : Heap) (locs : List Loc) (ls : Array Slot), HQ E K z w s H locs → lv_has ls 2 [(0, rv E (some o))] → f_X13_next_L0 K o k n w = some w' → W p l e ({ frames := 5, cells := 0, slots := 0, locals := 108 } : Room) s m args below meth c H locs 0 0 (MQ below (QV E K z w') args s 0 0 (hA E)) (F0 m 0 ls []) := by
  obtain ⟨hx, hb, hml, hown, hts, hKs, hT, hb0, hlocks, hret⟩ := id C
  intro n
  induction n with
  | zero =>
    intro w H locs ls hH hl hf
    cases hf
  | succ n ih =>
    intro w H locs ls hH hl hf
    rw [f_X13_next_L0] at hf
    refine hl_aload_n hx hb dX13_next_0 rfl (lv_at hl 0 rfl) ?_
    refine hl_aload_n hx hb dX13_next_1 rfl (lv_at hl 0 rfl) ?_
    refine g13_26 hx hb hts hown hKs hH rfl ho m6_208 dX13_next_2 ?_
    obtain ⟨q2, hq2, hf⟩ := bnd hf
    refine hcV_i hx hb hml hown hts hKs hT hb0 hH (As := [.int ((wI w 1326 o))]) (rest := []) (k_X13_here l E K H.size o (wI w 1326 o) w ho hq2) (gV m8_226 m8_228 ms_103 m1_16 m8_229) hd_X13_here ⟨Nat.le_of_ble_eq_true rfl, Nat.le_of_ble_eq_true rfl, rfl, rfl⟩ rfl ho rfl rfl rfl hl.1 rfl rc0 rfl dX13_next_5 ⟨Nat.zero_le _, Nat.zero_le _⟩ (fun H locs hH => ?_)
    refine lv_bipush (v := 32) hx hb dX13_next_8 (by decide) ?_
    refine lv_icmp_eq (tgt := 26) hx hb dX13_next_10 (by decide) (fun c3 => ?_) (fun c3 => ?_)
    · replace hf := (if_pos c3).symm.trans hf
      refine hl_aload_n hx hb dX13_next_26 rfl (lv_at hl 0 rfl) ?_
      refine hl_aload_n hx hb dX13_next_27 rfl (lv_at hl 0 rfl) ?_
      refine g13_26 hx hb hts hown hKs hH rfl ho m6_208 dX13_next_28 ?_
      refine lv_iconst (v := 1) hx hb dX13_next_31 (by decide) ?_
      refine lv_iadd hx hb dX13_next_32 ?_
      obtain ⟨w4, hw4, hf⟩ := bnd hf
      replace hw4 := Option.some.inj hw4
      refine p13_26 (v := ((wI q2.2 1326 o) + 1)) hx hb hts hown hKs hH rfl ho m6_208 dX13_next_33 (fun H locs hH => ?_)
      rw [hw4] at hH
      refine lv_goto (tgt := 0) hx hb dX13_next_36 (by decide) ?_
      exact ih _ _ _ _ hH (lv_sub hl [0] rfl) hf
    · replace hf := (if_neg c3).symm.trans hf
      refine hl_aload_n hx hb dX13_next_13 rfl (lv_at hl 0 rfl) ?_
      refine hl_aload_n hx hb dX13_next_14 rfl (lv_at hl 0 rfl) ?_
      refine g13_26 hx hb hts hown hKs hH rfl ho m6_208 dX13_next_15 ?_
      obtain ⟨q5, hq5, hf⟩ := bnd hf
      refine hcV_i hx hb hml hown hts hKs hT hb0 hH (As := [.int ((wI q2.2 1326 o))]) (rest := []) (k_X13_here l E K H.size o (wI q2.2 1326 o) q2.2 ho hq5) (gV m8_226 m8_228 ms_103 m1_16 m8_229) hd_X13_here ⟨Nat.le_of_ble_eq_true rfl, Nat.le_of_ble_eq_true rfl, rfl, rfl⟩ rfl ho rfl rfl rfl hl.1 rfl rc0 rfl dX13_next_18 ⟨Nat.zero_le _, Nat.zero_le _⟩ (fun H locs hH => ?_)
      refine lv_bipush (v := 10) hx hb dX13_next_21 (by decide) ?_
      refine lv_icmp_ne (tgt := 39) hx hb dX13_next_23 (by decide) (fun c6 => ?_) (fun c6 => ?_)
      · replace hf := (if_neg c6).symm.trans hf
        exact hk _ _ _ _ hH (lv_sub hl [0] rfl) hf
      · replace hf := (if_pos c6).symm.trans hf
        refine hl_aload_n hx hb dX13_next_26 rfl (lv_at hl 0 rfl) ?_
        refine hl_aload_n hx hb dX13_next_27 rfl (lv_at hl 0 rfl) ?_
        refine g13_26 hx hb hts hown hKs hH rfl ho m6_208 dX13_next_28 ?_
        refine lv_iconst (v := 1) hx hb dX13_next_31 (by decide) ?_
        refine lv_iadd hx hb dX13_next_32 ?_
        obtain ⟨w7, hw7, hf⟩ := bnd hf
        replace hw7 := Option.some.inj hw7
        refine p13_26 (v := ((wI q5.2 1326 o) + 1)) hx hb hts hown hKs hH rfl ho m6_208 dX13_next_33 (fun H locs hH => ?_)
        rw [hw7] at hH
        refine lv_goto (tgt := 0) hx hb dX13_next_36 (by decide) ?_
        exact ih _ _ _ _ hH (lv_sub hl [0] rfl) hf
set_option maxHeartbeats 4000000 in
set_option maxRecDepth 100000 in
theorem l_X13_next_L152 (C : CX p l e s m args meth c cX13_next 2 RX13 (Option.none : Option Jvm.ClassFile.FieldType) E) {o : Nat} (ho : K o = some (11, 0)) {w' : Wd} (k : Int32 → Wd → Option Wd) (hk : ∀ (v1_152 : Int32) (w : Wd) (H : Heap) (locs : List Loc) (ls : Array Slot), HQ E K z w s H locs → lv_has ls 2 [(1, .int v1_152), (0, rv E (some o))] → k v1_152 w = some w' → W p l e ({ frames := 5, cells := 0, slots := 0, locals := 108 } : Room) s m args below meth c H locs 0 0 (MQ below (QV E K z w') args s 0 0 (hA E)) (F0 m 222 ls [])) : ∀ (n : Nat) (v1_152 : Int32) (w : Wd) (H : Heap) (locs : List Loc) (ls : Array Slot), HQ E K z w s H locs → lv_has ls 2 [(1, .int v1_152), (0, rv E (some o))] → f_X13_next_L152 K o k n v1_152 w = some w' → W p l e ({ frames := 5, cells := 0, slots := 0, locals := 108 } : Room) s m args below meth c H locs 0 0 (MQ below (QV E K z w') args s 0 0 (hA E)) (F0 m 152 ls []) := by
  obtain ⟨hx, hb, hml, hown, hts, hKs, hT, hb0, hlocks, hret⟩ := id C
  intro n
  induction n with
  | zero =>
    intro v1_152 w H locs ls hH hl hf
    cases hf
  | succ n ih =>
    intro v1_152 w H locs ls hH hl hf
    rw [f_X13_next_L152] at hf
    refine hl_aload_n hx hb dX13_next_152 rfl (lv_at hl 1 rfl) ?_
    refine hl_aload_n hx hb dX13_next_153 rfl (lv_at hl 1 rfl) ?_
    refine g13_26 hx hb hts hown hKs hH rfl ho m6_208 dX13_next_154 ?_
    obtain ⟨q21, hq21, hf⟩ := bnd hf
    refine hcV_i hx hb hml hown hts hKs hT hb0 hH (As := [.int ((wI w 1326 o))]) (rest := []) (k_X13_here l E K H.size o (wI w 1326 o) w ho hq21) (gV m8_226 m8_228 ms_103 m1_16 m8_229) hd_X13_here ⟨Nat.le_of_ble_eq_true rfl, Nat.le_of_ble_eq_true rfl, rfl, rfl⟩ rfl ho rfl rfl rfl hl.1 rfl rc0 rfl dX13_next_157 ⟨Nat.zero_le _, Nat.zero_le _⟩ (fun H locs hH => ?_)
    refine lv_i2l (v := (q21.1.toInt64)) hx hb dX13_next_160 rfl ?_
    refine lv_ldc2 (v := 48) hx hb hown (hts _ m9_45) dX13_next_161 ?_
    refine lv_ldc2 (v := 57) hx hb hown (hts _ m9_46) dX13_next_164 ?_
    obtain ⟨q22, hq22, hf⟩ := bnd hf
    refine hcS_i hx hb hml hown hts hKs hT hb0 hH (As := [.long (q21.1.toInt64), .long 48, .long 57]) (rest := []) (k_X13_isIn l E K H.size (q21.1.toInt64) 48 57 q21.2 hq22) (gS m7_89 m7_90 m1_16 m7_91) hs_X13_isIn ⟨Nat.le_of_ble_eq_true rfl, Nat.le_of_ble_eq_true rfl, rfl, rfl⟩ hl.1 rfl rc0 rfl dX13_next_167 ⟨Nat.zero_le _, Nat.zero_le _⟩ (fun H locs hH => ?_)
    refine lv_if_eq (tgt := 222) hx hb dX13_next_170 (by decide) (fun c23 => ?_) (fun c23 => ?_)
    · replace hf := (if_pos c23).symm.trans hf
      exact hk v1_152 _ _ _ _ hH (lv_sub hl [0, 1] rfl) hf
    · replace hf := (if_neg c23).symm.trans hf
      refine hl_aload_n hx hb dX13_next_173 rfl (lv_at hl 1 rfl) ?_
      refine g13_26 hx hb hts hown hKs hH rfl ho m6_208 dX13_next_174 ?_
      refine hl_aload_n hx hb dX13_next_177 rfl (lv_at hl 1 rfl) ?_
      refine g13_27 hx hb hts hown hKs hH rfl ho m6_209 dX13_next_178 ?_
      refine lv_isub hx hb dX13_next_181 ?_
      refine lv_iconst (v := 3) hx hb dX13_next_182 (by decide) ?_
      refine lv_icmp_ge (tgt := 209) hx hb dX13_next_183 (by decide) (fun c24 => ?_) (fun c24 => ?_)
      · replace hf := (if_pos c24).symm.trans hf
        refine hl_aload_n hx hb dX13_next_209 rfl (lv_at hl 1 rfl) ?_
        refine lv_dup hx hb dX13_next_210 rv_cat ?_
        refine g13_26 hx hb hts hown hKs hH rfl ho m6_208 dX13_next_211 ?_
        refine lv_iconst (v := 1) hx hb dX13_next_214 (by decide) ?_
        refine lv_iadd hx hb dX13_next_215 ?_
        obtain ⟨w25, hw25, hf⟩ := bnd hf
        replace hw25 := Option.some.inj hw25
        refine p13_26 (v := ((wI q22.2 1326 o) + 1)) hx hb hts hown hKs hH rfl ho m6_208 dX13_next_216 (fun H locs hH => ?_)
        rw [hw25] at hH
        refine lv_goto (tgt := 152) hx hb dX13_next_219 (by decide) ?_
        exact ih v1_152 _ _ _ _ hH (lv_sub hl [0, 1] rfl) hf
      · replace hf := (if_neg c24).symm.trans hf
        refine hl_aload_n hx hb dX13_next_186 rfl (lv_at hl 1 rfl) ?_
        refine lv_bipush (v := 10) hx hb dX13_next_187 (by decide) ?_
        refine hl_aload_n hx hb dX13_next_189 rfl (lv_at hl 1 rfl) ?_
        refine g13_30 hx hb hts hown hKs hH rfl ho m6_212 dX13_next_190 ?_
        refine lv_imul hx hb dX13_next_193 ?_
        refine hl_aload_n hx hb dX13_next_194 rfl (lv_at hl 1 rfl) ?_
        refine hl_aload_n hx hb dX13_next_195 rfl (lv_at hl 1 rfl) ?_
        refine g13_26 hx hb hts hown hKs hH rfl ho m6_208 dX13_next_196 ?_
        obtain ⟨q26, hq26, hf⟩ := bnd hf
        refine hcV_i hx hb hml hown hts hKs hT hb0 hH (As := [.int ((wI q22.2 1326 o))]) (rest := [.int ((10 * (wI q22.2 1330 o))), rv E (some o)]) (k_X13_here l E K H.size o (wI q22.2 1326 o) q22.2 ho hq26) (gV m8_226 m8_228 ms_103 m1_16 m8_229) hd_X13_here ⟨Nat.le_of_ble_eq_true rfl, Nat.le_of_ble_eq_true rfl, rfl, rfl⟩ rfl ho rfl rfl rfl hl.1 rfl (rcI (rcV rc0)) rfl dX13_next_199 ⟨Nat.zero_le _, Nat.zero_le _⟩ (fun H locs hH => ?_)
        refine lv_iadd hx hb dX13_next_202 ?_
        refine lv_bipush (v := 48) hx hb dX13_next_203 (by decide) ?_
        refine lv_isub hx hb dX13_next_205 ?_
        obtain ⟨w27, hw27, hf⟩ := bnd hf
        replace hw27 := Option.some.inj hw27
        refine p13_30 (v := (((10 * (wI q22.2 1330 o)) + q26.1) - 48)) hx hb hts hown hKs hH rfl ho m6_212 dX13_next_206 (fun H locs hH => ?_)
        rw [hw27] at hH
        refine hl_aload_n hx hb dX13_next_209 rfl (lv_at hl 1 rfl) ?_
        refine lv_dup hx hb dX13_next_210 rv_cat ?_
        refine g13_26 hx hb hts hown hKs hH rfl ho m6_208 dX13_next_211 ?_
        refine lv_iconst (v := 1) hx hb dX13_next_214 (by decide) ?_
        refine lv_iadd hx hb dX13_next_215 ?_
        obtain ⟨w28, hw28, hf⟩ := bnd hf
        replace hw28 := Option.some.inj hw28
        refine p13_26 (v := ((wI w27 1326 o) + 1)) hx hb hts hown hKs hH rfl ho m6_208 dX13_next_216 (fun H locs hH => ?_)
        rw [hw28] at hH
        refine lv_goto (tgt := 152) hx hb dX13_next_219 (by decide) ?_
        exact ih v1_152 _ _ _ _ hH (lv_sub hl [0, 1] rfl) hf
set_option maxHeartbeats 4000000 in
set_option maxRecDepth 100000 in
theorem l_X13_next_L83 (C : CX p l e s m args meth c cX13_next 2 RX13 (Option.none : Option Jvm.ClassFile.FieldType) E) {o : Nat} (ho : K o = some (11, 0)) {w' : Wd} (k : Int32 → Wd → Option Wd) (hk : ∀ (v1_83 : Int32) (w : Wd) (H : Heap) (locs : List Loc) (ls : Array Slot), HQ E K z w s H locs → lv_has ls 2 [(1, .int v1_83), (0, rv E (some o))] → k v1_83 w = some w' → W p l e ({ frames := 5, cells := 0, slots := 0, locals := 108 } : Room) s m args below meth c H locs 0 0 (MQ below (QV E K z w') args s 0 0 (hA E)) (F0 m 117 ls [])) : ∀ (n : Nat) (v1_83 : Int32) (w : Wd) (H : Heap) (locs : List Loc) (ls : Array Slot), HQ E K z w s H locs → lv_has ls 2 [(1, .int v1_83), (0, rv E (some o))] → f_X13_next_L83 K o k n v1_83 w = some w' → W p l e ({ frames := 5, cells := 0, slots := 0, locals := 108 } : Room) s m args below meth c H locs 0 0 (MQ below (QV E K z w') args s 0 0 (hA E)) (F0 m 83 ls []) := by
  obtain ⟨hx, hb, hml, hown, hts, hKs, hT, hb0, hlocks, hret⟩ := id C
  intro n
  induction n with
  | zero =>
    intro v1_83 w H locs ls hH hl hf
    cases hf
  | succ n ih =>
    intro v1_83 w H locs ls hH hl hf
    rw [f_X13_next_L83] at hf
    refine hl_aload_n hx hb dX13_next_83 rfl (lv_at hl 1 rfl) ?_
    refine hl_aload_n hx hb dX13_next_84 rfl (lv_at hl 1 rfl) ?_
    refine g13_26 hx hb hts hown hKs hH rfl ho m6_208 dX13_next_85 ?_
    obtain ⟨q33, hq33, hf⟩ := bnd hf
    refine hcV_i hx hb hml hown hts hKs hT hb0 hH (As := [.int ((wI w 1326 o))]) (rest := []) (k_X13_here l E K H.size o (wI w 1326 o) w ho hq33) (gV m8_226 m8_228 ms_103 m1_16 m8_229) hd_X13_here ⟨Nat.le_of_ble_eq_true rfl, Nat.le_of_ble_eq_true rfl, rfl, rfl⟩ rfl ho rfl rfl rfl hl.1 rfl rc0 rfl dX13_next_88 ⟨Nat.zero_le _, Nat.zero_le _⟩ (fun H locs hH => ?_)
    refine lv_i2l (v := (q33.1.toInt64)) hx hb dX13_next_91 rfl ?_
    refine lv_ldc2 (v := 97) hx hb hown (hts _ m8_230) dX13_next_92 ?_
    refine lv_ldc2 (v := 122) hx hb hown (hts _ m8_231) dX13_next_95 ?_
    obtain ⟨q34, hq34, hf⟩ := bnd hf
    refine hcS_i hx hb hml hown hts hKs hT hb0 hH (As := [.long (q33.1.toInt64), .long 97, .long 122]) (rest := []) (k_X13_isIn l E K H.size (q33.1.toInt64) 97 122 q33.2 hq34) (gS m7_89 m7_90 m1_16 m7_91) hs_X13_isIn ⟨Nat.le_of_ble_eq_true rfl, Nat.le_of_ble_eq_true rfl, rfl, rfl⟩ hl.1 rfl rc0 rfl dX13_next_98 ⟨Nat.zero_le _, Nat.zero_le _⟩ (fun H locs hH => ?_)
    refine lv_if_eq (tgt := 117) hx hb dX13_next_101 (by decide) (fun c35 => ?_) (fun c35 => ?_)
    · replace hf := (if_pos c35).symm.trans hf
      exact hk v1_83 _ _ _ _ hH (lv_sub hl [0, 1] rfl) hf
    · replace hf := (if_neg c35).symm.trans hf
      refine hl_aload_n hx hb dX13_next_104 rfl (lv_at hl 1 rfl) ?_
      refine hl_aload_n hx hb dX13_next_105 rfl (lv_at hl 1 rfl) ?_
      refine g13_26 hx hb hts hown hKs hH rfl ho m6_208 dX13_next_106 ?_
      refine lv_iconst (v := 1) hx hb dX13_next_109 (by decide) ?_
      refine lv_iadd hx hb dX13_next_110 ?_
      obtain ⟨w36, hw36, hf⟩ := bnd hf
      replace hw36 := Option.some.inj hw36
      refine p13_26 (v := ((wI q34.2 1326 o) + 1)) hx hb hts hown hKs hH rfl ho m6_208 dX13_next_111 (fun H locs hH => ?_)
      rw [hw36] at hH
      refine lv_goto (tgt := 83) hx hb dX13_next_114 (by decide) ?_
      exact ih v1_83 _ _ _ _ hH (lv_sub hl [0, 1] rfl) hf
set_option maxHeartbeats 4000000 in
set_option maxRecDepth 100000 in
theorem k_X13_next (l : Launch) (E : Ev) (K : Kd) (z : Nat) (o : Nat) (w : Wd) (ho : K o = some (11, 0)) {w' : Wd} (hf : f_X13_next K o w = some w') : Met l yX13_next (Cond.code yX13_next cX13_next 2 (Option.none : Option Jvm.ClassFile.FieldType) :: bt) ({ frames := 5, cells := 0, slots := 0, locals := 108 } : Room) (va_Pc [rv E (some o)] (HB E K w z)) (QV E K z w') 0 0 (hA E) := by
  refine Met.ofW (cc := cX13_next) (maxL := 2) (ret := (Option.none : Option Jvm.ClassFile.FieldType)) (by decide) rfl ?_
  intro p e s m args below meth c s₁ B hml hv
  obtain ⟨rfl, hz, hP, hKs, hT, hb0⟩ := hv
  have C : CX p l e s m _ meth c cX13_next 2 RX13 (Option.none : Option Jvm.ClassFile.FieldType) E := ⟨B.exec, B.bytes, hml, findClass_of_methodNamed B.named, fun w h => atoms_spec (ws := Cond.code yX13_next cX13_next 2 (Option.none : Option Jvm.ClassFile.FieldType) :: bt) B.pre w (List.mem_cons_of_mem _ h), hKs, hT, by rw [hz]; exact hb0, B.notSynchronized, B.returns⟩
  have hH : HQ E K z w s s.heap [] := ⟨hP, va_S.rf, hz⟩
  obtain ⟨hx, hb, hml, hown, hts, hKs, hT, hb0, hlocks, hret⟩ := id C
  have hl := lv_entry [rv E (some o)] (n := 2) (by simp [lg_len_nil, lg_len_i, lg_len_j, lg_len_q, lg_len_f, lg_len_d, lg_len_r])
  rw [lg_entry_eq]
  generalize (lg_sl [rv E (some o)] ++ List.replicate (2 - (lg_sl [rv E (some o)]).length) Slot.unset).toArray = ls at hl ⊢
  replace hl : lv_has ls 2 [(0, rv E (some o))] := by simpa only [lv_args, cat_q, cat_i, cat_j, reduceIte, Nat.reduceEqDiff, Nat.reduceAdd, Nat.zero_add] using hl
  generalize s.heap = H at hH ⊢
  unfold f_X13_next at hf
  refine l_X13_next_L0  C ho _ (fun w1 H locs ls hH hl hf => ?_) fu  w _ _ _ hH (lv_sub hl [0] rfl) hf
  refine hl_aload_n hx hb dX13_next_39 rfl (lv_at hl 0 rfl) ?_
  refine hl_aload_n hx hb dX13_next_40 rfl (lv_at hl 0 rfl) ?_
  refine g13_26 hx hb hts hown hKs hH rfl ho m6_208 dX13_next_41 ?_
  obtain ⟨w8, hw8, hf⟩ := bnd hf
  replace hw8 := Option.some.inj hw8
  refine p13_27 (v := (wI w1 1326 o)) hx hb hts hown hKs hH rfl ho m6_209 dX13_next_44 (fun H locs hH => ?_)
  rw [hw8] at hH
  refine hl_aload_n hx hb dX13_next_47 rfl (lv_at hl 0 rfl) ?_
  refine hl_aload_n hx hb dX13_next_48 rfl (lv_at hl 0 rfl) ?_
  refine g13_26 hx hb hts hown hKs hH rfl ho m6_208 dX13_next_49 ?_
  obtain ⟨q9, hq9, hf⟩ := bnd hf
  refine hcV_i hx hb hml hown hts hKs hT hb0 hH (As := [.int ((wI w8 1326 o))]) (rest := []) (k_X13_here l E K H.size o (wI w8 1326 o) w8 ho hq9) (gV m8_226 m8_228 ms_103 m1_16 m8_229) hd_X13_here ⟨Nat.le_of_ble_eq_true rfl, Nat.le_of_ble_eq_true rfl, rfl, rfl⟩ rfl ho rfl rfl rfl hl.1 rfl rc0 rfl dX13_next_52 ⟨Nat.zero_le _, Nat.zero_le _⟩ (fun H locs hH => ?_)
  refine lv_istore_n (lv' := [(1, .int (q9.1)), (0, rv E (some o))]) hx hb dX13_next_55 rfl hl (by decide) rfl (fun ls hl => ?_)
  refine lv_iload_n hx hb dX13_next_56 rfl (lv_at hl 0 rfl) ?_
  refine lv_iconst (v := (-1)) hx hb dX13_next_57 (by decide) ?_
  refine lv_icmp_ne (tgt := 69) hx hb dX13_next_58 (by decide) (fun c10 => ?_) (fun c10 => ?_)
  · replace hf := (if_neg c10).symm.trans hf
    refine lv_iload_n hx hb dX13_next_69 rfl (lv_at hl 0 rfl) ?_
    refine lv_i2l (v := (q9.1.toInt64)) hx hb dX13_next_70 rfl ?_
    refine lv_ldc2 (v := 97) hx hb hown (hts _ m8_230) dX13_next_71 ?_
    refine lv_ldc2 (v := 122) hx hb hown (hts _ m8_231) dX13_next_74 ?_
    obtain ⟨q11, hq11, hf⟩ := bnd hf
    refine hcS_i hx hb hml hown hts hKs hT hb0 hH (As := [.long (q9.1.toInt64), .long 97, .long 122]) (rest := []) (k_X13_isIn l E K H.size (q9.1.toInt64) 97 122 q9.2 hq11) (gS m7_89 m7_90 m1_16 m7_91) hs_X13_isIn ⟨Nat.le_of_ble_eq_true rfl, Nat.le_of_ble_eq_true rfl, rfl, rfl⟩ hl.1 rfl rc0 rfl dX13_next_77 ⟨Nat.zero_le _, Nat.zero_le _⟩ (fun H locs hH => ?_)
    refine lv_if_eq (tgt := 133) hx hb dX13_next_80 (by decide) (fun c12 => ?_) (fun c12 => ?_)
    · replace hf := (if_pos c12).symm.trans hf
      refine lv_iload_n hx hb dX13_next_133 rfl (lv_at hl 0 rfl) ?_
      refine lv_i2l (v := (q9.1.toInt64)) hx hb dX13_next_134 rfl ?_
      refine lv_ldc2 (v := 48) hx hb hown (hts _ m9_45) dX13_next_135 ?_
      refine lv_ldc2 (v := 57) hx hb hown (hts _ m9_46) dX13_next_138 ?_
      obtain ⟨q13, hq13, hf⟩ := bnd hf
      refine hcS_i hx hb hml hown hts hKs hT hb0 hH (As := [.long (q9.1.toInt64), .long 48, .long 57]) (rest := []) (k_X13_isIn l E K H.size (q9.1.toInt64) 48 57 q11.2 hq13) (gS m7_89 m7_90 m1_16 m7_91) hs_X13_isIn ⟨Nat.le_of_ble_eq_true rfl, Nat.le_of_ble_eq_true rfl, rfl, rfl⟩ hl.1 rfl rc0 rfl dX13_next_141 ⟨Nat.zero_le _, Nat.zero_le _⟩ (fun H locs hH => ?_)
      refine lv_if_eq (tgt := 247) hx hb dX13_next_144 (by decide) (fun c14 => ?_) (fun c14 => ?_)
      · replace hf := (if_pos c14).symm.trans hf
        refine hl_aload_n hx hb dX13_next_247 rfl (lv_at hl 1 rfl) ?_
        refine hl_aload_n hx hb dX13_next_248 rfl (lv_at hl 1 rfl) ?_
        refine g13_26 hx hb hts hown hKs hH rfl ho m6_208 dX13_next_249 ?_
        refine lv_iconst (v := 1) hx hb dX13_next_252 (by decide) ?_
        refine lv_iadd hx hb dX13_next_253 ?_
        obtain ⟨w15, hw15, hf⟩ := bnd hf
        replace hw15 := Option.some.inj hw15
        refine p13_26 (v := ((wI q13.2 1326 o) + 1)) hx hb hts hown hKs hH rfl ho m6_208 dX13_next_254 (fun H locs hH => ?_)
        rw [hw15] at hH
        refine hl_aload_n hx hb dX13_next_257 rfl (lv_at hl 1 rfl) ?_
        refine lv_iload_n hx hb dX13_next_258 rfl (lv_at hl 0 rfl) ?_
        refine lv_bipush (v := 59) hx hb dX13_next_259 (by decide) ?_
        refine lv_icmp_ne (tgt := 268) hx hb dX13_next_261 (by decide) (fun c16 => ?_) (fun c16 => ?_)
        · replace hf := (if_neg c16).symm.trans hf
          refine lv_iconst (v := 4) hx hb dX13_next_268 (by decide) ?_
          obtain ⟨w17, hw17, hf⟩ := bnd hf
          replace hw17 := Option.some.inj hw17
          refine p13_28 (v := 4) hx hb hts hown hKs hH rfl ho m6_210 dX13_next_269 (fun H locs hH => ?_)
          rw [hw17] at hH
          exact hw_vret hx hb hret hf hH hlocks dX13_next_272
        · replace hf := (if_pos c16).symm.trans hf
          refine lv_iconst (v := 3) hx hb dX13_next_264 (by decide) ?_
          refine lv_goto (tgt := 269) hx hb dX13_next_265 (by decide) ?_
          obtain ⟨w18, hw18, hf⟩ := bnd hf
          replace hw18 := Option.some.inj hw18
          refine p13_28 (v := 3) hx hb hts hown hKs hH rfl ho m6_210 dX13_next_269 (fun H locs hH => ?_)
          rw [hw18] at hH
          exact hw_vret hx hb hret hf hH hlocks dX13_next_272
      · replace hf := (if_neg c14).symm.trans hf
        refine hl_aload_n hx hb dX13_next_147 rfl (lv_at hl 1 rfl) ?_
        refine lv_iconst (v := 0) hx hb dX13_next_148 (by decide) ?_
        obtain ⟨w19, hw19, hf⟩ := bnd hf
        replace hw19 := Option.some.inj hw19
        refine p13_30 (v := 0) hx hb hts hown hKs hH rfl ho m6_212 dX13_next_149 (fun H locs hH => ?_)
        rw [hw19] at hH
        refine l_X13_next_L152  C ho _ (fun v1_152 w20 H locs ls hH hl hf => ?_) fu q9.1 w19 _ _ _ hH (lv_sub hl [0, 1] rfl) hf
        refine hl_aload_n hx hb dX13_next_222 rfl (lv_at hl 1 rfl) ?_
        refine hl_aload_n hx hb dX13_next_223 rfl (lv_at hl 1 rfl) ?_
        refine g13_26 hx hb hts hown hKs hH rfl ho m6_208 dX13_next_224 ?_
        refine hl_aload_n hx hb dX13_next_227 rfl (lv_at hl 1 rfl) ?_
        refine g13_27 hx hb hts hown hKs hH rfl ho m6_209 dX13_next_228 ?_
        refine lv_isub hx hb dX13_next_231 ?_
        refine lv_iconst (v := 3) hx hb dX13_next_232 (by decide) ?_
        refine lv_icmp_le (tgt := 240) hx hb dX13_next_233 (by decide) (fun c29 => ?_) (fun c29 => ?_)
        · replace hf := (if_pos c29).symm.trans hf
          refine lv_iconst (v := 2) hx hb dX13_next_240 (by decide) ?_
          obtain ⟨w30, hw30, hf⟩ := bnd hf
          replace hw30 := Option.some.inj hw30
          refine p13_28 (v := 2) hx hb hts hown hKs hH rfl ho m6_210 dX13_next_241 (fun H locs hH => ?_)
          rw [hw30] at hH
          refine lv_goto (tgt := 272) hx hb dX13_next_244 (by decide) ?_
          exact hw_vret hx hb hret hf hH hlocks dX13_next_272
        · replace hf := (if_neg c29).symm.trans hf
          refine lv_iconst (v := 4) hx hb dX13_next_236 (by decide) ?_
          refine lv_goto (tgt := 241) hx hb dX13_next_237 (by decide) ?_
          obtain ⟨w31, hw31, hf⟩ := bnd hf
          replace hw31 := Option.some.inj hw31
          refine p13_28 (v := 4) hx hb hts hown hKs hH rfl ho m6_210 dX13_next_241 (fun H locs hH => ?_)
          rw [hw31] at hH
          refine lv_goto (tgt := 272) hx hb dX13_next_244 (by decide) ?_
          exact hw_vret hx hb hret hf hH hlocks dX13_next_272
    · replace hf := (if_neg c12).symm.trans hf
      refine l_X13_next_L83  C ho _ (fun v1_83 w32 H locs ls hH hl hf => ?_) fu q9.1 q11.2 _ _ _ hH (lv_sub hl [0, 1] rfl) hf
      refine hl_aload_n hx hb dX13_next_117 rfl (lv_at hl 1 rfl) ?_
      refine lv_iconst (v := 1) hx hb dX13_next_118 (by decide) ?_
      obtain ⟨w37, hw37, hf⟩ := bnd hf
      replace hw37 := Option.some.inj hw37
      refine p13_28 (v := 1) hx hb hts hown hKs hH rfl ho m6_210 dX13_next_119 (fun H locs hH => ?_)
      rw [hw37] at hH
      refine hl_aload_n hx hb dX13_next_122 rfl (lv_at hl 1 rfl) ?_
      refine hl_aload_n hx hb dX13_next_123 rfl (lv_at hl 1 rfl) ?_
      obtain ⟨q38, hq38, hf⟩ := bnd hf
      refine hcV_i hx hb hml hown hts hKs hT hb0 hH (As := []) (rest := [rv E (some o)]) (k_X13_wordHere l E K H.size o w37 ho hq38) (gV m8_232 m8_234 ms_104 m1_16 m8_235) hd_X13_wordHere ⟨Nat.le_of_ble_eq_true rfl, Nat.le_of_ble_eq_true rfl, rfl, rfl⟩ rfl ho rfl rfl rfl hl.1 rfl (rcV rc0) rfl dX13_next_124 ⟨Nat.zero_le _, Nat.zero_le _⟩ (fun H locs hH => ?_)
      obtain ⟨w39, hw39, hf⟩ := bnd hf
      replace hw39 := Option.some.inj hw39
      refine p13_29 (v := q38.1) hx hb hts hown hKs hH rfl ho m6_211 dX13_next_127 (fun H locs hH => ?_)
      rw [hw39] at hH
      refine lv_goto (tgt := 272) hx hb dX13_next_130 (by decide) ?_
      exact hw_vret hx hb hret hf hH hlocks dX13_next_272
  · replace hf := (if_pos c10).symm.trans hf
    refine hl_aload_n hx hb dX13_next_61 rfl (lv_at hl 1 rfl) ?_
    refine lv_iconst (v := 0) hx hb dX13_next_62 (by decide) ?_
    obtain ⟨w40, hw40, hf⟩ := bnd hf
    replace hw40 := Option.some.inj hw40
    refine p13_28 (v := 0) hx hb hts hown hKs hH rfl ho m6_210 dX13_next_63 (fun H locs hH => ?_)
    rw [hw40] at hH
    refine lv_goto (tgt := 272) hx hb dX13_next_66 (by decide) ?_
    exact hw_vret hx hb hret hf hH hlocks dX13_next_272

theorem dX13_goOn_0 : decode cX13_goOn 0 = .ok (.aload_n 0, 1) := by decide +kernel
theorem dX13_goOn_1 : decode cX13_goOn 1 = .ok (.invokevirtual 379, 3) := by decide +kernel
theorem dX13_goOn_4 : decode cX13_goOn 4 = .ok (.ifCond .eq 7, 3) := by decide +kernel
theorem dX13_goOn_7 : decode cX13_goOn 7 = .ok (.aload_n 0, 1) := by decide +kernel
theorem dX13_goOn_8 : decode cX13_goOn 8 = .ok (.invokevirtual 383, 3) := by decide +kernel
theorem dX13_goOn_11 : decode cX13_goOn 11 = .ok (.return_, 1) := by decide +kernel
theorem hd_X13_goOn : yX13_goOn.cls = RX13 ∧ yX13_goOn.cls ≠ "java/lang/invoke/MethodHandle" ∧ yX13_goOn.cls ≠ "java/lang/invoke/VarHandle" ∧ (parseMethodDescriptor yX13_goOn.desc).map (fun d => d.parameters.length) = some 0 := by decide +kernel
theorem hs_X13_goOn : yX13_goOn.cls ≠ "java/lang/invoke/MethodHandle" ∧ yX13_goOn.cls ≠ "java/lang/invoke/VarHandle" ∧ (parseMethodDescriptor yX13_goOn.desc).map (fun d => d.parameters.length) = some 0 := by decide +kernel
set_option maxHeartbeats 4000000 in
set_option maxRecDepth 100000 in
theorem k_X13_goOn (l : Launch) (E : Ev) (K : Kd) (z : Nat) (o : Nat) (w : Wd) (ho : K o = some (11, 0)) {w' : Wd} (hf : f_X13_goOn K o w = some w') : Met l yX13_goOn (Cond.code yX13_goOn cX13_goOn 1 (Option.none : Option Jvm.ClassFile.FieldType) :: bt) ({ frames := 6, cells := 0, slots := 0, locals := 129 } : Room) (va_Pc [rv E (some o)] (HB E K w z)) (QV E K z w') 0 0 (hA E) := by
  refine Met.ofW (cc := cX13_goOn) (maxL := 1) (ret := (Option.none : Option Jvm.ClassFile.FieldType)) (by decide) rfl ?_
  intro p e s m args below meth c s₁ B hml hv
  obtain ⟨rfl, hz, hP, hKs, hT, hb0⟩ := hv
  have C : CX p l e s m _ meth c cX13_goOn 1 RX13 (Option.none : Option Jvm.ClassFile.FieldType) E := ⟨B.exec, B.bytes, hml, findClass_of_methodNamed B.named, fun w h => atoms_spec (ws := Cond.code yX13_goOn cX13_goOn 1 (Option.none : Option Jvm.ClassFile.FieldType) :: bt) B.pre w (List.mem_cons_of_mem _ h), hKs, hT, by rw [hz]; exact hb0, B.notSynchronized, B.returns⟩
  have hH : HQ E K z w s s.heap [] := ⟨hP, va_S.rf, hz⟩
  obtain ⟨hx, hb, hml, hown, hts, hKs, hT, hb0, hlocks, hret⟩ := id C
  have hl := lv_entry [rv E (some o)] (n := 1) (by simp [lg_len_nil, lg_len_i, lg_len_j, lg_len_q, lg_len_f, lg_len_d, lg_len_r])
  rw [lg_entry_eq]
  generalize (lg_sl [rv E (some o)] ++ List.replicate (1 - (lg_sl [rv E (some o)]).length) Slot.unset).toArray = ls at hl ⊢
  replace hl : lv_has ls 1 [(0, rv E (some o))] := by simpa only [lv_args, cat_q, cat_i, cat_j, reduceIte, Nat.reduceEqDiff, Nat.reduceAdd, Nat.zero_add] using hl
  generalize s.heap = H at hH ⊢
  unfold f_X13_goOn at hf
  refine hl_aload_n hx hb dX13_goOn_0 rfl (lv_at hl 0 rfl) ?_
  obtain ⟨q1, hq1, hf⟩ := bnd hf
  refine hcV_i hx hb hml hown hts hKs hT hb0 hH (As := []) (rest := []) (k_X13_fine l E K H.size o w ho hq1) (gV m9_47 m9_49 ms_105 m1_16 m9_50) hd_X13_fine ⟨Nat.le_of_ble_eq_true rfl, Nat.le_of_ble_eq_true rfl, rfl, rfl⟩ rfl ho rfl rfl rfl hl.1 rfl rc0 rfl dX13_goOn_1 ⟨Nat.zero_le _, Nat.zero_le _⟩ (fun H locs hH => ?_)
  refine lv_if_eq (tgt := 11) hx hb dX13_goOn_4 (by decide) (fun c2 => ?_) (fun c2 => ?_)
  · replace hf := (if_pos c2).symm.trans hf
    exact hw_vret hx hb hret hf hH hlocks dX13_goOn_11
  · replace hf := (if_neg c2).symm.trans hf
    refine hl_aload_n hx hb dX13_goOn_7 rfl (lv_at hl 0 rfl) ?_
    obtain ⟨q3, hq3, hf⟩ := bnd hf
    refine hcV_v hx hb hml hown hts hKs hT hb0 hH (As := []) (rest := []) (k_X13_next l E K H.size o q1.2 ho hq3) (gV m8_222 m8_224 ms_102 m1_16 m8_225) hd_X13_next ⟨Nat.le_of_ble_eq_true rfl, Nat.le_of_ble_eq_true rfl, rfl, rfl⟩ rfl ho rfl rfl rfl hl.1 rfl rc0 rfl dX13_goOn_8 ⟨Nat.zero_le _, Nat.zero_le _⟩ (fun H locs hH => ?_)
    exact hw_vret hx hb hret hf hH hlocks dX13_goOn_11

theorem dX13_takes_0 : decode cX13_takes 0 = .ok (.aload_n 0, 1) := by decide +kernel
theorem dX13_takes_1 : decode cX13_takes 1 = .ok (.iload_n 1, 1) := by decide +kernel
theorem dX13_takes_2 : decode cX13_takes 2 = .ok (.invokevirtual 386, 3) := by decide +kernel
theorem dX13_takes_5 : decode cX13_takes 5 = .ok (.istore_n 2, 1) := by decide +kernel
theorem dX13_takes_6 : decode cX13_takes 6 = .ok (.iload_n 2, 1) := by decide +kernel
theorem dX13_takes_7 : decode cX13_takes 7 = .ok (.ifCond .eq 7, 3) := by decide +kernel
theorem dX13_takes_10 : decode cX13_takes 10 = .ok (.aload_n 0, 1) := by decide +kernel
theorem dX13_takes_11 : decode cX13_takes 11 = .ok (.invokevirtual 383, 3) := by decide +kernel
theorem dX13_takes_14 : decode cX13_takes 14 = .ok (.iload_n 2, 1) := by decide +kernel
theorem dX13_takes_15 : decode cX13_takes 15 = .ok (.ireturn, 1) := by decide +kernel
theorem hd_X13_takes : yX13_takes.cls = RX13 ∧ yX13_takes.cls ≠ "java/lang/invoke/MethodHandle" ∧ yX13_takes.cls ≠ "java/lang/invoke/VarHandle" ∧ (parseMethodDescriptor yX13_takes.desc).map (fun d => d.parameters.length) = some 1 := by decide +kernel
theorem hs_X13_takes : yX13_takes.cls ≠ "java/lang/invoke/MethodHandle" ∧ yX13_takes.cls ≠ "java/lang/invoke/VarHandle" ∧ (parseMethodDescriptor yX13_takes.desc).map (fun d => d.parameters.length) = some 1 := by decide +kernel
set_option maxHeartbeats 4000000 in
set_option maxRecDepth 100000 in
theorem k_X13_takes (l : Launch) (E : Ev) (K : Kd) (z : Nat) (o : Nat) (a_1 : Int32) (w : Wd) (ho : K o = some (11, 0)) {r : Bool} {w' : Wd} (hf : f_X13_takes K o a_1 w = some (r, w')) : Met l yX13_takes (Cond.code yX13_takes cX13_takes 3 (Option.some Jvm.ClassFile.FieldType.boolean) :: bt) ({ frames := 6, cells := 0, slots := 0, locals := 129 } : Room) (va_Pc [rv E (some o), .int a_1] (HB E K w z)) (QI E K z w' (b2i r)) 0 0 (hA E) := by
  refine Met.ofW (cc := cX13_takes) (maxL := 3) (ret := (Option.some Jvm.ClassFile.FieldType.boolean)) (by decide) rfl ?_
  intro p e s m args below meth c s₁ B hml hv
  obtain ⟨rfl, hz, hP, hKs, hT, hb0⟩ := hv
  have C : CX p l e s m _ meth c cX13_takes 3 RX13 (Option.some Jvm.ClassFile.FieldType.boolean) E := ⟨B.exec, B.bytes, hml, findClass_of_methodNamed B.named, fun w h => atoms_spec (ws := Cond.code yX13_takes cX13_takes 3 (Option.some Jvm.ClassFile.FieldType.boolean) :: bt) B.pre w (List.mem_cons_of_mem _ h), hKs, hT, by rw [hz]; exact hb0, B.notSynchronized, B.returns⟩
  have hH : HQ E K z w s s.heap [] := ⟨hP, va_S.rf, hz⟩
  obtain ⟨hx, hb, hml, hown, hts, hKs, hT, hb0, hlocks, hret⟩ := id C
  have hl := lv_entry [rv E (some o), .int a_1] (n := 3) (by simp [lg_len_nil, lg_len_i, lg_len_j, lg_len_q, lg_len_f, lg_len_d, lg_len_r])
  rw [lg_entry_eq]
  generalize (lg_sl [rv E (some o), .int a_1] ++ List.replicate (3 - (lg_sl [rv E (some o), .int a_1]).length) Slot.unset).toArray = ls at hl ⊢
  replace hl : lv_has ls 3 [(0, rv E (some o)), (1, .int a_1)] := by simpa only [lv_args, cat_q, cat_i, cat_j, reduceIte, Nat.reduceEqDiff, Nat.reduceAdd, Nat.zero_add] using hl
  generalize s.heap = H at hH ⊢
  unfold f_X13_takes at hf
  refine hl_aload_n hx hb dX13_takes_0 rfl (lv_at hl 0 rfl) ?_
  refine lv_iload_n hx hb dX13_takes_1 rfl (lv_at hl 1 rfl) ?_
  obtain ⟨q1, hq1, hf⟩ := bnd hf
  refine hcV_i hx hb hml hown hts hKs hT hb0 hH (As := [.int a_1]) (rest := []) (k_X13_isWord l E K H.size o a_1 w ho hq1) (gV m9_55 m9_57 ms_107 m1_16 m9_58) hd_X13_isWord ⟨Nat.le_of_ble_eq_true rfl, Nat.le_of_ble_eq_true rfl, rfl, rfl⟩ rfl ho rfl rfl rfl hl.1 rfl rc0 rfl dX13_takes_2 ⟨Nat.zero_le _, Nat.zero_le _⟩ (fun H locs hH => ?_)
  refine lv_istore_n (lv' := [(2, .int (b2i q1.1)), (0, rv E (some o)), (1, .int a_1)]) hx hb dX13_takes_5 rfl hl (by decide) rfl (fun ls hl => ?_)
  refine lv_iload_n hx hb dX13_takes_6 rfl (lv_at hl 0 rfl) ?_
  refine lv_if_eq (tgt := 14) hx hb dX13_takes_7 (by decide) (fun c2 => ?_) (fun c2 => ?_)
  · replace hf := (if_pos c2).symm.trans hf
    refine lv_iload_n hx hb dX13_takes_14 rfl (lv_at hl 0 rfl) ?_
    exact hw_zret hx hb hret rfl hf hH hlocks dX13_takes_15
  · replace hf := (if_neg c2).symm.trans hf
    refine hl_aload_n hx hb dX13_takes_10 rfl (lv_at hl 1 rfl) ?_
    obtain ⟨q3, hq3, hf⟩ := bnd hf
    refine hcV_v hx hb hml hown hts hKs hT hb0 hH (As := []) (rest := []) (k_X13_next l E K H.size o q1.2 ho hq3) (gV m8_222 m8_224 ms_102 m1_16 m8_225) hd_X13_next ⟨Nat.le_of_ble_eq_true rfl, Nat.le_of_ble_eq_true rfl, rfl, rfl⟩ rfl ho rfl rfl rfl hl.1 rfl rc0 rfl dX13_takes_11 ⟨Nat.zero_le _, Nat.zero_le _⟩ (fun H locs hH => ?_)
    refine lv_iload_n hx hb dX13_takes_14 rfl (lv_at hl 0 rfl) ?_
    exact hw_zret hx hb hret rfl hf hH hlocks dX13_takes_15

theorem dX13_passesWord_0 : decode cX13_passesWord 0 = .ok (.aload_n 0, 1) := by decide +kernel
theorem dX13_passesWord_1 : decode cX13_passesWord 1 = .ok (.aload_n 0, 1) := by decide +kernel
theorem dX13_passesWord_2 : decode cX13_passesWord 2 = .ok (.iload_n 1, 1) := by decide +kernel
theorem dX13_passesWord_3 : decode cX13_passesWord 3 = .ok (.invokevirtual 389, 3) := by decide +kernel
theorem dX13_passesWord_6 : decode cX13_passesWord 6 = .ok (.iconst 1, 1) := by decide +kernel
theorem dX13_passesWord_7 : decode cX13_passesWord 7 = .ok (.invokevirtual 392, 3) := by decide +kernel
theorem dX13_passesWord_10 : decode cX13_passesWord 10 = .ok (.return_, 1) := by decide +kernel
theorem hd_X13_passesWord : yX13_passesWord.cls = RX13 ∧ yX13_passesWord.cls ≠ "java/lang/invoke/MethodHandle" ∧ yX13_passesWord.cls ≠ "java/lang/invoke/VarHandle" ∧ (parseMethodDescriptor yX13_passesWord.desc).map (fun d => d.parameters.length) = some 1 := by decide +kernel
theorem hs_X13_passesWord : yX13_passesWord.cls ≠ "java/lang/invoke/MethodHandle" ∧ yX13_passesWord.cls ≠ "java/lang/invoke/VarHandle" ∧ (parseMethodDescriptor yX13_passesWord.desc).map (fun d => d.parameters.length) = some 1 := by decide +kernel
set_option maxHeartbeats 4000000 in
set_option maxRecDepth 100000 in
theorem k_X13_passesWord (l : Launch) (E : Ev) (K : Kd) (z : Nat) (o : Nat) (a_1 : Int32) (w : Wd) (ho : K o = some (11, 0)) {w' : Wd} (hf : f_X13_passesWord K o a_1 w = some w') : Met l yX13_passesWord (Cond.code yX13_passesWord cX13_passesWord 2 (Option.none : Option Jvm.ClassFile.FieldType) :: bt) ({ frames := 7, cells := 0, slots := 0, locals := 151 } : Room) (va_Pc [rv E (some o), .int a_1] (HB E K w z)) (QV E K z w') 0 0 (hA E) := by
  refine Met.ofW (cc := cX13_passesWord) (maxL := 2) (ret := (Option.none : Option Jvm.ClassFile.FieldType)) (by decide) rfl ?_
  intro p e s m args below meth c s₁ B hml hv
  obtain ⟨rfl, hz, hP, hKs, hT, hb0⟩ := hv
  have C : CX p l e s m _ meth c cX13_passesWord 2 RX13 (Option.none : Option Jvm.ClassFile.FieldType) E := ⟨B.exec, B.bytes, hml, findClass_of_methodNamed B.named, fun w h => atoms_spec (ws := Cond.code yX13_passesWord cX13_passesWord 2 (Option.none : Option Jvm.ClassFile.FieldType) :: bt) B.pre w (List.mem_cons_of_mem _ h), hKs, hT, by rw [hz]; exact hb0, B.notSynchronized, B.returns⟩
  have hH : HQ E K z w s s.heap [] := ⟨hP, va_S.rf, hz⟩
  obtain ⟨hx, hb, hml, hown, hts, hKs, hT, hb0, hlocks, hret⟩ := id C
  have hl := lv_entry [rv E (some o), .int a_1] (n := 2) (by simp [lg_len_nil, lg_len_i, lg_len_j, lg_len_q, lg_len_f, lg_len_d, lg_len_r])
  rw [lg_entry_eq]
  generalize (lg_sl [rv E (some o), .int a_1] ++ List.replicate (2 - (lg_sl [rv E (some o), .int a_1]).length) Slot.unset).toArray = ls at hl ⊢
  replace hl : lv_has ls 2 [(0, rv E (some o)), (1, .int a_1)] := by simpa only [lv_args, cat_q, cat_i, cat_j, reduceIte, Nat.reduceEqDiff, Nat.reduceAdd, Nat.zero_add] using hl
  generalize s.heap = H at hH ⊢
  unfold f_X13_passesWord at hf
  refine hl_aload_n hx hb dX13_passesWord_0 rfl (lv_at hl 0 rfl) ?_
  refine hl_aload_n hx hb dX13_passesWord_1 rfl (lv_at hl 0 rfl) ?_
  refine lv_iload_n hx hb dX13_passesWord_2 rfl (lv_at hl 1 rfl) ?_
  obtain ⟨q1, hq1, hf⟩ := bnd hf
  refine hcV_i hx hb hml hown hts hKs hT hb0 hH (As := [.int a_1]) (rest := [rv E (some o)]) (k_X13_takes l E K H.size o a_1 w ho hq1) (gV m9_108 m9_110 ms_119 m1_16 m9_111) hd_X13_takes ⟨Nat.le_of_ble_eq_true rfl, Nat.le_of_ble_eq_true rfl, rfl, rfl⟩ rfl ho rfl rfl rfl hl.1 rfl (rcV rc0) rfl dX13_passesWord_3 ⟨Nat.zero_le _, Nat.zero_le _⟩ (fun H locs hH => ?_)
  refine lv_iconst (v := 1) hx hb dX13_passesWord_6 (by decide) ?_
  obtain ⟨q2, hq2, hf⟩ := bnd hf
  refine hcV_v hx hb hml hown hts hKs hT hb0 hH (As := [.int (b2i q1.1), .int 1]) (rest := []) (k_X13_needs l E K H.size o q1.1 1 q1.2 ho hq2) (gV m9_67 m9_69 ms_110 m1_16 m9_70) hd_X13_needs ⟨Nat.le_of_ble_eq_true rfl, Nat.le_of_ble_eq_true rfl, rfl, rfl⟩ rfl ho rfl rfl rfl hl.1 rfl rc0 rfl dX13_passesWord_7 ⟨Nat.zero_le _, Nat.zero_le _⟩ (fun H locs hH => ?_)
  exact hw_vret hx hb hret hf hH hlocks dX13_passesWord_10

theorem dX13_number_0 : decode cX13_number 0 = .ok (.aload_n 0, 1) := by decide +kernel
theorem dX13_number_1 : decode cX13_number 1 = .ok (.iload_n 1, 1) := by decide +kernel
theorem dX13_number_2 : decode cX13_number 2 = .ok (.iload_n 2, 1) := by decide +kernel
theorem dX13_number_3 : decode cX13_number 3 = .ok (.invokevirtual 396, 3) := by decide +kernel
theorem dX13_number_6 : decode cX13_number 6 = .ok (.istore_n 3, 1) := by decide +kernel
theorem dX13_number_7 : decode cX13_number 7 = .ok (.aload_n 0, 1) := by decide +kernel
theorem dX13_number_8 : decode cX13_number 8 = .ok (.invokevirtual 399, 3) := by decide +kernel
theorem dX13_number_11 : decode cX13_number 11 = .ok (.iload_n 3, 1) := by decide +kernel
theorem dX13_number_12 : decode cX13_number 12 = .ok (.ireturn, 1) := by decide +kernel
theorem hd_X13_number : yX13_number.cls = RX13 ∧ yX13_number.cls ≠ "java/lang/invoke/MethodHandle" ∧ yX13_number.cls ≠ "java/lang/invoke/VarHandle" ∧ (parseMethodDescriptor yX13_number.desc).map (fun d => d.parameters.length) = some 2 := by decide +kernel
theorem hs_X13_number : yX13_number.cls ≠ "java/lang/invoke/MethodHandle" ∧ yX13_number.cls ≠ "java/lang/invoke/VarHandle" ∧ (parseMethodDescriptor yX13_number.desc).map (fun d => d.parameters.length) = some 2 := by decide +kernel
set_option maxHeartbeats 4000000 in
set_option maxRecDepth 100000 in
theorem k_X13_number (l : Launch) (E : Ev) (K : Kd) (z : Nat) (o : Nat) (a_1 : Int32) (a_2 : Int32) (w : Wd) (ho : K o = some (11, 0)) {r : Int32} {w' : Wd} (hf : f_X13_number K o a_1 a_2 w = some (r, w')) : Met l yX13_number (Cond.code yX13_number cX13_number 4 (Option.some Jvm.ClassFile.FieldType.int) :: bt) ({ frames := 7, cells := 0, slots := 0, locals := 149 } : Room) (va_Pc [rv E (some o), .int a_1, .int a_2] (HB E K w z)) (QI E K z w' r) 0 0 (hA E) := by
  refine Met.ofW (cc := cX13_number) (maxL := 4) (ret := (Option.some Jvm.ClassFile.FieldType.int)) (by decide) rfl ?_
  intro p e s m args below meth c s₁ B hml hv
  obtain ⟨rfl, hz, hP, hKs, hT, hb0⟩ := hv
  have C : CX p l e s m _ meth c cX13_number 4 RX13 (Option.some Jvm.ClassFile.FieldType.int) E := ⟨B.exec, B.bytes, hml, findClass_of_methodNamed B.named, fun w h => atoms_spec (ws := Cond.code yX13_number cX13_number 4 (Option.some Jvm.ClassFile.FieldType.int) :: bt) B.pre w (List.mem_cons_of_mem _ h), hKs, hT, by rw [hz]; exact hb0, B.notSynchronized, B.returns⟩
  have hH : HQ E K z w s s.heap [] := ⟨hP, va_S.rf, hz⟩
  obtain ⟨hx, hb, hml, hown, hts, hKs, hT, hb0, hlocks, hret⟩ := id C
  have hl := lv_entry [rv E (some o), .int a_1, .int a_2] (n := 4) (by simp [lg_len_nil, lg_len_i, lg_len_j, lg_len_q, lg_len_f, lg_len_d, lg_len_r])
  rw [lg_entry_eq]
  generalize (lg_sl [rv E (some o), .int a_1, .int a_2] ++ List.replicate (4 - (lg_sl [rv E (some o), .int a_1, .int a_2]).length) Slot.unset).toArray = ls at hl ⊢
  replace hl : lv_has ls 4 [(0, rv E (some o)), (1, .int a_1), (2, .int a_2)] := by simpa only [lv_args, cat_q, cat_i, cat_j, reduceIte, Nat.reduceEqDiff, Nat.reduceAdd, Nat.zero_add] using hl
  generalize s.heap = H at hH ⊢
  unfold f_X13_number at hf
  refine hl_aload_n hx hb dX13_number_0 rfl (lv_at hl 0 rfl) ?_
  refine lv_iload_n hx hb dX13_number_1 rfl (lv_at hl 1 rfl) ?_
  refine lv_iload_n hx hb dX13_number_2 rfl (lv_at hl 2 rfl) ?_
  obtain ⟨q1, hq1, hf⟩ := bnd hf
  refine hcV_i hx hb hml hown hts hKs hT hb0 hH (As := [.int a_1, .int a_2]) (rest := []) (k_X13_look l E K H.size o a_1 a_2 w ho hq1) (gV m9_75 m9_77 ms_112 m1_16 m9_78) hd_X13_look ⟨Nat.le_of_ble_eq_true rfl, Nat.le_of_ble_eq_true rfl, rfl, rfl⟩ rfl ho rfl rfl rfl hl.1 rfl rc0 rfl dX13_number_3 ⟨Nat.zero_le _, Nat.zero_le _⟩ (fun H locs hH => ?_)
  refine lv_istore_n (lv' := [(3, .int (q1.1)), (0, rv E (some o)), (1, .int a_1), (2, .int a_2)]) hx hb dX13_number_6 rfl hl (by decide) rfl (fun ls hl => ?_)
  refine hl_aload_n hx hb dX13_number_7 rfl (lv_at hl 1 rfl) ?_
  obtain ⟨q2, hq2, hf⟩ := bnd hf
  refine hcV_v hx hb hml hown hts hKs hT hb0 hH (As := []) (rest := []) (k_X13_goOn l E K H.size o q1.2 ho hq2) (gV m9_71 m9_73 ms_111 m1_16 m9_74) hd_X13_goOn ⟨Nat.le_of_ble_eq_true rfl, Nat.le_of_ble_eq_true rfl, rfl, rfl⟩ rfl ho rfl rfl rfl hl.1 rfl rc0 rfl dX13_number_8 ⟨Nat.zero_le _, Nat.zero_le _⟩ (fun H locs hH => ?_)
  refine lv_iload_n hx hb dX13_number_11 rfl (lv_at hl 0 rfl) ?_
  exact hw_iret hx hb hret hf hH hlocks dX13_number_12

theorem dX13_numberBehind_0 : decode cX13_numberBehind 0 = .ok (.aload_n 0, 1) := by decide +kernel
theorem dX13_numberBehind_1 : decode cX13_numberBehind 1 = .ok (.iload_n 1, 1) := by decide +kernel
theorem dX13_numberBehind_2 : decode cX13_numberBehind 2 = .ok (.invokevirtual 402, 3) := by decide +kernel
theorem dX13_numberBehind_5 : decode cX13_numberBehind 5 = .ok (.aload_n 0, 1) := by decide +kernel
theorem dX13_numberBehind_6 : decode cX13_numberBehind 6 = .ok (.iload_n 2, 1) := by decide +kernel
theorem dX13_numberBehind_7 : decode cX13_numberBehind 7 = .ok (.iload_n 3, 1) := by decide +kernel
theorem dX13_numberBehind_8 : decode cX13_numberBehind 8 = .ok (.invokevirtual 405, 3) := by decide +kernel
theorem dX13_numberBehind_11 : decode cX13_numberBehind 11 = .ok (.ireturn, 1) := by decide +kernel
theorem hd_X13_numberBehind : yX13_numberBehind.cls = RX13 ∧ yX13_numberBehind.cls ≠ "java/lang/invoke/MethodHandle" ∧ yX13_numberBehind.cls ≠ "java/lang/invoke/VarHandle" ∧ (parseMethodDescriptor yX13_numberBehind.desc).map (fun d => d.parameters.length) = some 3 := by decide +kernel
theorem hs_X13_numberBehind : yX13_numberBehind.cls ≠ "java/lang/invoke/MethodHandle" ∧ yX13_numberBehind.cls ≠ "java/lang/invoke/VarHandle" ∧ (parseMethodDescriptor yX13_numberBehind.desc).map (fun d => d.parameters.length) = some 3 := by decide +kernel
set_option maxHeartbeats 4000000 in
set_option maxRecDepth 100000 in
theorem k_X13_numberBehind (l : Launch) (E : Ev) (K : Kd) (z : Nat) (o : Nat) (a_1 : Int32) (a_2 : Int32) (a_3 : Int32) (w : Wd) (ho : K o = some (11, 0)) {r : Int32} {w' : Wd} (hf : f_X13_numberBehind K o a_1 a_2 a_3 w = some (r, w')) : Met l yX13_numberBehind (Cond.code yX13_numberBehind cX13_numberBehind 4 (Option.some Jvm.ClassFile.FieldType.int) :: bt) ({ frames := 8, cells := 0, slots := 0, locals := 172 } : Room) (va_Pc [rv E (some o), .int a_1, .int a_2, .int a_3] (HB E K w z)) (QI E K z w' r) 0 0 (hA E) := by
  refine Met.ofW (cc := cX13_numberBehind) (maxL := 4) (ret := (Option.some Jvm.ClassFile.FieldType.int)) (by decide) rfl ?_
  intro p e s m args below meth c s₁ B hml hv
  obtain ⟨rfl, hz, hP, hKs, hT, hb0⟩ := hv
  have C : CX p l e s m _ meth c cX13_numberBehind 4 RX13 (Option.some Jvm.ClassFile.FieldType.int) E := ⟨B.exec, B.bytes, hml, findClass_of_methodNamed B.named, fun w h => atoms_spec (ws := Cond.code yX13_numberBehind cX13_numberBehind 4 (Option.some Jvm.ClassFile.FieldType.int) :: bt) B.pre w (List.mem_cons_of_mem _ h), hKs, hT, by rw [hz]; exact hb0, B.notSynchronized, B.returns⟩
  have hH : HQ E K z w s s.heap [] := ⟨hP, va_S.rf, hz⟩
  obtain ⟨hx, hb, hml, hown, hts, hKs, hT, hb0, hlocks, hret⟩ := id C
  have hl := lv_entry [rv E (some o), .int a_1, .int a_2, .int a_3] (n := 4) (by simp [lg_len_nil, lg_len_i, lg_len_j, lg_len_q, lg_len_f, lg_len_d, lg_len_r])
  rw [lg_entry_eq]
  generalize (lg_sl [rv E (some o), .int a_1, .int a_2, .int a_3] ++ List.replicate (4 - (lg_sl [rv E (some o), .int a_1, .int a_2, .int a_3]).length) Slot.unset).toArray = ls at hl ⊢
  replace hl : lv_has ls 4 [(0, rv E (some o)), (1, .int a_1), (2, .int a_2), (3, .int a_3)] := by simpa only [lv_args, cat_q, cat_i, cat_j, reduceIte, Nat.reduceEqDiff, Nat.reduceAdd, Nat.zero_add] using hl
  generalize s.heap = H at hH ⊢
  unfold f_X13_numberBehind at hf
  refine hl_aload_n hx hb dX13_numberBehind_0 rfl (lv_at hl 0 rfl) ?_
  refine lv_iload_n hx hb dX13_numberBehind_1 rfl (lv_at hl 1 rfl) ?_
  obtain ⟨q1, hq1, hf⟩ := bnd hf
  refine hcV_v hx hb hml hown hts hKs hT hb0 hH (As := [.int a_1]) (rest := []) (k_X13_passesWord l E K H.size o a_1 w ho hq1) (gV m9_104 m9_106 ms_118 m1_16 m9_107) hd_X13_passesWord ⟨Nat.le_of_ble_eq_true rfl, Nat.le_of_ble_eq_true rfl, rfl, rfl⟩ rfl ho rfl rfl rfl hl.1 rfl rc0 rfl dX13_numberBehind_2 ⟨Nat.zero_le _, Nat.zero_le _⟩ (fun H locs hH => ?_)
  refine hl_aload_n hx hb dX13_numberBehind_5 rfl (lv_at hl 0 rfl) ?_
  refine lv_iload_n hx hb dX13_numberBehind_6 rfl (lv_at hl 2 rfl) ?_
  refine lv_iload_n hx hb dX13_numberBehind_7 rfl (lv_at hl 3 rfl) ?_
  obtain ⟨q2, hq2, hf⟩ := bnd hf
  refine hcV_i hx hb hml hown hts hKs hT hb0 hH (As := [.int a_2, .int a_3]) (rest := []) (k_X13_number l E K H.size o a_2 a_3 q1 ho hq2) (gV m9_112 m9_114 ms_120 m1_16 m9_115) hd_X13_number ⟨Nat.le_of_ble_eq_true rfl, Nat.le_of_ble_eq_true rfl, rfl, rfl⟩ rfl ho rfl rfl rfl hl.1 rfl rc0 rfl dX13_numberBehind_8 ⟨Nat.zero_le _, Nat.zero_le _⟩ (fun H locs hH => ?_)
  exact hw_iret hx hb hret hf hH hlocks dX13_numberBehind_11

theorem dX13_newName_0 : decode cX13_newName 0 = .ok (.aload_n 0, 1) := by decide +kernel
theorem dX13_newName_1 : decode cX13_newName 1 = .ok (.invokevirtual 412, 3) := by decide +kernel
theorem dX13_newName_4 : decode cX13_newName 4 = .ok (.aload_n 0, 1) := by decide +kernel
theorem dX13_newName_5 : decode cX13_newName 5 = .ok (.invokevirtual 379, 3) := by decide +kernel
theorem dX13_newName_8 : decode cX13_newName 8 = .ok (.ifCond .ne 4, 3) := by decide +kernel
theorem dX13_newName_11 : decode cX13_newName 11 = .ok (.return_, 1) := by decide +kernel
theorem dX13_newName_12 : decode cX13_newName 12 = .ok (.aload_n 0, 1) := by decide +kernel
theorem dX13_newName_13 : decode cX13_newName 13 = .ok (.aload_n 0, 1) := by decide +kernel
theorem dX13_newName_14 : decode cX13_newName 14 = .ok (.invokevirtual 415, 3) := by decide +kernel
theorem dX13_newName_17 : decode cX13_newName 17 = .ok (.aload_n 1, 1) := by decide +kernel
theorem dX13_newName_18 : decode cX13_newName 18 = .ok (.iload_n 2, 1) := by decide +kernel
theorem dX13_newName_19 : decode cX13_newName 19 = .ok (.invokestatic 419, 3) := by decide +kernel
theorem dX13_newName_22 : decode cX13_newName 22 = .ok (.iconst (-1), 1) := by decide +kernel
theorem dX13_newName_23 : decode cX13_newName 23 = .ok (.if_icmp .ne 7, 3) := by decide +kernel
theorem dX13_newName_26 : decode cX13_newName 26 = .ok (.iconst 1, 1) := by decide +kernel
theorem dX13_newName_27 : decode cX13_newName 27 = .ok (.goto 4, 3) := by decide +kernel
theorem dX13_newName_30 : decode cX13_newName 30 = .ok (.iconst 0, 1) := by decide +kernel
theorem dX13_newName_31 : decode cX13_newName 31 = .ok (.iconst 3, 1) := by decide +kernel
theorem dX13_newName_32 : decode cX13_newName 32 = .ok (.invokevirtual 392, 3) := by decide +kernel
theorem dX13_newName_35 : decode cX13_newName 35 = .ok (.aload_n 0, 1) := by decide +kernel
theorem dX13_newName_36 : decode cX13_newName 36 = .ok (.invokevirtual 379, 3) := by decide +kernel
theorem dX13_newName_39 : decode cX13_newName 39 = .ok (.ifCond .eq 10, 3) := by decide +kernel
theorem dX13_newName_42 : decode cX13_newName 42 = .ok (.aload_n 1, 1) := by decide +kernel
theorem dX13_newName_43 : decode cX13_newName 43 = .ok (.iload_n 2, 1) := by decide +kernel
theorem dX13_newName_44 : decode cX13_newName 44 = .ok (.aload_n 0, 1) := by decide +kernel
theorem dX13_newName_45 : decode cX13_newName 45 = .ok (.invokevirtual 415, 3) := by decide +kernel
theorem dX13_newName_48 : decode cX13_newName 48 = .ok (.lastore, 1) := by decide +kernel
theorem dX13_newName_49 : decode cX13_newName 49 = .ok (.aload_n 0, 1) := by decide +kernel
theorem dX13_newName_50 : decode cX13_newName 50 = .ok (.invokevirtual 399, 3) := by decide +kernel
theorem dX13_newName_53 : decode cX13_newName 53 = .ok (.return_, 1) := by decide +kernel
theorem hd_X13_newName : yX13_newName.cls = RX13 ∧ yX13_newName.cls ≠ "java/lang/invoke/MethodHandle" ∧ yX13_newName.cls ≠ "java/lang/invoke/VarHandle" ∧ (parseMethodDescriptor yX13_newName.desc).map (fun d => d.parameters.length) = some 2 := by decide +kernel
theorem hs_X13_newName : yX13_newName.cls ≠ "java/lang/invoke/MethodHandle" ∧ yX13_newName.cls ≠ "java/lang/invoke/VarHandle" ∧ (parseMethodDescriptor yX13_newName.desc).map (fun d => d.parameters.length) = some 2 := by decide +kernel
set_option maxHeartbeats 4000000 in
set_option maxRecDepth 100000 in
theorem k_X13_newName (l : Launch) (E : Ev) (K : Kd) (z : Nat) (o : Nat) (a_1 : Option Nat) (a_2 : Int32) (w : Wd) (ho : K o = some (11, 0)) {w' : Wd} (hf : f_X13_newName K o a_1 a_2 w = some w') : Met l yX13_newName (Cond.code yX13_newName cX13_newName 3 (Option.none : Option Jvm.ClassFile.FieldType) :: bt) ({ frames := 7, cells := 0, slots := 0, locals := 149 } : Room) (va_Pc [rv E (some o), rv E a_1, .int a_2] (HB E K w z)) (QV E K z w') 0 0 (hA E) := by
  refine Met.ofW (cc := cX13_newName) (maxL := 3) (ret := (Option.none : Option Jvm.ClassFile.FieldType)) (by decide) rfl ?_
  intro p e s m args below meth c s₁ B hml hv
  obtain ⟨rfl, hz, hP, hKs, hT, hb0⟩ := hv
  have C : CX p l e s m _ meth c cX13_newName 3 RX13 (Option.none : Option Jvm.ClassFile.FieldType) E := ⟨B.exec, B.bytes, hml, findClass_of_methodNamed B.named, fun w h => atoms_spec (ws := Cond.code yX13_newName cX13_newName 3 (Option.none : Option Jvm.ClassFile.FieldType) :: bt) B.pre w (List.mem_cons_of_mem _ h), hKs, hT, by rw [hz]; exact hb0, B.notSynchronized, B.returns⟩
  have hH : HQ E K z w s s.heap [] := ⟨hP, va_S.rf, hz⟩
  obtain ⟨hx, hb, hml, hown, hts, hKs, hT, hb0, hlocks, hret⟩ := id C
  have hl := lv_entry [rv E (some o), rv E a_1, .int a_2] (n := 3) (by simp [lg_len_nil, lg_len_i, lg_len_j, lg_len_q, lg_len_f, lg_len_d, lg_len_r])
  rw [lg_entry_eq]
  generalize (lg_sl [rv E (some o), rv E a_1, .int a_2] ++ List.replicate (3 - (lg_sl [rv E (some o), rv E a_1, .int a_2]).length) Slot.unset).toArray = ls at hl ⊢
  replace hl : lv_has ls 3 [(0, rv E (some o)), (1, rv E a_1), (2, .int a_2)] := by simpa only [lv_args, cat_q, cat_i, cat_j, reduceIte, Nat.reduceEqDiff, Nat.reduceAdd, Nat.zero_add] using hl
  generalize s.heap = H at hH ⊢
  unfold f_X13_newName at hf
  refine hl_aload_n hx hb dX13_newName_0 rfl (lv_at hl 0 rfl) ?_
  obtain ⟨q1, hq1, hf⟩ := bnd hf
  refine hcV_v hx hb hml hown hts hKs hT hb0 hH (As := []) (rest := []) (k_X13_needsName l E K H.size o w ho hq1) (gV m9_87 m9_89 ms_115 m1_16 m9_90) hd_X13_needsName ⟨Nat.le_of_ble_eq_true rfl, Nat.le_of_ble_eq_true rfl, rfl, rfl⟩ rfl ho rfl rfl rfl hl.1 rfl rc0 rfl dX13_newName_1 ⟨Nat.zero_le _, Nat.zero_le _⟩ (fun H locs hH => ?_)
  refine hl_aload_n hx hb dX13_newName_4 rfl (lv_at hl 0 rfl) ?_
  obtain ⟨q2, hq2, hf⟩ := bnd hf
  refine hcV_i hx hb hml hown hts hKs hT hb0 hH (As := []) (rest := []) (k_X13_fine l E K H.size o q1 ho hq2) (gV m9_47 m9_49 ms_105 m1_16 m9_50) hd_X13_fine ⟨Nat.le_of_ble_eq_true rfl, Nat.le_of_ble_eq_true rfl, rfl, rfl⟩ rfl ho rfl rfl rfl hl.1 rfl rc0 rfl dX13_newName_5 ⟨Nat.zero_le _, Nat.zero_le _⟩ (fun H locs hH => ?_)
  refine lv_if_ne (tgt := 12) hx hb dX13_newName_8 (by decide) (fun c3 => ?_) (fun c3 => ?_)
  · replace hf := (if_neg c3).symm.trans hf
    refine hl_aload_n hx hb dX13_newName_12 rfl (lv_at hl 0 rfl) ?_
    refine hl_aload_n hx hb dX13_newName_13 rfl (lv_at hl 0 rfl) ?_
    obtain ⟨q4, hq4, hf⟩ := bnd hf
    refine hcV_l hx hb hml hown hts hKs hT hb0 hH (As := []) (rest := [rv E (some o)]) (k_X13_nameHere l E K H.size o q2.2 ho hq4) (gV m9_91 m9_93 ms_116 m1_16 m9_94) hd_X13_nameHere ⟨Nat.le_of_ble_eq_true rfl, Nat.le_of_ble_eq_true rfl, rfl, rfl⟩ rfl ho rfl rfl rfl hl.1 rfl (rcV rc0) rfl dX13_newName_14 ⟨Nat.zero_le _, Nat.zero_le _⟩ (fun H locs hH => ?_)
    refine hl_aload_n hx hb dX13_newName_17 rfl (lv_at hl 1 rfl) ?_
    refine lv_iload_n hx hb dX13_newName_18 rfl (lv_at hl 2 rfl) ?_
    obtain ⟨q5, hq5, hf⟩ := bnd hf
    refine hcS_i hx hb hml hown hts hKs hT hb0 hH (As := [.long q4.1, rv E a_1, .int a_2]) (rest := [rv E (some o)]) (k_X13_placeOf l E K H.size q4.1 a_1 a_2 q4.2 hq5) (gS m9_97 m9_98 m1_16 m9_99) hs_X13_placeOf ⟨Nat.le_of_ble_eq_true rfl, Nat.le_of_ble_eq_true rfl, rfl, rfl⟩ hl.1 rfl (rcV rc0) rfl dX13_newName_19 ⟨Nat.zero_le _, Nat.zero_le _⟩ (fun H locs hH => ?_)
    refine lv_iconst (v := (-1)) hx hb dX13_newName_22 (by decide) ?_
    refine lv_icmp_ne (tgt := 30) hx hb dX13_newName_23 (by decide) (fun c6 => ?_) (fun c6 => ?_)
    · replace hf := (if_neg c6).symm.trans hf
      refine lv_iconst (v := 0) hx hb dX13_newName_30 (by decide) ?_
      refine lv_iconst (v := 3) hx hb dX13_newName_31 (by decide) ?_
      obtain ⟨q7, hq7, hf⟩ := bnd hf
      refine hcV_v hx hb hml hown hts hKs hT hb0 hH (As := [.int 0, .int 3]) (rest := []) (k_X13_needs l E K H.size o false 3 q5.2 ho hq7) (gV m9_67 m9_69 ms_110 m1_16 m9_70) hd_X13_needs ⟨Nat.le_of_ble_eq_true rfl, Nat.le_of_ble_eq_true rfl, rfl, rfl⟩ rfl ho rfl rfl rfl hl.1 rfl rc0 rfl dX13_newName_32 ⟨Nat.zero_le _, Nat.zero_le _⟩ (fun H locs hH => ?_)
      refine hl_aload_n hx hb dX13_newName_35 rfl (lv_at hl 0 rfl) ?_
      obtain ⟨q8, hq8, hf⟩ := bnd hf
      refine hcV_i hx hb hml hown hts hKs hT hb0 hH (As := []) (rest := []) (k_X13_fine l E K H.size o q7 ho hq8) (gV m9_47 m9_49 ms_105 m1_16 m9_50) hd_X13_fine ⟨Nat.le_of_ble_eq_true rfl, Nat.le_of_ble_eq_true rfl, rfl, rfl⟩ rfl ho rfl rfl rfl hl.1 rfl rc0 rfl dX13_newName_36 ⟨Nat.zero_le _, Nat.zero_le _⟩ (fun H locs hH => ?_)
      refine lv_if_eq (tgt := 49) hx hb dX13_newName_39 (by decide) (fun c9 => ?_) (fun c9 => ?_)
      · replace hf := (if_pos c9).symm.trans hf
        refine hl_aload_n hx hb dX13_newName_49 rfl (lv_at hl 0 rfl) ?_
        obtain ⟨q10, hq10, hf⟩ := bnd hf
        refine hcV_v hx hb hml hown hts hKs hT hb0 hH (As := []) (rest := []) (k_X13_goOn l E K H.size o q8.2 ho hq10) (gV m9_71 m9_73 ms_111 m1_16 m9_74) hd_X13_goOn ⟨Nat.le_of_ble_eq_true rfl, Nat.le_of_ble_eq_true rfl, rfl, rfl⟩ rfl ho rfl rfl rfl hl.1 rfl rc0 rfl dX13_newName_50 ⟨Nat.zero_le _, Nat.zero_le _⟩ (fun H locs hH => ?_)
        exact hw_vret hx hb hret hf hH hlocks dX13_newName_53
      · replace hf := (if_neg c9).symm.trans hf
        refine hl_aload_n hx hb dX13_newName_42 rfl (lv_at hl 1 rfl) ?_
        refine lv_iload_n hx hb dX13_newName_43 rfl (lv_at hl 2 rfl) ?_
        refine hl_aload_n hx hb dX13_newName_44 rfl (lv_at hl 0 rfl) ?_
        obtain ⟨q11, hq11, hf⟩ := bnd hf
        refine hcV_l hx hb hml hown hts hKs hT hb0 hH (As := []) (rest := [.int a_2, rv E a_1]) (k_X13_nameHere l E K H.size o q8.2 ho hq11) (gV m9_91 m9_93 ms_116 m1_16 m9_94) hd_X13_nameHere ⟨Nat.le_of_ble_eq_true rfl, Nat.le_of_ble_eq_true rfl, rfl, rfl⟩ rfl ho rfl rfl rfl hl.1 rfl (rcI (rcV rc0)) rfl dX13_newName_45 ⟨Nat.zero_le _, Nat.zero_le _⟩ (fun H locs hH => ?_)
        obtain ⟨a12, ha12, hf⟩ := bnd hf
        replace ha12 := cha_some ha12
        obtain ⟨j13, hj13, hf⟩ := bnd hf
        obtain ⟨w14, hw14, hf⟩ := bnd hf
        replace hw14 := Option.some.inj hw14
        refine hw_last (x := q11.1) hx hb hKs hH ha12.1 ha12.2 hj13 dX13_newName_48 (fun H locs hH => ?_)
        rw [hw14] at hH
        refine hl_aload_n hx hb dX13_newName_49 rfl (lv_at hl 0 rfl) ?_
        obtain ⟨q15, hq15, hf⟩ := bnd hf
        refine hcV_v hx hb hml hown hts hKs hT hb0 hH (As := []) (rest := []) (k_X13_goOn l E K H.size o w14 ho hq15) (gV m9_71 m9_73 ms_111 m1_16 m9_74) hd_X13_goOn ⟨Nat.le_of_ble_eq_true rfl, Nat.le_of_ble_eq_true rfl, rfl, rfl⟩ rfl ho rfl rfl rfl hl.1 rfl rc0 rfl dX13_newName_50 ⟨Nat.zero_le _, Nat.zero_le _⟩ (fun H locs hH => ?_)
        exact hw_vret hx hb hret hf hH hlocks dX13_newName_53
    · replace hf := (if_pos c6).symm.trans hf
      refine lv_iconst (v := 1) hx hb dX13_newName_26 (by decide) ?_
      refine lv_goto (tgt := 31) hx hb dX13_newName_27 (by decide) ?_
      refine lv_iconst (v := 3) hx hb dX13_newName_31 (by decide) ?_
      obtain ⟨q16, hq16, hf⟩ := bnd hf
      refine hcV_v hx hb hml hown hts hKs hT hb0 hH (As := [.int 1, .int 3]) (rest := []) (k_X13_needs l E K H.size o true 3 q5.2 ho hq16) (gV m9_67 m9_69 ms_110 m1_16 m9_70) hd_X13_needs ⟨Nat.le_of_ble_eq_true rfl, Nat.le_of_ble_eq_true rfl, rfl, rfl⟩ rfl ho rfl rfl rfl hl.1 rfl rc0 rfl dX13_newName_32 ⟨Nat.zero_le _, Nat.zero_le _⟩ (fun H locs hH => ?_)
      refine hl_aload_n hx hb dX13_newName_35 rfl (lv_at hl 0 rfl) ?_
      obtain ⟨q17, hq17, hf⟩ := bnd hf
      refine hcV_i hx hb hml hown hts hKs hT hb0 hH (As := []) (rest := []) (k_X13_fine l E K H.size o q16 ho hq17) (gV m9_47 m9_49 ms_105 m1_16 m9_50) hd_X13_fine ⟨Nat.le_of_ble_eq_true rfl, Nat.le_of_ble_eq_true rfl, rfl, rfl⟩ rfl ho rfl rfl rfl hl.1 rfl rc0 rfl dX13_newName_36 ⟨Nat.zero_le _, Nat.zero_le _⟩ (fun H locs hH => ?_)
      refine lv_if_eq (tgt := 49) hx hb dX13_newName_39 (by decide) (fun c18 => ?_) (fun c18 => ?_)
      · replace hf := (if_pos c18).symm.trans hf
        refine hl_aload_n hx hb dX13_newName_49 rfl (lv_at hl 0 rfl) ?_
        obtain ⟨q19, hq19, hf⟩ := bnd hf
        refine hcV_v hx hb hml hown hts hKs hT hb0 hH (As := []) (rest := []) (k_X13_goOn l E K H.size o q17.2 ho hq19) (gV m9_71 m9_73 ms_111 m1_16 m9_74) hd_X13_goOn ⟨Nat.le_of_ble_eq_true rfl, Nat.le_of_ble_eq_true rfl, rfl, rfl⟩ rfl ho rfl rfl rfl hl.1 rfl rc0 rfl dX13_newName_50 ⟨Nat.zero_le _, Nat.zero_le _⟩ (fun H locs hH => ?_)
        exact hw_vret hx hb hret hf hH hlocks dX13_newName_53
      · replace hf := (if_neg c18).symm.trans hf
        refine hl_aload_n hx hb dX13_newName_42 rfl (lv_at hl 1 rfl) ?_
        refine lv_iload_n hx hb dX13_newName_43 rfl (lv_at hl 2 rfl) ?_
        refine hl_aload_n hx hb dX13_newName_44 rfl (lv_at hl 0 rfl) ?_
        obtain ⟨q20, hq20, hf⟩ := bnd hf
        refine hcV_l hx hb hml hown hts hKs hT hb0 hH (As := []) (rest := [.int a_2, rv E a_1]) (k_X13_nameHere l E K H.size o q17.2 ho hq20) (gV m9_91 m9_93 ms_116 m1_16 m9_94) hd_X13_nameHere ⟨Nat.le_of_ble_eq_true rfl, Nat.le_of_ble_eq_true rfl, rfl, rfl⟩ rfl ho rfl rfl rfl hl.1 rfl (rcI (rcV rc0)) rfl dX13_newName_45 ⟨Nat.zero_le _, Nat.zero_le _⟩ (fun H locs hH => ?_)
        obtain ⟨a21, ha21, hf⟩ := bnd hf
        replace ha21 := cha_some ha21
        obtain ⟨j22, hj22, hf⟩ := bnd hf
        obtain ⟨w23, hw23, hf⟩ := bnd hf
        replace hw23 := Option.some.inj hw23
        refine hw_last (x := q20.1) hx hb hKs hH ha21.1 ha21.2 hj22 dX13_newName_48 (fun H locs hH => ?_)
        rw [hw23] at hH
        refine hl_aload_n hx hb dX13_newName_49 rfl (lv_at hl 0 rfl) ?_
        obtain ⟨q24, hq24, hf⟩ := bnd hf
        refine hcV_v hx hb hml hown hts hKs hT hb0 hH (As := []) (rest := []) (k_X13_goOn l E K H.size o w23 ho hq24) (gV m9_71 m9_73 ms_111 m1_16 m9_74) hd_X13_goOn ⟨Nat.le_of_ble_eq_true rfl, Nat.le_of_ble_eq_true rfl, rfl, rfl⟩ rfl ho rfl rfl rfl hl.1 rfl rc0 rfl dX13_newName_50 ⟨Nat.zero_le _, Nat.zero_le _⟩ (fun H locs hH => ?_)
        exact hw_vret hx hb hret hf hH hlocks dX13_newName_53
  · replace hf := (if_pos c3).symm.trans hf
    exact hw_vret hx hb hret hf hH hlocks dX13_newName_11

theorem dX13_begins_0 : decode cX13_begins 0 = .ok (.aload_n 0, 1) := by decide +kernel
theorem dX13_begins_1 : decode cX13_begins 1 = .ok (.iload_n 1, 1) := by decide +kernel
theorem dX13_begins_2 : decode cX13_begins 2 = .ok (.iload_n 2, 1) := by decide +kernel
theorem dX13_begins_3 : decode cX13_begins 3 = .ok (.if_icmp .ge 7, 3) := by decide +kernel
theorem dX13_begins_6 : decode cX13_begins 6 = .ok (.iconst 1, 1) := by decide +kernel
theorem dX13_begins_7 : decode cX13_begins 7 = .ok (.goto 4, 3) := by decide +kernel
theorem dX13_begins_10 : decode cX13_begins 10 = .ok (.iconst 0, 1) := by decide +kernel
theorem dX13_begins_11 : decode cX13_begins 11 = .ok (.iconst 4, 1) := by decide +kernel
theorem dX13_begins_12 : decode cX13_begins 12 = .ok (.invokevirtual 392, 3) := by decide +kernel
theorem dX13_begins_15 : decode cX13_begins 15 = .ok (.aload_n 0, 1) := by decide +kernel
theorem dX13_begins_16 : decode cX13_begins 16 = .ok (.invokevirtual 399, 3) := by decide +kernel
theorem dX13_begins_19 : decode cX13_begins 19 = .ok (.aload_n 0, 1) := by decide +kernel
theorem dX13_begins_20 : decode cX13_begins 20 = .ok (.invokevirtual 379, 3) := by decide +kernel
theorem dX13_begins_23 : decode cX13_begins 23 = .ok (.ireturn, 1) := by decide +kernel
theorem hd_X13_begins : yX13_begins.cls = RX13 ∧ yX13_begins.cls ≠ "java/lang/invoke/MethodHandle" ∧ yX13_begins.cls ≠ "java/lang/invoke/VarHandle" ∧ (parseMethodDescriptor yX13_begins.desc).map (fun d => d.parameters.length) = some 2 := by decide +kernel
theorem hs_X13_begins : yX13_begins.cls ≠ "java/lang/invoke/MethodHandle" ∧ yX13_begins.cls ≠ "java/lang/invoke/VarHandle" ∧ (parseMethodDescriptor yX13_begins.desc).map (fun d => d.parameters.length) = some 2 := by decide +kernel
set_option maxHeartbeats 4000000 in
set_option maxRecDepth 100000 in
theorem k_X13_begins (l : Launch) (E : Ev) (K : Kd) (z : Nat) (o : Nat) (a_1 : Int32) (a_2 : Int32) (w : Wd) (ho : K o = some (11, 0)) {r : Bool} {w' : Wd} (hf : f_X13_begins K o a_1 a_2 w = some (r, w')) : Met l yX13_begins (Cond.code yX13_begins cX13_begins 3 (Option.some Jvm.ClassFile.FieldType.boolean) :: bt) ({ frames := 7, cells := 0, slots := 0, locals := 149 } : Room) (va_Pc [rv E (some o), .int a_1, .int a_2] (HB E K w z)) (QI E K z w' (b2i r)) 0 0 (hA E) := by
  refine Met.ofW (cc := cX13_begins) (maxL := 3) (ret := (Option.some Jvm.ClassFile.FieldType.boolean)) (by decide) rfl ?_
  intro p e s m args below meth c s₁ B hml hv
  obtain ⟨rfl, hz, hP, hKs, hT, hb0⟩ := hv
  have C : CX p l e s m _ meth c cX13_begins 3 RX13 (Option.some Jvm.ClassFile.FieldType.boolean) E := ⟨B.exec, B.bytes, hml, findClass_of_methodNamed B.named, fun w h => atoms_spec (ws := Cond.code yX13_begins cX13_begins 3 (Option.some Jvm.ClassFile.FieldType.boolean) :: bt) B.pre w (List.mem_cons_of_mem _ h), hKs, hT, by rw [hz]; exact hb0, B.notSynchronized, B.returns⟩
  have hH : HQ E K z w s s.heap [] := ⟨hP, va_S.rf, hz⟩
  obtain ⟨hx, hb, hml, hown, hts, hKs, hT, hb0, hlocks, hret⟩ := id C
  have hl := lv_entry [rv E (some o), .int a_1, .int a_2] (n := 3) (by simp [lg_len_nil, lg_len_i, lg_len_j, lg_len_q, lg_len_f, lg_len_d, lg_len_r])
  rw [lg_entry_eq]
  generalize (lg_sl [rv E (some o), .int a_1, .int a_2] ++ List.replicate (3 - (lg_sl [rv E (some o), .int a_1, .int a_2]).length) Slot.unset).toArray = ls at hl ⊢
  replace hl : lv_has ls 3 [(0, rv E (some o)), (1, .int a_1), (2, .int a_2)] := by simpa only [lv_args, cat_q, cat_i, cat_j, reduceIte, Nat.reduceEqDiff, Nat.reduceAdd, Nat.zero_add] using hl
  generalize s.heap = H at hH ⊢
  unfold f_X13_begins at hf
  refine hl_aload_n hx hb dX13_begins_0 rfl (lv_at hl 0 rfl) ?_
  refine lv_iload_n hx hb dX13_begins_1 rfl (lv_at hl 1 rfl) ?_
  refine lv_iload_n hx hb dX13_begins_2 rfl (lv_at hl 2 rfl) ?_
  refine lv_icmp_ge (tgt := 10) hx hb dX13_begins_3 (by decide) (fun c1 => ?_) (fun c1 => ?_)
  · replace hf := (if_pos c1).symm.trans hf
    refine lv_iconst (v := 0) hx hb dX13_begins_10 (by decide) ?_
    refine lv_iconst (v := 4) hx hb dX13_begins_11 (by decide) ?_
    obtain ⟨q2, hq2, hf⟩ := bnd hf
    refine hcV_v hx hb hml hown hts hKs hT hb0 hH (As := [.int 0, .int 4]) (rest := []) (k_X13_needs l E K H.size o false 4 w ho hq2) (gV m9_67 m9_69 ms_110 m1_16 m9_70) hd_X13_needs ⟨Nat.le_of_ble_eq_true rfl, Nat.le_of_ble_eq_true rfl, rfl, rfl⟩ rfl ho rfl rfl rfl hl.1 rfl rc0 rfl dX13_begins_12 ⟨Nat.zero_le _, Nat.zero_le _⟩ (fun H locs hH => ?_)
    refine hl_aload_n hx hb dX13_begins_15 rfl (lv_at hl 0 rfl) ?_
    obtain ⟨q3, hq3, hf⟩ := bnd hf
    refine hcV_v hx hb hml hown hts hKs hT hb0 hH (As := []) (rest := []) (k_X13_goOn l E K H.size o q2 ho hq3) (gV m9_71 m9_73 ms_111 m1_16 m9_74) hd_X13_goOn ⟨Nat.le_of_ble_eq_true rfl, Nat.le_of_ble_eq_true rfl, rfl, rfl⟩ rfl ho rfl rfl rfl hl.1 rfl rc0 rfl dX13_begins_16 ⟨Nat.zero_le _, Nat.zero_le _⟩ (fun H locs hH => ?_)
    refine hl_aload_n hx hb dX13_begins_19 rfl (lv_at hl 0 rfl) ?_
    obtain ⟨q4, hq4, hf⟩ := bnd hf
    refine hcV_i hx hb hml hown hts hKs hT hb0 hH (As := []) (rest := []) (k_X13_fine l E K H.size o q3 ho hq4) (gV m9_47 m9_49 ms_105 m1_16 m9_50) hd_X13_fine ⟨Nat.le_of_ble_eq_true rfl, Nat.le_of_ble_eq_true rfl, rfl, rfl⟩ rfl ho rfl rfl rfl hl.1 rfl rc0 rfl dX13_begins_20 ⟨Nat.zero_le _, Nat.zero_le _⟩ (fun H locs hH => ?_)
    exact hw_zret hx hb hret rfl hf hH hlocks dX13_begins_23
  · replace hf := (if_neg c1).symm.trans hf
    refine lv_iconst (v := 1) hx hb dX13_begins_6 (by decide) ?_
    refine lv_goto (tgt := 11) hx hb dX13_begins_7 (by decide) ?_
    refine lv_iconst (v := 4) hx hb dX13_begins_11 (by decide) ?_
    obtain ⟨q5, hq5, hf⟩ := bnd hf
    refine hcV_v hx hb hml hown hts hKs hT hb0 hH (As := [.int 1, .int 4]) (rest := []) (k_X13_needs l E K H.size o true 4 w ho hq5) (gV m9_67 m9_69 ms_110 m1_16 m9_70) hd_X13_needs ⟨Nat.le_of_ble_eq_true rfl, Nat.le_of_ble_eq_true rfl, rfl, rfl⟩ rfl ho rfl rfl rfl hl.1 rfl rc0 rfl dX13_begins_12 ⟨Nat.zero_le _, Nat.zero_le _⟩ (fun H locs hH => ?_)
    refine hl_aload_n hx hb dX13_begins_15 rfl (lv_at hl 0 rfl) ?_
    obtain ⟨q6, hq6, hf⟩ := bnd hf
    refine hcV_v hx hb hml hown hts hKs hT hb0 hH (As := []) (rest := []) (k_X13_goOn l E K H.size o q5 ho hq6) (gV m9_71 m9_73 ms_111 m1_16 m9_74) hd_X13_goOn ⟨Nat.le_of_ble_eq_true rfl, Nat.le_of_ble_eq_true rfl, rfl, rfl⟩ rfl ho rfl rfl rfl hl.1 rfl rc0 rfl dX13_begins_16 ⟨Nat.zero_le _, Nat.zero_le _⟩ (fun H locs hH => ?_)
    refine hl_aload_n hx hb dX13_begins_19 rfl (lv_at hl 0 rfl) ?_
    obtain ⟨q7, hq7, hf⟩ := bnd hf
    refine hcV_i hx hb hml hown hts hKs hT hb0 hH (As := []) (rest := []) (k_X13_fine l E K H.size o q6 ho hq7) (gV m9_47 m9_49 ms_105 m1_16 m9_50) hd_X13_fine ⟨Nat.le_of_ble_eq_true rfl, Nat.le_of_ble_eq_true rfl, rfl, rfl⟩ rfl ho rfl rfl rfl hl.1 rfl rc0 rfl dX13_begins_20 ⟨Nat.zero_le _, Nat.zero_le _⟩ (fun H locs hH => ?_)
    exact hw_zret hx hb hret rfl hf hH hlocks dX13_begins_23

theorem dX13_readsHoliday_0 : decode cX13_readsHoliday 0 = .ok (.aload_n 0, 1) := by decide +kernel
theorem dX13_readsHoliday_1 : decode cX13_readsHoliday 1 = .ok (.getfield 19, 3) := by decide +kernel
theorem dX13_readsHoliday_4 : decode cX13_readsHoliday 4 = .ok (.iconst 1, 1) := by decide +kernel
theorem dX13_readsHoliday_5 : decode cX13_readsHoliday 5 = .ok (.iaload, 1) := by decide +kernel
theorem dX13_readsHoliday_6 : decode cX13_readsHoliday 6 = .ok (.istore_n 1, 1) := by decide +kernel
theorem dX13_readsHoliday_7 : decode cX13_readsHoliday 7 = .ok (.aload_n 0, 1) := by decide +kernel
theorem dX13_readsHoliday_8 : decode cX13_readsHoliday 8 = .ok (.iload_n 1, 1) := by decide +kernel
theorem dX13_readsHoliday_9 : decode cX13_readsHoliday 9 = .ok (.bipush 20, 2) := by decide +kernel
theorem dX13_readsHoliday_11 : decode cX13_readsHoliday 11 = .ok (.invokevirtual 423, 3) := by decide +kernel
theorem dX13_readsHoliday_14 : decode cX13_readsHoliday 14 = .ok (.ifCond .ne 4, 3) := by decide +kernel
theorem dX13_readsHoliday_17 : decode cX13_readsHoliday 17 = .ok (.return_, 1) := by decide +kernel
theorem dX13_readsHoliday_18 : decode cX13_readsHoliday 18 = .ok (.aload_n 0, 1) := by decide +kernel
theorem dX13_readsHoliday_19 : decode cX13_readsHoliday 19 = .ok (.iconst 0, 1) := by decide +kernel
theorem dX13_readsHoliday_20 : decode cX13_readsHoliday 20 = .ok (.sipush 599, 3) := by decide +kernel
theorem dX13_readsHoliday_23 : decode cX13_readsHoliday 23 = .ok (.invokevirtual 396, 3) := by decide +kernel
theorem dX13_readsHoliday_26 : decode cX13_readsHoliday 26 = .ok (.istore_n 2, 1) := by decide +kernel
theorem dX13_readsHoliday_27 : decode cX13_readsHoliday 27 = .ok (.iconst 0, 1) := by decide +kernel
theorem dX13_readsHoliday_28 : decode cX13_readsHoliday 28 = .ok (.istore_n 3, 1) := by decide +kernel
theorem dX13_readsHoliday_29 : decode cX13_readsHoliday 29 = .ok (.iload_n 3, 1) := by decide +kernel
theorem dX13_readsHoliday_30 : decode cX13_readsHoliday 30 = .ok (.iload_n 1, 1) := by decide +kernel
theorem dX13_readsHoliday_31 : decode cX13_readsHoliday 31 = .ok (.if_icmp .ge 38, 3) := by decide +kernel
theorem dX13_readsHoliday_34 : decode cX13_readsHoliday 34 = .ok (.aload_n 0, 1) := by decide +kernel
theorem dX13_readsHoliday_35 : decode cX13_readsHoliday 35 = .ok (.invokevirtual 379, 3) := by decide +kernel
theorem dX13_readsHoliday_38 : decode cX13_readsHoliday 38 = .ok (.ifCond .eq 31, 3) := by decide +kernel
theorem dX13_readsHoliday_41 : decode cX13_readsHoliday 41 = .ok (.aload_n 0, 1) := by decide +kernel
theorem dX13_readsHoliday_42 : decode cX13_readsHoliday 42 = .ok (.aload_n 0, 1) := by decide +kernel
theorem dX13_readsHoliday_43 : decode cX13_readsHoliday 43 = .ok (.getfield 19, 3) := by decide +kernel
theorem dX13_readsHoliday_46 : decode cX13_readsHoliday 46 = .ok (.iconst 2, 1) := by decide +kernel
theorem dX13_readsHoliday_47 : decode cX13_readsHoliday 47 = .ok (.iload_n 3, 1) := by decide +kernel
theorem dX13_readsHoliday_48 : decode cX13_readsHoliday 48 = .ok (.iadd, 1) := by decide +kernel
theorem dX13_readsHoliday_49 : decode cX13_readsHoliday 49 = .ok (.iaload, 1) := by decide +kernel
theorem dX13_readsHoliday_50 : decode cX13_readsHoliday 50 = .ok (.iload_n 2, 1) := by decide +kernel
theorem dX13_readsHoliday_51 : decode cX13_readsHoliday 51 = .ok (.if_icmp .eq 7, 3) := by decide +kernel
theorem dX13_readsHoliday_54 : decode cX13_readsHoliday 54 = .ok (.iconst 1, 1) := by decide +kernel
theorem dX13_readsHoliday_55 : decode cX13_readsHoliday 55 = .ok (.goto 4, 3) := by decide +kernel
theorem dX13_readsHoliday_58 : decode cX13_readsHoliday 58 = .ok (.iconst 0, 1) := by decide +kernel
theorem dX13_readsHoliday_59 : decode cX13_readsHoliday 59 = .ok (.iconst 3, 1) := by decide +kernel
theorem dX13_readsHoliday_60 : decode cX13_readsHoliday 60 = .ok (.invokevirtual 392, 3) := by decide +kernel
theorem dX13_readsHoliday_63 : decode cX13_readsHoliday 63 = .ok (.iinc 3 1, 3) := by decide +kernel
theorem dX13_readsHoliday_66 : decode cX13_readsHoliday 66 = .ok (.goto (-37), 3) := by decide +kernel
theorem dX13_readsHoliday_69 : decode cX13_readsHoliday 69 = .ok (.aload_n 0, 1) := by decide +kernel
theorem dX13_readsHoliday_70 : decode cX13_readsHoliday 70 = .ok (.invokevirtual 399, 3) := by decide +kernel
theorem dX13_readsHoliday_73 : decode cX13_readsHoliday 73 = .ok (.aload_n 0, 1) := by decide +kernel
theorem dX13_readsHoliday_74 : decode cX13_readsHoliday 74 = .ok (.invokevirtual 379, 3) := by decide +kernel
theorem dX13_readsHoliday_77 : decode cX13_readsHoliday 77 = .ok (.ifCond .ne 4, 3) := by decide +kernel
theorem dX13_readsHoliday_80 : decode cX13_readsHoliday 80 = .ok (.return_, 1) := by decide +kernel
theorem dX13_readsHoliday_81 : decode cX13_readsHoliday 81 = .ok (.aload_n 0, 1) := by decide +kernel
theorem dX13_readsHoliday_82 : decode cX13_readsHoliday 82 = .ok (.getfield 19, 3) := by decide +kernel
theorem dX13_readsHoliday_85 : decode cX13_readsHoliday 85 = .ok (.iconst 2, 1) := by decide +kernel
theorem dX13_readsHoliday_86 : decode cX13_readsHoliday 86 = .ok (.iload_n 1, 1) := by decide +kernel
theorem dX13_readsHoliday_87 : decode cX13_readsHoliday 87 = .ok (.iadd, 1) := by decide +kernel
theorem dX13_readsHoliday_88 : decode cX13_readsHoliday 88 = .ok (.iload_n 2, 1) := by decide +kernel
theorem dX13_readsHoliday_89 : decode cX13_readsHoliday 89 = .ok (.iastore, 1) := by decide +kernel
theorem dX13_readsHoliday_90 : decode cX13_readsHoliday 90 = .ok (.aload_n 0, 1) := by decide +kernel
theorem dX13_readsHoliday_91 : decode cX13_readsHoliday 91 = .ok (.getfield 19, 3) := by decide +kernel
theorem dX13_readsHoliday_94 : decode cX13_readsHoliday 94 = .ok (.iconst 1, 1) := by decide +kernel
theorem dX13_readsHoliday_95 : decode cX13_readsHoliday 95 = .ok (.iload_n 1, 1) := by decide +kernel
theorem dX13_readsHoliday_96 : decode cX13_readsHoliday 96 = .ok (.iconst 1, 1) := by decide +kernel
theorem dX13_readsHoliday_97 : decode cX13_readsHoliday 97 = .ok (.iadd, 1) := by decide +kernel
theorem dX13_readsHoliday_98 : decode cX13_readsHoliday 98 = .ok (.iastore, 1) := by decide +kernel
theorem dX13_readsHoliday_99 : decode cX13_readsHoliday 99 = .ok (.return_, 1) := by decide +kernel
theorem hd_X13_readsHoliday : yX13_readsHoliday.cls = RX13 ∧ yX13_readsHoliday.cls ≠ "java/lang/invoke/MethodHandle" ∧ yX13_readsHoliday.cls ≠ "java/lang/invoke/VarHandle" ∧ (parseMethodDescriptor yX13_readsHoliday.desc).map (fun d => d.parameters.length) = some 0 := by decide +kernel
theorem hs_X13_readsHoliday : yX13_readsHoliday.cls ≠ "java/lang/invoke/MethodHandle" ∧ yX13_readsHoliday.cls ≠ "java/lang/invoke/VarHandle" ∧ (parseMethodDescriptor yX13_readsHoliday.desc).map (fun d => d.parameters.length) = some 0 := by decide +kernel
set_option maxHeartbeats 4000000 in
set_option maxRecDepth 100000 in
theorem l_X13_readsHoliday_L29 (C : CX p l e s m args meth c cX13_readsHoliday 4 RX13 (Option.none : Option Jvm.ClassFile.FieldType) E) {o : Nat} (ho : K o = some (11, 0)) {w' : Wd} (k : Int32 → Int32 → Int32 → Wd → Option Wd) (hk : ∀ (v1_29 : Int32) (v2_29 : Int32) (v3_29 : Int32) (w : Wd) (H : Heap) (locs : List Loc) (ls : Array Slot), HQ E K z w s H locs → lv_has ls 4 [(1, .int v1_29), (2, .int v2_29), (3, .int v3_29), (0, rv E (some o))] → k v1_29 v2_29 v3_29 w = some w' → W p l e ({ frames := 8, cells := 0, slots := 0, locals := 171 } : Room) s m args below meth c H locs 0 0 (MQ below (QV E K z w') args s 0 0 (hA E)) (F0 m 69 ls [])) : ∀ (n : Nat) (v1_29 : Int32) (v2_29 : Int32) (v3_29 : Int32) (w : Wd) (H : Heap) (locs : List Loc) (ls : Array Slot), HQ E K z w s H locs → lv_has ls 4 [(1, .int v1_29), (2, .int v2_29), (3, .int v3_29), (0, rv E (some o))] → f_X13_readsHoliday_L29 K o k n v1_29 v2_29 v3_29 w = some w' → W p l e ({ frames := 8, cells := 0, slots := 0, locals := 171 } : Room) s m args below meth c H locs 0 0 (MQ below (QV E K z w') args s 0 0 (hA E)) (F0 m 29 ls []) := by
  obtain ⟨hx, hb, hml, hown, hts, hKs, hT, hb0, hlocks, hret⟩ := id C
  intro n
  induction n with
  | zero =>
    intro v1_29 v2_29 v3_29 w H locs ls hH hl hf
    cases hf
  | succ n ih =>
    intro v1_29 v2_29 v3_29 w H locs ls hH hl hf
    rw [f_X13_readsHoliday_L29] at hf
    refine lv_iload_n hx hb dX13_readsHoliday_29 rfl (lv_at hl 2 rfl) ?_
    refine lv_iload_n hx hb dX13_readsHoliday_30 rfl (lv_at hl 0 rfl) ?_
    refine lv_icmp_ge (tgt := 69) hx hb dX13_readsHoliday_31 (by decide) (fun c7 => ?_) (fun c7 => ?_)
    · replace hf := (if_pos c7).symm.trans hf
      exact hk v1_29 v2_29 v3_29 _ _ _ _ hH (lv_sub hl [0, 1, 2, 3] rfl) hf
    · replace hf := (if_neg c7).symm.trans hf
      refine hl_aload_n hx hb dX13_readsHoliday_34 rfl (lv_at hl 3 rfl) ?_
      obtain ⟨q8, hq8, hf⟩ := bnd hf
      refine hcV_i hx hb hml hown hts hKs hT hb0 hH (As := []) (rest := []) (k_X13_fine l E K H.size o w ho hq8) (gV m9_47 m9_49 ms_105 m1_16 m9_50) hd_X13_fine ⟨Nat.le_of_ble_eq_true rfl, Nat.le_of_ble_eq_true rfl, rfl, rfl⟩ rfl ho rfl rfl rfl hl.1 rfl rc0 rfl dX13_readsHoliday_35 ⟨Nat.zero_le _, Nat.zero_le _⟩ (fun H locs hH => ?_)
      refine lv_if_eq (tgt := 69) hx hb dX13_readsHoliday_38 (by decide) (fun c9 => ?_) (fun c9 => ?_)
      · replace hf := (if_pos c9).symm.trans hf
        exact hk v1_29 v2_29 v3_29 _ _ _ _ hH (lv_sub hl [0, 1, 2, 3] rfl) hf
      · replace hf := (if_neg c9).symm.trans hf
        refine hl_aload_n hx hb dX13_readsHoliday_41 rfl (lv_at hl 3 rfl) ?_
        refine hl_aload_n hx hb dX13_readsHoliday_42 rfl (lv_at hl 3 rfl) ?_
        refine g13_4 hx hb hts hown hKs hH rfl ho m6_186 dX13_readsHoliday_43 ?_
        refine lv_iconst (v := 2) hx hb dX13_readsHoliday_46 (by decide) ?_
        refine lv_iload_n hx hb dX13_readsHoliday_47 rfl (lv_at hl 2 rfl) ?_
        refine lv_iadd hx hb dX13_readsHoliday_48 ?_
        obtain ⟨a10, ha10, hf⟩ := bnd hf
        replace ha10 := cha_some ha10
        obtain ⟨j11, hj11, hf⟩ := bnd hf
        refine hw_iald hx hb hKs hH ha10.1 ha10.2 hj11 dX13_readsHoliday_49 ?_
        refine lv_iload_n hx hb dX13_readsHoliday_50 rfl (lv_at hl 1 rfl) ?_
        refine lv_icmp_eq (tgt := 58) hx hb dX13_readsHoliday_51 (by decide) (fun c12 => ?_) (fun c12 => ?_)
        · replace hf := (if_pos c12).symm.trans hf
          refine lv_iconst (v := 0) hx hb dX13_readsHoliday_58 (by decide) ?_
          refine lv_iconst (v := 3) hx hb dX13_readsHoliday_59 (by decide) ?_
          obtain ⟨q13, hq13, hf⟩ := bnd hf
          refine hcV_v hx hb hml hown hts hKs hT hb0 hH (As := [.int 0, .int 3]) (rest := []) (k_X13_needs l E K H.size o false 3 q8.2 ho hq13) (gV m9_67 m9_69 ms_110 m1_16 m9_70) hd_X13_needs ⟨Nat.le_of_ble_eq_true rfl, Nat.le_of_ble_eq_true rfl, rfl, rfl⟩ rfl ho rfl rfl rfl hl.1 rfl rc0 rfl dX13_readsHoliday_60 ⟨Nat.zero_le _, Nat.zero_le _⟩ (fun H locs hH => ?_)
          refine lv_iinc (v := (v3_29 + 1)) (lv' := [(3, .int ((v3_29 + 1))), (1, .int v1_29), (2, .int v2_29), (0, rv E (some o))]) hx hb dX13_readsHoliday_63 hl (k := 2) rfl rfl (by decide) rfl (fun ls hl => ?_)
          refine lv_goto (tgt := 29) hx hb dX13_readsHoliday_66 (by decide) ?_
          exact ih v1_29 v2_29 (v3_29 + 1) _ _ _ _ hH (lv_sub hl [1, 2, 0, 3] rfl) hf
        · replace hf := (if_neg c12).symm.trans hf
          refine lv_iconst (v := 1) hx hb dX13_readsHoliday_54 (by decide) ?_
          refine lv_goto (tgt := 59) hx hb dX13_readsHoliday_55 (by decide) ?_
          refine lv_iconst (v := 3) hx hb dX13_readsHoliday_59 (by decide) ?_
          obtain ⟨q14, hq14, hf⟩ := bnd hf
          refine hcV_v hx hb hml hown hts hKs hT hb0 hH (As := [.int 1, .int 3]) (rest := []) (k_X13_needs l E K H.size o true 3 q8.2 ho hq14) (gV m9_67 m9_69 ms_110 m1_16 m9_70) hd_X13_needs ⟨Nat.le_of_ble_eq_true rfl, Nat.le_of_ble_eq_true rfl, rfl, rfl⟩ rfl ho rfl rfl rfl hl.1 rfl rc0 rfl dX13_readsHoliday_60 ⟨Nat.zero_le _, Nat.zero_le _⟩ (fun H locs hH => ?_)
          refine lv_iinc (v := (v3_29 + 1)) (lv' := [(3, .int ((v3_29 + 1))), (1, .int v1_29), (2, .int v2_29), (0, rv E (some o))]) hx hb dX13_readsHoliday_63 hl (k := 2) rfl rfl (by decide) rfl (fun ls hl => ?_)
          refine lv_goto (tgt := 29) hx hb dX13_readsHoliday_66 (by decide) ?_
          exact ih v1_29 v2_29 (v3_29 + 1) _ _ _ _ hH (lv_sub hl [1, 2, 0, 3] rfl) hf
set_option maxHeartbeats 4000000 in
set_option maxRecDepth 100000 in
theorem k_X13_readsHoliday (l : Launch) (E : Ev) (K : Kd) (z : Nat) (o : Nat) (w : Wd) (ho : K o = some (11, 0)) {w' : Wd} (hf : f_X13_readsHoliday K o w = some w') : Met l yX13_readsHoliday (Cond.code yX13_readsHoliday cX13_readsHoliday 4 (Option.none : Option Jvm.ClassFile.FieldType) :: bt) ({ frames := 8, cells := 0, slots := 0, locals := 171 } : Room) (va_Pc [rv E (some o)] (HB E K w z)) (QV E K z w') 0 0 (hA E) := by
  refine Met.ofW (cc := cX13_readsHoliday) (maxL := 4) (ret := (Option.none : Option Jvm.ClassFile.FieldType)) (by decide) rfl ?_
  intro p e s m args below meth c s₁ B hml hv
  obtain ⟨rfl, hz, hP, hKs, hT, hb0⟩ := hv
  have C : CX p l e s m _ meth c cX13_readsHoliday 4 RX13 (Option.none : Option Jvm.ClassFile.FieldType) E := ⟨B.exec, B.bytes, hml, findClass_of_methodNamed B.named, fun w h => atoms_spec (ws := Cond.code yX13_readsHoliday cX13_readsHoliday 4 (Option.none : Option Jvm.ClassFile.FieldType) :: bt) B.pre w (List.mem_cons_of_mem _ h), hKs, hT, by rw [hz]; exact hb0, B.notSynchronized, B.returns⟩
  have hH : HQ E K z w s s.heap [] := ⟨hP, va_S.rf, hz⟩
  obtain ⟨hx, hb, hml, hown, hts, hKs, hT, hb0, hlocks, hret⟩ := id C
  have hl := lv_entry [rv E (some o)] (n := 4) (by simp [lg_len_nil, lg_len_i, lg_len_j, lg_len_q, lg_len_f, lg_len_d, lg_len_r])
  rw [lg_entry_eq]
  generalize (lg_sl [rv E (some o)] ++ List.replicate (4 - (lg_sl [rv E (some o)]).length) Slot.unset).toArray = ls at hl ⊢
  replace hl : lv_has ls 4 [(0, rv E (some o))] := by simpa only [lv_args, cat_q, cat_i, cat_j, reduceIte, Nat.reduceEqDiff, Nat.reduceAdd, Nat.zero_add] using hl
  generalize s.heap = H at hH ⊢
  unfold f_X13_readsHoliday at hf
  refine hl_aload_n hx hb dX13_readsHoliday_0 rfl (lv_at hl 0 rfl) ?_
  refine g13_4 hx hb hts hown hKs hH rfl ho m6_186 dX13_readsHoliday_1 ?_
  refine lv_iconst (v := 1) hx hb dX13_readsHoliday_4 (by decide) ?_
  obtain ⟨a1, ha1, hf⟩ := bnd hf
  replace ha1 := cha_some ha1
  obtain ⟨j2, hj2, hf⟩ := bnd hf
  refine hw_iald hx hb hKs hH ha1.1 ha1.2 hj2 dX13_readsHoliday_5 ?_
  refine lv_istore_n (lv' := [(1, .int ((aI w a1.1 j2))), (0, rv E (some o))]) hx hb dX13_readsHoliday_6 rfl hl (by decide) rfl (fun ls hl => ?_)
  refine hl_aload_n hx hb dX13_readsHoliday_7 rfl (lv_at hl 1 rfl) ?_
  refine lv_iload_n hx hb dX13_readsHoliday_8 rfl (lv_at hl 0 rfl) ?_
  refine lv_bipush (v := 20) hx hb dX13_readsHoliday_9 (by decide) ?_
  obtain ⟨q3, hq3, hf⟩ := bnd hf
  refine hcV_i hx hb hml hown hts hKs hT hb0 hH (As := [.int ((aI w a1.1 j2)), .int 20]) (rest := []) (k_X13_begins l E K H.size o (aI w a1.1 j2) 20 w ho hq3) (gV m9_63 m9_65 ms_109 m1_16 m9_66) hd_X13_begins ⟨Nat.le_of_ble_eq_true rfl, Nat.le_of_ble_eq_true rfl, rfl, rfl⟩ rfl ho rfl rfl rfl hl.1 rfl rc0 rfl dX13_readsHoliday_11 ⟨Nat.zero_le _, Nat.zero_le _⟩ (fun H locs hH => ?_)
  refine lv_if_ne (tgt := 18) hx hb dX13_readsHoliday_14 (by decide) (fun c4 => ?_) (fun c4 => ?_)
  · replace hf := (if_neg c4).symm.trans hf
    refine hl_aload_n hx hb dX13_readsHoliday_18 rfl (lv_at hl 1 rfl) ?_
    refine lv_iconst (v := 0) hx hb dX13_readsHoliday_19 (by decide) ?_
    refine lv_sipush (v := 599) hx hb dX13_readsHoliday_20 (by decide) ?_
    obtain ⟨q5, hq5, hf⟩ := bnd hf
    refine hcV_i hx hb hml hown hts hKs hT hb0 hH (As := [.int 0, .int 599]) (rest := []) (k_X13_look l E K H.size o 0 599 q3.2 ho hq5) (gV m9_75 m9_77 ms_112 m1_16 m9_78) hd_X13_look ⟨Nat.le_of_ble_eq_true rfl, Nat.le_of_ble_eq_true rfl, rfl, rfl⟩ rfl ho rfl rfl rfl hl.1 rfl rc0 rfl dX13_readsHoliday_23 ⟨Nat.zero_le _, Nat.zero_le _⟩ (fun H locs hH => ?_)
    refine lv_istore_n (lv' := [(2, .int (q5.1)), (1, .int ((aI w a1.1 j2))), (0, rv E (some o))]) hx hb dX13_readsHoliday_26 rfl hl (by decide) rfl (fun ls hl => ?_)
    refine lv_iconst (v := 0) hx hb dX13_readsHoliday_27 (by decide) ?_
    refine lv_istore_n (lv' := [(3, .int 0), (2, .int (q5.1)), (1, .int ((aI w a1.1 j2))), (0, rv E (some o))]) hx hb dX13_readsHoliday_28 rfl hl (by decide) rfl (fun ls hl => ?_)
    refine l_X13_readsHoliday_L29  C ho _ (fun v1_29 v2_29 v3_29 w6 H locs ls hH hl hf => ?_) fu (aI w a1.1 j2) q5.1 0 q5.2 _ _ _ hH (lv_sub hl [2, 1, 0, 3] rfl) hf
    refine hl_aload_n hx hb dX13_readsHoliday_69 rfl (lv_at hl 3 rfl) ?_
    obtain ⟨q15, hq15, hf⟩ := bnd hf
    refine hcV_v hx hb hml hown hts hKs hT hb0 hH (As := []) (rest := []) (k_X13_goOn l E K H.size o w6 ho hq15) (gV m9_71 m9_73 ms_111 m1_16 m9_74) hd_X13_goOn ⟨Nat.le_of_ble_eq_true rfl, Nat.le_of_ble_eq_true rfl, rfl, rfl⟩ rfl ho rfl rfl rfl hl.1 rfl rc0 rfl dX13_readsHoliday_70 ⟨Nat.zero_le _, Nat.zero_le _⟩ (fun H locs hH => ?_)
    refine hl_aload_n hx hb dX13_readsHoliday_73 rfl (lv_at hl 3 rfl) ?_
    obtain ⟨q16, hq16, hf⟩ := bnd hf
    refine hcV_i hx hb hml hown hts hKs hT hb0 hH (As := []) (rest := []) (k_X13_fine l E K H.size o q15 ho hq16) (gV m9_47 m9_49 ms_105 m1_16 m9_50) hd_X13_fine ⟨Nat.le_of_ble_eq_true rfl, Nat.le_of_ble_eq_true rfl, rfl, rfl⟩ rfl ho rfl rfl rfl hl.1 rfl rc0 rfl dX13_readsHoliday_74 ⟨Nat.zero_le _, Nat.zero_le _⟩ (fun H locs hH => ?_)
    refine lv_if_ne (tgt := 81) hx hb dX13_readsHoliday_77 (by decide) (fun c17 => ?_) (fun c17 => ?_)
    · replace hf := (if_neg c17).symm.trans hf
      refine hl_aload_n hx hb dX13_readsHoliday_81 rfl (lv_at hl 3 rfl) ?_
      refine g13_4 hx hb hts hown hKs hH rfl ho m6_186 dX13_readsHoliday_82 ?_
      refine lv_iconst (v := 2) hx hb dX13_readsHoliday_85 (by decide) ?_
      refine lv_iload_n hx hb dX13_readsHoliday_86 rfl (lv_at hl 0 rfl) ?_
      refine lv_iadd hx hb dX13_readsHoliday_87 ?_
      refine lv_iload_n hx hb dX13_readsHoliday_88 rfl (lv_at hl 1 rfl) ?_
      obtain ⟨a18, ha18, hf⟩ := bnd hf
      replace ha18 := cha_some ha18
      obtain ⟨j19, hj19, hf⟩ := bnd hf
      obtain ⟨w20, hw20, hf⟩ := bnd hf
      replace hw20 := Option.some.inj hw20
      refine hw_iast (x := v2_29) hx hb hKs hH ha18.1 ha18.2 hj19 dX13_readsHoliday_89 (fun H locs hH => ?_)
      rw [hw20] at hH
      refine hl_aload_n hx hb dX13_readsHoliday_90 rfl (lv_at hl 3 rfl) ?_
      refine g13_4 hx hb hts hown hKs hH rfl ho m6_186 dX13_readsHoliday_91 ?_
      refine lv_iconst (v := 1) hx hb dX13_readsHoliday_94 (by decide) ?_
      refine lv_iload_n hx hb dX13_readsHoliday_95 rfl (lv_at hl 0 rfl) ?_
      refine lv_iconst (v := 1) hx hb dX13_readsHoliday_96 (by decide) ?_
      refine lv_iadd hx hb dX13_readsHoliday_97 ?_
      obtain ⟨a21, ha21, hf⟩ := bnd hf
      replace ha21 := cha_some ha21
      obtain ⟨j22, hj22, hf⟩ := bnd hf
      obtain ⟨w23, hw23, hf⟩ := bnd hf
      replace hw23 := Option.some.inj hw23
      refine hw_iast (x := (v1_29 + 1)) hx hb hKs hH ha21.1 ha21.2 hj22 dX13_readsHoliday_98 (fun H locs hH => ?_)
      rw [hw23] at hH
      exact hw_vret hx hb hret hf hH hlocks dX13_readsHoliday_99
    · replace hf := (if_pos c17).symm.trans hf
      exact hw_vret hx hb hret hf hH hlocks dX13_readsHoliday_80
  · replace hf := (if_pos c4).symm.trans hf
    exact hw_vret hx hb hret hf hH hlocks dX13_readsHoliday_17

theorem dX13_readsRoom_0 : decode cX13_readsRoom 0 = .ok (.aload_n 0, 1) := by decide +kernel
theorem dX13_readsRoom_1 : decode cX13_readsRoom 1 = .ok (.getfield 13, 3) := by decide +kernel
theorem dX13_readsRoom_4 : decode cX13_readsRoom 4 = .ok (.iconst 0, 1) := by decide +kernel
theorem dX13_readsRoom_5 : decode cX13_readsRoom 5 = .ok (.iaload, 1) := by decide +kernel
theorem dX13_readsRoom_6 : decode cX13_readsRoom 6 = .ok (.istore_n 1, 1) := by decide +kernel
theorem dX13_readsRoom_7 : decode cX13_readsRoom 7 = .ok (.aload_n 0, 1) := by decide +kernel
theorem dX13_readsRoom_8 : decode cX13_readsRoom 8 = .ok (.iload_n 1, 1) := by decide +kernel
theorem dX13_readsRoom_9 : decode cX13_readsRoom 9 = .ok (.iconst 3, 1) := by decide +kernel
theorem dX13_readsRoom_10 : decode cX13_readsRoom 10 = .ok (.invokevirtual 423, 3) := by decide +kernel
theorem dX13_readsRoom_13 : decode cX13_readsRoom 13 = .ok (.ifCond .ne 4, 3) := by decide +kernel
theorem dX13_readsRoom_16 : decode cX13_readsRoom 16 = .ok (.return_, 1) := by decide +kernel
theorem dX13_readsRoom_17 : decode cX13_readsRoom 17 = .ok (.aload_n 0, 1) := by decide +kernel
theorem dX13_readsRoom_18 : decode cX13_readsRoom 18 = .ok (.aload_n 0, 1) := by decide +kernel
theorem dX13_readsRoom_19 : decode cX13_readsRoom 19 = .ok (.getfield 68, 3) := by decide +kernel
theorem dX13_readsRoom_22 : decode cX13_readsRoom 22 = .ok (.iload_n 1, 1) := by decide +kernel
theorem dX13_readsRoom_23 : decode cX13_readsRoom 23 = .ok (.invokevirtual 426, 3) := by decide +kernel
theorem dX13_readsRoom_26 : decode cX13_readsRoom 26 = .ok (.aload_n 0, 1) := by decide +kernel
theorem dX13_readsRoom_27 : decode cX13_readsRoom 27 = .ok (.iconst 2, 1) := by decide +kernel
theorem dX13_readsRoom_28 : decode cX13_readsRoom 28 = .ok (.iconst 0, 1) := by decide +kernel
theorem dX13_readsRoom_29 : decode cX13_readsRoom 29 = .ok (.bipush 7, 2) := by decide +kernel
theorem dX13_readsRoom_31 : decode cX13_readsRoom 31 = .ok (.invokevirtual 430, 3) := by decide +kernel
theorem dX13_readsRoom_34 : decode cX13_readsRoom 34 = .ok (.istore_n 2, 1) := by decide +kernel
theorem dX13_readsRoom_35 : decode cX13_readsRoom 35 = .ok (.aload_n 0, 1) := by decide +kernel
theorem dX13_readsRoom_36 : decode cX13_readsRoom 36 = .ok (.iconst 4, 1) := by decide +kernel
theorem dX13_readsRoom_37 : decode cX13_readsRoom 37 = .ok (.iload_n 1, 1) := by decide +kernel
theorem dX13_readsRoom_38 : decode cX13_readsRoom 38 = .ok (.iadd, 1) := by decide +kernel
theorem dX13_readsRoom_39 : decode cX13_readsRoom 39 = .ok (.iload_n 2, 1) := by decide +kernel
theorem dX13_readsRoom_40 : decode cX13_readsRoom 40 = .ok (.invokevirtual 434, 3) := by decide +kernel
theorem dX13_readsRoom_43 : decode cX13_readsRoom 43 = .ok (.aload_n 0, 1) := by decide +kernel
theorem dX13_readsRoom_44 : decode cX13_readsRoom 44 = .ok (.bipush 7, 2) := by decide +kernel
theorem dX13_readsRoom_46 : decode cX13_readsRoom 46 = .ok (.iload_n 1, 1) := by decide +kernel
theorem dX13_readsRoom_47 : decode cX13_readsRoom 47 = .ok (.iadd, 1) := by decide +kernel
theorem dX13_readsRoom_48 : decode cX13_readsRoom 48 = .ok (.aload_n 0, 1) := by decide +kernel
theorem dX13_readsRoom_49 : decode cX13_readsRoom 49 = .ok (.iload_n 2, 1) := by decide +kernel
theorem dX13_readsRoom_50 : decode cX13_readsRoom 50 = .ok (.bipush 7, 2) := by decide +kernel
theorem dX13_readsRoom_52 : decode cX13_readsRoom 52 = .ok (.invokevirtual 405, 3) := by decide +kernel
theorem dX13_readsRoom_55 : decode cX13_readsRoom 55 = .ok (.invokevirtual 434, 3) := by decide +kernel
theorem dX13_readsRoom_58 : decode cX13_readsRoom 58 = .ok (.aload_n 0, 1) := by decide +kernel
theorem dX13_readsRoom_59 : decode cX13_readsRoom 59 = .ok (.iconst 0, 1) := by decide +kernel
theorem dX13_readsRoom_60 : decode cX13_readsRoom 60 = .ok (.iload_n 1, 1) := by decide +kernel
theorem dX13_readsRoom_61 : decode cX13_readsRoom 61 = .ok (.iconst 1, 1) := by decide +kernel
theorem dX13_readsRoom_62 : decode cX13_readsRoom 62 = .ok (.iadd, 1) := by decide +kernel
theorem dX13_readsRoom_63 : decode cX13_readsRoom 63 = .ok (.invokevirtual 434, 3) := by decide +kernel
theorem dX13_readsRoom_66 : decode cX13_readsRoom 66 = .ok (.return_, 1) := by decide +kernel
theorem hd_X13_readsRoom : yX13_readsRoom.cls = RX13 ∧ yX13_readsRoom.cls ≠ "java/lang/invoke/MethodHandle" ∧ yX13_readsRoom.cls ≠ "java/lang/invoke/VarHandle" ∧ (parseMethodDescriptor yX13_readsRoom.desc).map (fun d => d.parameters.length) = some 0 := by decide +kernel
theorem hs_X13_readsRoom : yX13_readsRoom.cls ≠ "java/lang/invoke/MethodHandle" ∧ yX13_readsRoom.cls ≠ "java/lang/invoke/VarHandle" ∧ (parseMethodDescriptor yX13_readsRoom.desc).map (fun d => d.parameters.length) = some 0 := by decide +kernel
set_option maxHeartbeats 4000000 in
set_option maxRecDepth 100000 in
theorem k_X13_readsRoom (l : Launch) (E : Ev) (K : Kd) (z : Nat) (o : Nat) (w : Wd) (ho : K o = some (11, 0)) {w' : Wd} (hf : f_X13_readsRoom K o w = some w') : Met l yX13_readsRoom (Cond.code yX13_readsRoom cX13_readsRoom 3 (Option.none : Option Jvm.ClassFile.FieldType) :: bt) ({ frames := 9, cells := 0, slots := 0, locals := 195 } : Room) (va_Pc [rv E (some o)] (HB E K w z)) (QV E K z w') 0 0 (hA E) := by
  refine Met.ofW (cc := cX13_readsRoom) (maxL := 3) (ret := (Option.none : Option Jvm.ClassFile.FieldType)) (by decide) rfl ?_
  intro p e s m args below meth c s₁ B hml hv
  obtain ⟨rfl, hz, hP, hKs, hT, hb0⟩ := hv
  have C : CX p l e s m _ meth c cX13_readsRoom 3 RX13 (Option.none : Option Jvm.ClassFile.FieldType) E := ⟨B.exec, B.bytes, hml, findClass_of_methodNamed B.named, fun w h => atoms_spec (ws := Cond.code yX13_readsRoom cX13_readsRoom 3 (Option.none : Option Jvm.ClassFile.FieldType) :: bt) B.pre w (List.mem_cons_of_mem _ h), hKs, hT, by rw [hz]; exact hb0, B.notSynchronized, B.returns⟩
  have hH : HQ E K z w s s.heap [] := ⟨hP, va_S.rf, hz⟩
  obtain ⟨hx, hb, hml, hown, hts, hKs, hT, hb0, hlocks, hret⟩ := id C
  have hl := lv_entry [rv E (some o)] (n := 3) (by simp [lg_len_nil, lg_len_i, lg_len_j, lg_len_q, lg_len_f, lg_len_d, lg_len_r])
  rw [lg_entry_eq]
  generalize (lg_sl [rv E (some o)] ++ List.replicate (3 - (lg_sl [rv E (some o)]).length) Slot.unset).toArray = ls at hl ⊢
  replace hl : lv_has ls 3 [(0, rv E (some o))] := by simpa only [lv_args, cat_q, cat_i, cat_j, reduceIte, Nat.reduceEqDiff, Nat.reduceAdd, Nat.zero_add] using hl
  generalize s.heap = H at hH ⊢
  unfold f_X13_readsRoom at hf
  refine hl_aload_n hx hb dX13_readsRoom_0 rfl (lv_at hl 0 rfl) ?_
  refine g13_2 hx hb hts hown hKs hH rfl ho m6_184 dX13_readsRoom_1 ?_
  refine lv_iconst (v := 0) hx hb dX13_readsRoom_4 (by decide) ?_
  obtain ⟨a1, ha1, hf⟩ := bnd hf
  replace ha1 := cha_some ha1
  obtain ⟨j2, hj2, hf⟩ := bnd hf
  refine hw_iald hx hb hKs hH ha1.1 ha1.2 hj2 dX13_readsRoom_5 ?_
  refine lv_istore_n (lv' := [(1, .int ((aI w a1.1 j2))), (0, rv E (some o))]) hx hb dX13_readsRoom_6 rfl hl (by decide) rfl (fun ls hl => ?_)
  refine hl_aload_n hx hb dX13_readsRoom_7 rfl (lv_at hl 1 rfl) ?_
  refine lv_iload_n hx hb dX13_readsRoom_8 rfl (lv_at hl 0 rfl) ?_
  refine lv_iconst (v := 3) hx hb dX13_readsRoom_9 (by decide) ?_
  obtain ⟨q3, hq3, hf⟩ := bnd hf
  refine hcV_i hx hb hml hown hts hKs hT hb0 hH (As := [.int ((aI w a1.1 j2)), .int 3]) (rest := []) (k_X13_begins l E K H.size o (aI w a1.1 j2) 3 w ho hq3) (gV m9_63 m9_65 ms_109 m1_16 m9_66) hd_X13_begins ⟨Nat.le_of_ble_eq_true rfl, Nat.le_of_ble_eq_true rfl, rfl, rfl⟩ rfl ho rfl rfl rfl hl.1 rfl rc0 rfl dX13_readsRoom_10 ⟨Nat.zero_le _, Nat.zero_le _⟩ (fun H locs hH => ?_)
  refine lv_if_ne (tgt := 17) hx hb dX13_readsRoom_13 (by decide) (fun c4 => ?_) (fun c4 => ?_)
  · replace hf := (if_neg c4).symm.trans hf
    refine hl_aload_n hx hb dX13_readsRoom_17 rfl (lv_at hl 1 rfl) ?_
    refine hl_aload_n hx hb dX13_readsRoom_18 rfl (lv_at hl 1 rfl) ?_
    refine g13_33 hx hb hts hown hKs hH rfl ho m6_215 dX13_readsRoom_19 ?_
    refine lv_iload_n hx hb dX13_readsRoom_22 rfl (lv_at hl 0 rfl) ?_
    obtain ⟨q5, hq5, hf⟩ := bnd hf
    refine hcV_v hx hb hml hown hts hKs hT hb0 hH (As := [rv E (wR q3.2 1333 o), .int ((aI w a1.1 j2))]) (rest := []) (k_X13_newName l E K H.size o (wR q3.2 1333 o) (aI w a1.1 j2) q3.2 ho hq5) (gV m9_83 m9_85 ms_114 m1_16 m9_86) hd_X13_newName ⟨Nat.le_of_ble_eq_true rfl, Nat.le_of_ble_eq_true rfl, rfl, rfl⟩ rfl ho rfl rfl rfl hl.1 rfl rc0 rfl dX13_readsRoom_23 ⟨Nat.zero_le _, Nat.zero_le _⟩ (fun H locs hH => ?_)
    refine hl_aload_n hx hb dX13_readsRoom_26 rfl (lv_at hl 1 rfl) ?_
    refine lv_iconst (v := 2) hx hb dX13_readsRoom_27 (by decide) ?_
    refine lv_iconst (v := 0) hx hb dX13_readsRoom_28 (by decide) ?_
    refine lv_bipush (v := 7) hx hb dX13_readsRoom_29 (by decide) ?_
    obtain ⟨q6, hq6, hf⟩ := bnd hf
    refine hcV_i hx hb hml hown hts hKs hT hb0 hH (As := [.int 2, .int 0, .int 7]) (rest := []) (k_X13_numberBehind l E K H.size o 2 0 7 q5 ho hq6) (gV m9_100 m9_102 ms_117 m1_16 m9_103) hd_X13_numberBehind ⟨Nat.le_of_ble_eq_true rfl, Nat.le_of_ble_eq_true rfl, rfl, rfl⟩ rfl ho rfl rfl rfl hl.1 rfl rc0 rfl dX13_readsRoom_31 ⟨Nat.zero_le _, Nat.zero_le _⟩ (fun H locs hH => ?_)
    refine lv_istore_n (lv' := [(2, .int (q6.1)), (1, .int ((aI w a1.1 j2))), (0, rv E (some o))]) hx hb dX13_readsRoom_34 rfl hl (by decide) rfl (fun ls hl => ?_)
    refine hl_aload_n hx hb dX13_readsRoom_35 rfl (lv_at hl 2 rfl) ?_
    refine lv_iconst (v := 4) hx hb dX13_readsRoom_36 (by decide) ?_
    refine lv_iload_n hx hb dX13_readsRoom_37 rfl (lv_at hl 1 rfl) ?_
    refine lv_iadd hx hb dX13_readsRoom_38 ?_
    refine lv_iload_n hx hb dX13_readsRoom_39 rfl (lv_at hl 0 rfl) ?_
    obtain ⟨q7, hq7, hf⟩ := bnd hf
    refine hcV_v hx hb hml hown hts hKs hT hb0 hH (As := [.int ((4 + (aI w a1.1 j2))), .int (q6.1)]) (rest := []) (k_X13_laysDraft l E K H.size o (4 + (aI w a1.1 j2)) q6.1 q6.2 ho hq7) (gV m9_116 m9_118 ms_121 m1_16 m9_119) hd_X13_laysDraft ⟨Nat.le_of_ble_eq_true rfl, Nat.le_of_ble_eq_true rfl, rfl, rfl⟩ rfl ho rfl rfl rfl hl.1 rfl rc0 rfl dX13_readsRoom_40 ⟨Nat.zero_le _, Nat.zero_le _⟩ (fun H locs hH => ?_)
    refine hl_aload_n hx hb dX13_readsRoom_43 rfl (lv_at hl 2 rfl) ?_
    refine lv_bipush (v := 7) hx hb dX13_readsRoom_44 (by decide) ?_
    refine lv_iload_n hx hb dX13_readsRoom_46 rfl (lv_at hl 1 rfl) ?_
    refine lv_iadd hx hb dX13_readsRoom_47 ?_
    refine hl_aload_n hx hb dX13_readsRoom_48 rfl (lv_at hl 2 rfl) ?_
    refine lv_iload_n hx hb dX13_readsRoom_49 rfl (lv_at hl 0 rfl) ?_
    refine lv_bipush (v := 7) hx hb dX13_readsRoom_50 (by decide) ?_
    obtain ⟨q8, hq8, hf⟩ := bnd hf
    refine hcV_i hx hb hml hown hts hKs hT hb0 hH (As := [.int (q6.1), .int 7]) (rest := [.int ((7 + (aI w a1.1 j2))), rv E (some o)]) (k_X13_number l E K H.size o q6.1 7 q7 ho hq8) (gV m9_112 m9_114 ms_120 m1_16 m9_115) hd_X13_number ⟨Nat.le_of_ble_eq_true rfl, Nat.le_of_ble_eq_true rfl, rfl, rfl⟩ rfl ho rfl rfl rfl hl.1 rfl (rcI (rcV rc0)) rfl dX13_readsRoom_52 ⟨Nat.zero_le _, Nat.zero_le _⟩ (fun H locs hH => ?_)
    obtain ⟨q9, hq9, hf⟩ := bnd hf
    refine hcV_v hx hb hml hown hts hKs hT hb0 hH (As := [.int ((7 + (aI w a1.1 j2))), .int (q8.1)]) (rest := []) (k_X13_laysDraft l E K H.size o (7 + (aI w a1.1 j2)) q8.1 q8.2 ho hq9) (gV m9_116 m9_118 ms_121 m1_16 m9_119) hd_X13_laysDraft ⟨Nat.le_of_ble_eq_true rfl, Nat.le_of_ble_eq_true rfl, rfl, rfl⟩ rfl ho rfl rfl rfl hl.1 rfl rc0 rfl dX13_readsRoom_55 ⟨Nat.zero_le _, Nat.zero_le _⟩ (fun H locs hH => ?_)
    refine hl_aload_n hx hb dX13_readsRoom_58 rfl (lv_at hl 2 rfl) ?_
    refine lv_iconst (v := 0) hx hb dX13_readsRoom_59 (by decide) ?_
    refine lv_iload_n hx hb dX13_readsRoom_60 rfl (lv_at hl 1 rfl) ?_
    refine lv_iconst (v := 1) hx hb dX13_readsRoom_61 (by decide) ?_
    refine lv_iadd hx hb dX13_readsRoom_62 ?_
    obtain ⟨q10, hq10, hf⟩ := bnd hf
    refine hcV_v hx hb hml hown hts hKs hT hb0 hH (As := [.int 0, .int (((aI w a1.1 j2) + 1))]) (rest := []) (k_X13_laysDraft l E K H.size o 0 ((aI w a1.1 j2) + 1) q9 ho hq10) (gV m9_116 m9_118 ms_121 m1_16 m9_119) hd_X13_laysDraft ⟨Nat.le_of_ble_eq_true rfl, Nat.le_of_ble_eq_true rfl, rfl, rfl⟩ rfl ho rfl rfl rfl hl.1 rfl rc0 rfl dX13_readsRoom_63 ⟨Nat.zero_le _, Nat.zero_le _⟩ (fun H locs hH => ?_)
    exact hw_vret hx hb hret hf hH hlocks dX13_readsRoom_66
  · replace hf := (if_pos c4).symm.trans hf
    exact hw_vret hx hb hret hf hH hlocks dX13_readsRoom_16
end
