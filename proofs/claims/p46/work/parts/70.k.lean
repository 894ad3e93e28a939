section
variable {p : Program} {l : Launch} {e : Env} {s : State} {m : MethodId} {args : Array Value} {below : List Frame} {meth : Method} {c : Code} {E : Ev} {K : Kd} {z : Nat}

theorem dNX12_openDays_0 : decode cX12_openDays 0 = .ok (.aload_n 0, 1) := by decide +kernel
theorem dNX12_openDays_1 : decode cX12_openDays 1 = .ok (.iconst 3, 1) := by decide +kernel
theorem dNX12_openDays_2 : decode cX12_openDays 2 = .ok (.iload_n 1, 1) := by decide +kernel
theorem dNX12_openDays_3 : decode cX12_openDays 3 = .ok (.invokevirtual 175, 3) := by decide +kernel
theorem dNX12_openDays_6 : decode cX12_openDays 6 = .ok (.aload_n 0, 1) := by decide +kernel
theorem dNX12_openDays_7 : decode cX12_openDays 7 = .ok (.iload_n 1, 1) := by decide +kernel
theorem dNX12_openDays_8 : decode cX12_openDays 8 = .ok (.invokevirtual 280, 3) := by decide +kernel
theorem dNX12_openDays_11 : decode cX12_openDays 11 = .ok (.aload_n 0, 1) := by decide +kernel
theorem dNX12_openDays_12 : decode cX12_openDays 12 = .ok (.getfield 52, 3) := by decide +kernel
theorem dNX12_openDays_15 : decode cX12_openDays 15 = .ok (.aload_n 0, 1) := by decide +kernel
theorem dNX12_openDays_16 : decode cX12_openDays 16 = .ok (.getfield 35, 3) := by decide +kernel
theorem dNX12_openDays_19 : decode cX12_openDays 19 = .ok (.iload_n 1, 1) := by decide +kernel
theorem dNX12_openDays_20 : decode cX12_openDays 20 = .ok (.invokevirtual 295, 3) := by decide +kernel
theorem dNX12_openDays_23 : decode cX12_openDays 23 = .ok (.ireturn, 1) := by decide +kernel
theorem hd_NX12_openDays : yX12_openDays.cls = RX12 ∧ yX12_openDays.cls ≠ "java/lang/invoke/MethodHandle" ∧ yX12_openDays.cls ≠ "java/lang/invoke/VarHandle" ∧ (parseMethodDescriptor yX12_openDays.desc).map (fun d => d.parameters.length) = some 1 := by decide +kernel
theorem hs_NX12_openDays : yX12_openDays.cls ≠ "java/lang/invoke/MethodHandle" ∧ yX12_openDays.cls ≠ "java/lang/invoke/VarHandle" ∧ (parseMethodDescriptor yX12_openDays.desc).map (fun d => d.parameters.length) = some 1 := by decide +kernel
set_option maxHeartbeats 4000000 in
set_option maxRecDepth 100000 in
theorem k_NX12_openDays (l : Launch) (E : Ev) (K : Kd) (z : Nat) (o : Nat) (a_1 : Int32) (w : Wd) (ho : K o = some (10, 0)) {r : Int32} {w' : Wd} (hf : f_NX12_openDays K o a_1 w = some (r, w')) : Met l yX12_openDays (Cond.code yX12_openDays cX12_openDays 2 (Option.some Jvm.ClassFile.FieldType.int) :: bt) ({ frames := 5, cells := 0, slots := 0, locals := 128 } : Room) (va_Pc [rv E (some o), .int a_1] (HB E K w z)) (QI E K z w' r) 0 0 (hA E) := by
  refine Met.ofW (cc := cX12_openDays) (maxL := 2) (ret := (Option.some Jvm.ClassFile.FieldType.int)) (by decide) rfl ?_
  intro p e s m args below meth c s₁ B hml hv
  obtain ⟨rfl, hz, hP, hKs, hT, hb0⟩ := hv
  have C : CX p l e s m _ meth c cX12_openDays 2 RX12 (Option.some Jvm.ClassFile.FieldType.int) E := ⟨B.exec, B.bytes, hml, findClass_of_methodNamed B.named, fun w h => atoms_spec (ws := Cond.code yX12_openDays cX12_openDays 2 (Option.some Jvm.ClassFile.FieldType.int) :: bt) B.pre w (List.mem_cons_of_mem _ h), hKs, hT, by rw [hz]; exact hb0, B.notSynchronized, B.returns⟩
  have hH : HQ E K z w s s.heap [] := ⟨hP, va_S.rf, hz⟩
  obtain ⟨hx, hb, hml, hown, hts, hKs, hT, hb0, hlocks, hret⟩ := id C
  have hl := lv_entry [rv E (some o), .int a_1] (n := 2) (by simp [lg_len_nil, lg_len_i, lg_len_j, lg_len_q, lg_len_f, lg_len_d, lg_len_r])
  rw [lg_entry_eq]
  generalize (lg_sl [rv E (some o), .int a_1] ++ List.replicate (2 - (lg_sl [rv E (some o), .int a_1]).length) Slot.unset).toArray = ls at hl ⊢
  replace hl : lv_has ls 2 [(0, rv E (some o)), (1, .int a_1)] := by simpa only [lv_args, cat_q, cat_i, cat_j, reduceIte, Nat.reduceEqDiff, Nat.reduceAdd, Nat.zero_add] using hl
  generalize s.heap = H at hH ⊢
  unfold f_NX12_openDays at hf
  refine hl_aload_n hx hb dNX12_openDays_0 rfl (lv_at hl 0 rfl) ?_
  refine lv_iconst (v := 3) hx hb dNX12_openDays_1 (by decide) ?_
  refine lv_iload_n hx hb dNX12_openDays_2 rfl (lv_at hl 1 rfl) ?_
  obtain ⟨q1, hq1, hf⟩ := bnd hf
  refine hcV_v hx hb hml hown hts hKs hT hb0 hH (As := [.int 3, .int a_1]) (rest := []) (k_NX12_requireExisting l E K H.size o 3 a_1 w ho hq1) (gV m6_91 m6_93 ms_29 m1_1 m6_94) hd_NX12_requireExisting ⟨Nat.le_of_ble_eq_true rfl, Nat.le_of_ble_eq_true rfl, rfl, rfl⟩ rfl ho rfl rfl rfl hl.1 rfl rc0 rfl dNX12_openDays_3 ⟨Nat.zero_le _, Nat.zero_le _⟩ (fun H locs hH => ?_)
  refine hl_aload_n hx hb dNX12_openDays_6 rfl (lv_at hl 0 rfl) ?_
  refine lv_iload_n hx hb dNX12_openDays_7 rfl (lv_at hl 1 rfl) ?_
  obtain ⟨q2, hq2, hf⟩ := bnd hf
  refine hcV_v hx hb hml hown hts hKs hT hb0 hH (As := [.int a_1]) (rest := []) (k_NX12_requireUnfinished l E K H.size o a_1 q1 ho hq2) (gV m6_221 m6_223 ms_35 m1_1 m6_224) hd_NX12_requireUnfinished ⟨Nat.le_of_ble_eq_true rfl, Nat.le_of_ble_eq_true rfl, rfl, rfl⟩ rfl ho rfl rfl rfl hl.1 rfl rc0 rfl dNX12_openDays_8 ⟨Nat.zero_le _, Nat.zero_le _⟩ (fun H locs hH => ?_)
  refine hl_aload_n hx hb dNX12_openDays_11 rfl (lv_at hl 0 rfl) ?_
  refine g12_11 hx hb hts hown hKs hH rfl ho m2_220 dNX12_openDays_12 ?_
  refine hl_aload_n hx hb dNX12_openDays_15 rfl (lv_at hl 0 rfl) ?_
  refine g12_5 hx hb hts hown hKs hH rfl ho m2_214 dNX12_openDays_16 ?_
  refine lv_iload_n hx hb dNX12_openDays_19 rfl (lv_at hl 1 rfl) ?_
  obtain ⟨a3, ha3, hf⟩ := bnd hf
  replace ha3 := chk_some ha3
  obtain ⟨q4, hq4, hf⟩ := bnd hf
  refine hcV_i hx hb hml hown hts hKs hT hb0 hH (As := [rv E (wR q2 1205 o), .int a_1]) (rest := []) (k_X6_countOpenDays l E K H.size a3 (wR q2 1205 o) a_1 q2 ha3.2 hq4) (gV m7_5 m7_6 m7_7 m1_14 m7_8) hd_X6_countOpenDays ⟨Nat.le_of_ble_eq_true rfl, Nat.le_of_ble_eq_true rfl, rfl, rfl⟩ ha3.1 ha3.2 rfl rfl rfl hl.1 rfl rc0 rfl dNX12_openDays_20 ⟨Nat.zero_le _, Nat.zero_le _⟩ (fun H locs hH => ?_)
  exact hw_iret hx hb hret hf hH hlocks dNX12_openDays_23

theorem dNX12_opening_0 : decode cX12_opening 0 = .ok (.aload_n 0, 1) := by decide +kernel
theorem dNX12_opening_1 : decode cX12_opening 1 = .ok (.iconst 3, 1) := by decide +kernel
theorem dNX12_opening_2 : decode cX12_opening 2 = .ok (.iload_n 1, 1) := by decide +kernel
theorem dNX12_opening_3 : decode cX12_opening 3 = .ok (.invokevirtual 175, 3) := by decide +kernel
theorem dNX12_opening_6 : decode cX12_opening 6 = .ok (.iload_n 2, 1) := by decide +kernel
theorem dNX12_opening_7 : decode cX12_opening 7 = .ok (.ifCond .lt 8, 3) := by decide +kernel
theorem dNX12_opening_10 : decode cX12_opening 10 = .ok (.iload_n 2, 1) := by decide +kernel
theorem dNX12_opening_11 : decode cX12_opening 11 = .ok (.iconst 3, 1) := by decide +kernel
theorem dNX12_opening_12 : decode cX12_opening 12 = .ok (.if_icmp .le 11, 3) := by decide +kernel
theorem dNX12_opening_23 : decode cX12_opening 23 = .ok (.aload_n 0, 1) := by decide +kernel
theorem dNX12_opening_24 : decode cX12_opening 24 = .ok (.iload_n 1, 1) := by decide +kernel
theorem dNX12_opening_25 : decode cX12_opening 25 = .ok (.invokevirtual 280, 3) := by decide +kernel
theorem dNX12_opening_28 : decode cX12_opening 28 = .ok (.aload_n 0, 1) := by decide +kernel
theorem dNX12_opening_29 : decode cX12_opening 29 = .ok (.getfield 52, 3) := by decide +kernel
theorem dNX12_opening_32 : decode cX12_opening 32 = .ok (.aload_n 0, 1) := by decide +kernel
theorem dNX12_opening_33 : decode cX12_opening 33 = .ok (.getfield 35, 3) := by decide +kernel
theorem dNX12_opening_36 : decode cX12_opening 36 = .ok (.iload_n 1, 1) := by decide +kernel
theorem dNX12_opening_37 : decode cX12_opening 37 = .ok (.iconst 0, 1) := by decide +kernel
theorem dNX12_opening_38 : decode cX12_opening 38 = .ok (.invokevirtual 287, 3) := by decide +kernel
theorem dNX12_opening_41 : decode cX12_opening 41 = .ok (.ifCond .ne 5, 3) := by decide +kernel
theorem dNX12_opening_44 : decode cX12_opening 44 = .ok (.iconst (-1), 1) := by decide +kernel
theorem dNX12_opening_45 : decode cX12_opening 45 = .ok (.ireturn, 1) := by decide +kernel
theorem dNX12_opening_46 : decode cX12_opening 46 = .ok (.iload_n 2, 1) := by decide +kernel
theorem dNX12_opening_47 : decode cX12_opening 47 = .ok (.tableswitch 49 0 2 #[25, 33, 41], 25) := by decide +kernel
theorem dNX12_opening_72 : decode cX12_opening 72 = .ok (.aload_n 0, 1) := by decide +kernel
theorem dNX12_opening_73 : decode cX12_opening 73 = .ok (.getfield 52, 3) := by decide +kernel
theorem dNX12_opening_76 : decode cX12_opening 76 = .ok (.getfield 291, 3) := by decide +kernel
theorem dNX12_opening_79 : decode cX12_opening 79 = .ok (.ireturn, 1) := by decide +kernel
theorem dNX12_opening_80 : decode cX12_opening 80 = .ok (.aload_n 0, 1) := by decide +kernel
theorem dNX12_opening_81 : decode cX12_opening 81 = .ok (.getfield 52, 3) := by decide +kernel
theorem dNX12_opening_84 : decode cX12_opening 84 = .ok (.getfield 292, 3) := by decide +kernel
theorem dNX12_opening_87 : decode cX12_opening 87 = .ok (.ireturn, 1) := by decide +kernel
theorem dNX12_opening_88 : decode cX12_opening 88 = .ok (.aload_n 0, 1) := by decide +kernel
theorem dNX12_opening_89 : decode cX12_opening 89 = .ok (.getfield 52, 3) := by decide +kernel
theorem dNX12_opening_92 : decode cX12_opening 92 = .ok (.getfield 293, 3) := by decide +kernel
theorem dNX12_opening_95 : decode cX12_opening 95 = .ok (.ireturn, 1) := by decide +kernel
theorem dNX12_opening_96 : decode cX12_opening 96 = .ok (.aload_n 0, 1) := by decide +kernel
theorem dNX12_opening_97 : decode cX12_opening 97 = .ok (.getfield 52, 3) := by decide +kernel
theorem dNX12_opening_100 : decode cX12_opening 100 = .ok (.getfield 294, 3) := by decide +kernel
theorem dNX12_opening_103 : decode cX12_opening 103 = .ok (.ireturn, 1) := by decide +kernel
theorem hd_NX12_opening : yX12_opening.cls = RX12 ∧ yX12_opening.cls ≠ "java/lang/invoke/MethodHandle" ∧ yX12_opening.cls ≠ "java/lang/invoke/VarHandle" ∧ (parseMethodDescriptor yX12_opening.desc).map (fun d => d.parameters.length) = some 2 := by decide +kernel
theorem hs_NX12_opening : yX12_opening.cls ≠ "java/lang/invoke/MethodHandle" ∧ yX12_opening.cls ≠ "java/lang/invoke/VarHandle" ∧ (parseMethodDescriptor yX12_opening.desc).map (fun d => d.parameters.length) = some 2 := by decide +kernel
set_option maxHeartbeats 4000000 in
set_option maxRecDepth 100000 in
theorem k_NX12_opening (l : Launch) (E : Ev) (K : Kd) (z : Nat) (o : Nat) (a_1 : Int32) (a_2 : Int32) (w : Wd) (ho : K o = some (10, 0)) {r : Int32} {w' : Wd} (hf : f_NX12_opening K o a_1 a_2 w = some (r, w')) : Met l yX12_opening (Cond.code yX12_opening cX12_opening 3 (Option.some Jvm.ClassFile.FieldType.int) :: bt) ({ frames := 5, cells := 0, slots := 0, locals := 128 } : Room) (va_Pc [rv E (some o), .int a_1, .int a_2] (HB E K w z)) (QI E K z w' r) 0 0 (hA E) := by
  refine Met.ofW (cc := cX12_opening) (maxL := 3) (ret := (Option.some Jvm.ClassFile.FieldType.int)) (by decide) rfl ?_
  intro p e s m args below meth c s₁ B hml hv
  obtain ⟨rfl, hz, hP, hKs, hT, hb0⟩ := hv
  have C : CX p l e s m _ meth c cX12_opening 3 RX12 (Option.some Jvm.ClassFile.FieldType.int) E := ⟨B.exec, B.bytes, hml, findClass_of_methodNamed B.named, fun w h => atoms_spec (ws := Cond.code yX12_opening cX12_opening 3 (Option.some Jvm.ClassFile.FieldType.int) :: bt) B.pre w (List.mem_cons_of_mem _ h), hKs, hT, by rw [hz]; exact hb0, B.notSynchronized, B.returns⟩
  have hH : HQ E K z w s s.heap [] := ⟨hP, va_S.rf, hz⟩
  obtain ⟨hx, hb, hml, hown, hts, hKs, hT, hb0, hlocks, hret⟩ := id C
  have hl := lv_entry [rv E (some o), .int a_1, .int a_2] (n := 3) (by simp [lg_len_nil, lg_len_i, lg_len_j, lg_len_q, lg_len_f, lg_len_d, lg_len_r])
  rw [lg_entry_eq]
  generalize (lg_sl [rv E (some o), .int a_1, .int a_2] ++ List.replicate (3 - (lg_sl [rv E (some o), .int a_1, .int a_2]).length) Slot.unset).toArray = ls at hl ⊢
  replace hl : lv_has ls 3 [(0, rv E (some o)), (1, .int a_1), (2, .int a_2)] := by simpa only [lv_args, cat_q, cat_i, cat_j, reduceIte, Nat.reduceEqDiff, Nat.reduceAdd, Nat.zero_add] using hl
  generalize s.heap = H at hH ⊢
  unfold f_NX12_opening at hf
  refine hl_aload_n hx hb dNX12_opening_0 rfl (lv_at hl 0 rfl) ?_
  refine lv_iconst (v := 3) hx hb dNX12_opening_1 (by decide) ?_
  refine lv_iload_n hx hb dNX12_opening_2 rfl (lv_at hl 1 rfl) ?_
  obtain ⟨q1, hq1, hf⟩ := bnd hf
  refine hcV_v hx hb hml hown hts hKs hT hb0 hH (As := [.int 3, .int a_1]) (rest := []) (k_NX12_requireExisting l E K H.size o 3 a_1 w ho hq1) (gV m6_91 m6_93 ms_29 m1_1 m6_94) hd_NX12_requireExisting ⟨Nat.le_of_ble_eq_true rfl, Nat.le_of_ble_eq_true rfl, rfl, rfl⟩ rfl ho rfl rfl rfl hl.1 rfl rc0 rfl dNX12_opening_3 ⟨Nat.zero_le _, Nat.zero_le _⟩ (fun H locs hH => ?_)
  refine lv_iload_n hx hb dNX12_opening_6 rfl (lv_at hl 2 rfl) ?_
  refine lv_if_lt (tgt := 15) hx hb dNX12_opening_7 (by decide) (fun c2 => ?_) (fun c2 => ?_)
  · replace hf := (if_pos c2).symm.trans hf
    cases hf
  · replace hf := (if_neg c2).symm.trans hf
    refine lv_iload_n hx hb dNX12_opening_10 rfl (lv_at hl 2 rfl) ?_
    refine lv_iconst (v := 3) hx hb dNX12_opening_11 (by decide) ?_
    refine lv_icmp_le (tgt := 23) hx hb dNX12_opening_12 (by decide) (fun c3 => ?_) (fun c3 => ?_)
    · replace hf := (if_pos c3).symm.trans hf
      refine hl_aload_n hx hb dNX12_opening_23 rfl (lv_at hl 0 rfl) ?_
      refine lv_iload_n hx hb dNX12_opening_24 rfl (lv_at hl 1 rfl) ?_
      obtain ⟨q4, hq4, hf⟩ := bnd hf
      refine hcV_v hx hb hml hown hts hKs hT hb0 hH (As := [.int a_1]) (rest := []) (k_NX12_requireUnfinished l E K H.size o a_1 q1 ho hq4) (gV m6_221 m6_223 ms_35 m1_1 m6_224) hd_NX12_requireUnfinished ⟨Nat.le_of_ble_eq_true rfl, Nat.le_of_ble_eq_true rfl, rfl, rfl⟩ rfl ho rfl rfl rfl hl.1 rfl rc0 rfl dNX12_opening_25 ⟨Nat.zero_le _, Nat.zero_le _⟩ (fun H locs hH => ?_)
      refine hl_aload_n hx hb dNX12_opening_28 rfl (lv_at hl 0 rfl) ?_
      refine g12_11 hx hb hts hown hKs hH rfl ho m2_220 dNX12_opening_29 ?_
      refine hl_aload_n hx hb dNX12_opening_32 rfl (lv_at hl 0 rfl) ?_
      refine g12_5 hx hb hts hown hKs hH rfl ho m2_214 dNX12_opening_33 ?_
      refine lv_iload_n hx hb dNX12_opening_36 rfl (lv_at hl 1 rfl) ?_
      refine lv_iconst (v := 0) hx hb dNX12_opening_37 (by decide) ?_
      obtain ⟨a5, ha5, hf⟩ := bnd hf
      replace ha5 := chk_some ha5
      obtain ⟨q6, hq6, hf⟩ := bnd hf
      refine hcV_i hx hb hml hown hts hKs hT hb0 hH (As := [rv E (wR q4 1205 o), .int a_1, .int 0]) (rest := []) (k_X6_findFirst l E K H.size a5 (wR q4 1205 o) a_1 0 q4 ha5.2 hq6) (gV m6_110 m3_176 m3_177 m1_14 m3_178) hd_X6_findFirst ⟨Nat.le_of_ble_eq_true rfl, Nat.le_of_ble_eq_true rfl, rfl, rfl⟩ ha5.1 ha5.2 rfl rfl rfl hl.1 rfl rc0 rfl dNX12_opening_38 ⟨Nat.zero_le _, Nat.zero_le _⟩ (fun H locs hH => ?_)
      refine lv_if_ne (tgt := 46) hx hb dNX12_opening_41 (by decide) (fun c7 => ?_) (fun c7 => ?_)
      · replace hf := (if_neg c7).symm.trans hf
        refine lv_iload_n hx hb dNX12_opening_46 rfl (lv_at hl 2 rfl) ?_
        by_cases c8 : (a_2 < 0 ∨ 2 < a_2)
        · replace hf := (if_pos c8).symm.trans hf
          refine hl_tabOut (tgt := 96) hx hb dNX12_opening_47 c8 (by decide) (by decide) (by decide) ?_
          refine hl_aload_n hx hb dNX12_opening_96 rfl (lv_at hl 0 rfl) ?_
          refine g12_11 hx hb hts hown hKs hH rfl ho m2_220 dNX12_opening_97 ?_
          obtain ⟨a9, ha9, hf⟩ := bnd hf
          replace ha9 := chk_some ha9
          refine gn6_11 hx hb hts hown hKs hH ha9.1 ha9.2 m2_163 dNX12_opening_100 ?_
          exact hw_iret hx hb hret hf hH hlocks dNX12_opening_103
        replace hf := (if_neg c8).symm.trans hf
        by_cases c10 : a_2 = 0
        · replace hf := (if_pos c10).symm.trans hf
          refine hl_tabIn (tgt := 72) hx hb dNX12_opening_47 c10 (by decide) (by decide) rfl (by decide) ?_
          refine hl_aload_n hx hb dNX12_opening_72 rfl (lv_at hl 0 rfl) ?_
          refine g12_11 hx hb hts hown hKs hH rfl ho m2_220 dNX12_opening_73 ?_
          obtain ⟨a11, ha11, hf⟩ := bnd hf
          replace ha11 := chk_some ha11
          refine gn6_8 hx hb hts hown hKs hH ha11.1 ha11.2 m2_157 dNX12_opening_76 ?_
          exact hw_iret hx hb hret hf hH hlocks dNX12_opening_79
        replace hf := (if_neg c10).symm.trans hf
        by_cases c12 : a_2 = 1
        · replace hf := (if_pos c12).symm.trans hf
          refine hl_tabIn (tgt := 80) hx hb dNX12_opening_47 c12 (by decide) (by decide) rfl (by decide) ?_
          refine hl_aload_n hx hb dNX12_opening_80 rfl (lv_at hl 0 rfl) ?_
          refine g12_11 hx hb hts hown hKs hH rfl ho m2_220 dNX12_opening_81 ?_
          obtain ⟨a13, ha13, hf⟩ := bnd hf
          replace ha13 := chk_some ha13
          refine gn6_9 hx hb hts hown hKs hH ha13.1 ha13.2 m2_159 dNX12_opening_84 ?_
          exact hw_iret hx hb hret hf hH hlocks dNX12_opening_87
        replace hf := (if_neg c12).symm.trans hf
        by_cases c14 : a_2 = 2
        · replace hf := (if_pos c14).symm.trans hf
          refine hl_tabIn (tgt := 88) hx hb dNX12_opening_47 c14 (by decide) (by decide) rfl (by decide) ?_
          refine hl_aload_n hx hb dNX12_opening_88 rfl (lv_at hl 0 rfl) ?_
          refine g12_11 hx hb hts hown hKs hH rfl ho m2_220 dNX12_opening_89 ?_
          obtain ⟨a15, ha15, hf⟩ := bnd hf
          replace ha15 := chk_some ha15
          refine gn6_10 hx hb hts hown hKs hH ha15.1 ha15.2 m2_161 dNX12_opening_92 ?_
          exact hw_iret hx hb hret hf hH hlocks dNX12_opening_95
        replace hf := (if_neg c14).symm.trans hf
        cases hf
      · replace hf := (if_pos c7).symm.trans hf
        refine lv_iconst (v := (-1)) hx hb dNX12_opening_44 (by decide) ?_
        exact hw_iret hx hb hret hf hH hlocks dNX12_opening_45
    · replace hf := (if_neg c3).symm.trans hf
      cases hf

theorem dX12_init_0 : decode cX12_init 0 = .ok (.aload_n 0, 1) := by decide +kernel
theorem dX12_init_1 : decode cX12_init 1 = .ok (.invokespecial 3, 3) := by decide +kernel
theorem dX12_init_4 : decode cX12_init 4 = .ok (.new 9, 3) := by decide +kernel
theorem dX12_init_7 : decode cX12_init 7 = .ok (.dup, 1) := by decide +kernel
theorem dX12_init_8 : decode cX12_init 8 = .ok (.invokespecial 11, 3) := by decide +kernel
theorem dX12_init_11 : decode cX12_init 11 = .ok (.astore_n 1, 1) := by decide +kernel
theorem dX12_init_12 : decode cX12_init 12 = .ok (.aload_n 0, 1) := by decide +kernel
theorem dX12_init_13 : decode cX12_init 13 = .ok (.sipush 900, 3) := by decide +kernel
theorem dX12_init_16 : decode cX12_init 16 = .ok (.newarray .byte, 2) := by decide +kernel
theorem dX12_init_18 : decode cX12_init 18 = .ok (.putfield 12, 3) := by decide +kernel
theorem dX12_init_21 : decode cX12_init 21 = .ok (.aload_n 0, 1) := by decide +kernel
theorem dX12_init_22 : decode cX12_init 22 = .ok (.new 16, 3) := by decide +kernel
theorem dX12_init_25 : decode cX12_init 25 = .ok (.dup, 1) := by decide +kernel
theorem dX12_init_26 : decode cX12_init 26 = .ok (.invokespecial 18, 3) := by decide +kernel
theorem dX12_init_29 : decode cX12_init 29 = .ok (.putfield 19, 3) := by decide +kernel
theorem dX12_init_32 : decode cX12_init 32 = .ok (.aload_n 0, 1) := by decide +kernel
theorem dX12_init_33 : decode cX12_init 33 = .ok (.iconst 0, 1) := by decide +kernel
theorem dX12_init_34 : decode cX12_init 34 = .ok (.putfield 23, 3) := by decide +kernel
theorem dX12_init_37 : decode cX12_init 37 = .ok (.aload_n 0, 1) := by decide +kernel
theorem dX12_init_38 : decode cX12_init 38 = .ok (.iconst (-1), 1) := by decide +kernel
theorem dX12_init_39 : decode cX12_init 39 = .ok (.putfield 27, 3) := by decide +kernel
theorem dX12_init_42 : decode cX12_init 42 = .ok (.aload_n 0, 1) := by decide +kernel
theorem dX12_init_43 : decode cX12_init 43 = .ok (.new 30, 3) := by decide +kernel
theorem dX12_init_46 : decode cX12_init 46 = .ok (.dup, 1) := by decide +kernel
theorem dX12_init_47 : decode cX12_init 47 = .ok (.aload_n 1, 1) := by decide +kernel
theorem dX12_init_48 : decode cX12_init 48 = .ok (.invokespecial 32, 3) := by decide +kernel
theorem dX12_init_51 : decode cX12_init 51 = .ok (.putfield 35, 3) := by decide +kernel
theorem dX12_init_54 : decode cX12_init 54 = .ok (.aload_n 0, 1) := by decide +kernel
theorem dX12_init_55 : decode cX12_init 55 = .ok (.new 30, 3) := by decide +kernel
theorem dX12_init_58 : decode cX12_init 58 = .ok (.dup, 1) := by decide +kernel
theorem dX12_init_59 : decode cX12_init 59 = .ok (.aload_n 1, 1) := by decide +kernel
theorem dX12_init_60 : decode cX12_init 60 = .ok (.invokespecial 32, 3) := by decide +kernel
theorem dX12_init_63 : decode cX12_init 63 = .ok (.putfield 39, 3) := by decide +kernel
theorem dX12_init_66 : decode cX12_init 66 = .ok (.aload_n 0, 1) := by decide +kernel
theorem dX12_init_67 : decode cX12_init 67 = .ok (.new 30, 3) := by decide +kernel
theorem dX12_init_70 : decode cX12_init 70 = .ok (.dup, 1) := by decide +kernel
theorem dX12_init_71 : decode cX12_init 71 = .ok (.aload_n 1, 1) := by decide +kernel
theorem dX12_init_72 : decode cX12_init 72 = .ok (.invokespecial 32, 3) := by decide +kernel
theorem dX12_init_75 : decode cX12_init 75 = .ok (.putfield 42, 3) := by decide +kernel
theorem dX12_init_78 : decode cX12_init 78 = .ok (.aload_n 0, 1) := by decide +kernel
theorem dX12_init_79 : decode cX12_init 79 = .ok (.bipush 8, 2) := by decide +kernel
theorem dX12_init_81 : decode cX12_init 81 = .ok (.anewarray 30, 3) := by decide +kernel
theorem dX12_init_84 : decode cX12_init 84 = .ok (.putfield 45, 3) := by decide +kernel
theorem dX12_init_87 : decode cX12_init 87 = .ok (.iconst 0, 1) := by decide +kernel
theorem dX12_init_88 : decode cX12_init 88 = .ok (.istore_n 2, 1) := by decide +kernel
theorem dX12_init_89 : decode cX12_init 89 = .ok (.iload_n 2, 1) := by decide +kernel
theorem dX12_init_90 : decode cX12_init 90 = .ok (.bipush 8, 2) := by decide +kernel
theorem dX12_init_92 : decode cX12_init 92 = .ok (.if_icmp .ge 23, 3) := by decide +kernel
theorem dX12_init_95 : decode cX12_init 95 = .ok (.aload_n 0, 1) := by decide +kernel
theorem dX12_init_96 : decode cX12_init 96 = .ok (.getfield 45, 3) := by decide +kernel
theorem dX12_init_99 : decode cX12_init 99 = .ok (.iload_n 2, 1) := by decide +kernel
theorem dX12_init_100 : decode cX12_init 100 = .ok (.new 30, 3) := by decide +kernel
theorem dX12_init_103 : decode cX12_init 103 = .ok (.dup, 1) := by decide +kernel
theorem dX12_init_104 : decode cX12_init 104 = .ok (.aload_n 1, 1) := by decide +kernel
theorem dX12_init_105 : decode cX12_init 105 = .ok (.invokespecial 32, 3) := by decide +kernel
theorem dX12_init_108 : decode cX12_init 108 = .ok (.aastore, 1) := by decide +kernel
theorem dX12_init_109 : decode cX12_init 109 = .ok (.iinc 2 1, 3) := by decide +kernel
theorem dX12_init_112 : decode cX12_init 112 = .ok (.goto (-23), 3) := by decide +kernel
theorem dX12_init_115 : decode cX12_init 115 = .ok (.aload_n 0, 1) := by decide +kernel
theorem dX12_init_116 : decode cX12_init 116 = .ok (.new 49, 3) := by decide +kernel
theorem dX12_init_119 : decode cX12_init 119 = .ok (.dup, 1) := by decide +kernel
theorem dX12_init_120 : decode cX12_init 120 = .ok (.invokespecial 51, 3) := by decide +kernel
theorem dX12_init_123 : decode cX12_init 123 = .ok (.putfield 52, 3) := by decide +kernel
theorem dX12_init_126 : decode cX12_init 126 = .ok (.aload_n 0, 1) := by decide +kernel
theorem dX12_init_127 : decode cX12_init 127 = .ok (.new 56, 3) := by decide +kernel
theorem dX12_init_130 : decode cX12_init 130 = .ok (.dup, 1) := by decide +kernel
theorem dX12_init_131 : decode cX12_init 131 = .ok (.invokespecial 58, 3) := by decide +kernel
theorem dX12_init_134 : decode cX12_init 134 = .ok (.putfield 59, 3) := by decide +kernel
theorem dX12_init_137 : decode cX12_init 137 = .ok (.aload_n 0, 1) := by decide +kernel
theorem dX12_init_138 : decode cX12_init 138 = .ok (.bipush 12, 2) := by decide +kernel
theorem dX12_init_140 : decode cX12_init 140 = .ok (.newarray .int, 2) := by decide +kernel
theorem dX12_init_142 : decode cX12_init 142 = .ok (.putfield 63, 3) := by decide +kernel
theorem dX12_init_145 : decode cX12_init 145 = .ok (.aload_n 0, 1) := by decide +kernel
theorem dX12_init_146 : decode cX12_init 146 = .ok (.sipush 348, 3) := by decide +kernel
theorem dX12_init_149 : decode cX12_init 149 = .ok (.newarray .byte, 2) := by decide +kernel
theorem dX12_init_151 : decode cX12_init 151 = .ok (.putfield 67, 3) := by decide +kernel
theorem dX12_init_154 : decode cX12_init 154 = .ok (.return_, 1) := by decide +kernel
theorem hd_X12_init : yX12_init.cls = RX12 ∧ yX12_init.cls ≠ "java/lang/invoke/MethodHandle" ∧ yX12_init.cls ≠ "java/lang/invoke/VarHandle" ∧ (parseMethodDescriptor yX12_init.desc).map (fun d => d.parameters.length) = some 0 := by decide +kernel
theorem hs_X12_init : yX12_init.cls ≠ "java/lang/invoke/MethodHandle" ∧ yX12_init.cls ≠ "java/lang/invoke/VarHandle" ∧ (parseMethodDescriptor yX12_init.desc).map (fun d => d.parameters.length) = some 0 := by decide +kernel
set_option maxHeartbeats 4000000 in
set_option maxRecDepth 100000 in
theorem k_X12_init (l : Launch) (E : Ev) (K : Kd) (n : Nat) (o : Nat) (w : Wd) {K' : Kd} {n' : Nat} {w' : Wd} (hf : f_X12_init K n o w = some (K', n', w')) : Met l yX12_init (Cond.code yX12_init cX12_init 3 (Option.none : Option Jvm.ClassFile.FieldType) :: bt) ({ frames := 5, cells := 414, slots := 6467, locals := 105 } : Room) (va_Pc [rv E (some o)] (HB E K w (E.2.1 + n))) (QV E K' (E.2.1 + n') w') 414 6467 (hA E) := by
  refine Met.ofW (cc := cX12_init) (maxL := 3) (ret := (Option.none : Option Jvm.ClassFile.FieldType)) (by decide) rfl ?_
  intro p e s m args below meth c s₁ B hml hv
  have hn2 : meth.name = "<init>" := (name_of_methodNamed B.named B.method).1
  obtain ⟨rfl, hz, hP, hKs, hT, hb0⟩ := hv
  have C : CX p l e s m _ meth c cX12_init 3 RX12 (Option.none : Option Jvm.ClassFile.FieldType) E := ⟨B.exec, B.bytes, hml, findClass_of_methodNamed B.named, fun w h => atoms_spec (ws := Cond.code yX12_init cX12_init 3 (Option.none : Option Jvm.ClassFile.FieldType) :: bt) B.pre w (List.mem_cons_of_mem _ h), hKs, hT, by rw [hz]; exact hb0, B.notSynchronized, B.returns⟩
  have hH : HQ E K (E.2.1 + n) w s s.heap [] := ⟨hP, va_S.rf, hz⟩
  obtain ⟨hx, hb, hml, hown, hts, hKs, hT, hb0, hlocks, hret⟩ := id C
  have hl := lv_entry [rv E (some o)] (n := 3) (by simp [lg_len_nil, lg_len_i, lg_len_j, lg_len_q, lg_len_f, lg_len_d, lg_len_r])
  rw [lg_entry_eq]
  generalize (lg_sl [rv E (some o)] ++ List.replicate (3 - (lg_sl [rv E (some o)]).length) Slot.unset).toArray = ls at hl ⊢
  replace hl : lv_has ls 3 [(0, rv E (some o))] := by simpa only [lv_args, cat_q, cat_i, cat_j, reduceIte, Nat.reduceEqDiff, Nat.reduceAdd, Nat.zero_add] using hl
  generalize s.heap = H at hH ⊢
  unfold f_X12_init at hf
  refine hl_aload_n hx hb dX12_init_0 rfl (lv_at hl 0 rfl) ?_
  refine hw_obj hx hb hml hl.1 hown hts m1_39 m1_40 m1_41 dX12_init_1 (Nat.le_of_ble_eq_true rfl) (Nat.le_of_ble_eq_true rfl) ?_
  refine hw_new (ci := 8) (C := RX9) (T := TX9) (N := 15) hx hb hts iX9 tyX9 tyX9_ok hown m1_42 (hts _ m1_43) m1_2 hKs hb0 hH rfl rfl (fun j hj => dfX9 j hj) (Nat.le_of_ble_eq_true rfl) (Nat.le_of_ble_eq_true rfl) dX12_init_4 (fun H hH => ?_)
  obtain ⟨K1, hK1, hf⟩ := bnd hf
  replace hK1 := Option.some.inj hK1
  obtain ⟨w2, hw2, hf⟩ := bnd hf
  replace hw2 := Option.some.inj hw2
  rw [hK1, hw2] at hH
  refine lv_dup hx hb dX12_init_7 rv_cat ?_
  obtain ⟨q3, hq3, hf⟩ := bnd hf
  refine hcA hH (va_runI (As := []) (rest := [rv E (some n)]) ⟨hx, hb, hml, hown, hts⟩ (k_X9_init l E K1 (n + 1) n w2 hq3) (cwI _ hts (gC m1_46) rfl rfl rfl (hts _ m1_2) (hts _ m1_44) (hts _ m1_45) rfl hs_X9_init ⟨Nat.le_of_ble_eq_true rfl, Nat.le_of_ble_eq_true rfl⟩) ⟨HB.blind, HB.preN hKs hT hb0 hH⟩ rfl rfl hl.1 rfl (lv_room (rcV rc0)) dX12_init_8 ⟨Nat.le_of_ble_eq_true rfl, Nat.le_of_ble_eq_true rfl⟩) (fun H locs hH => ?_)
  refine hl_astore_n (i := 1) (lv' := [(1, rv E (some n)), (0, rv E (some o))]) hx hb dX12_init_11 rfl hl (by decide) rfl (fun ls hl => ?_)
  refine hl_aload_n hx hb dX12_init_12 rfl (lv_at hl 1 rfl) ?_
  refine lv_sipush (v := 900) hx hb dX12_init_13 (by decide) ?_
  refine hw_newa21 (N := 900) hx hb hts m2_21 hKs hH (by decide) (by decide) (Nat.le_of_ble_eq_true rfl) (Nat.le_of_ble_eq_true rfl) (Nat.le_of_ble_eq_true rfl) dX12_init_16 (fun H hH => ?_)
  obtain ⟨K4, hK4, hf⟩ := bnd hf
  replace hK4 := Option.some.inj hK4
  obtain ⟨w5, hw5, hf⟩ := bnd hf
  replace hw5 := Option.some.inj hw5
  rw [hK4, hw5] at hH
  obtain ⟨a6, ha6, hf⟩ := bnd hf
  replace ha6 := chk_some ha6
  obtain ⟨w7, hw7, hf⟩ := bnd hf
  replace hw7 := Option.some.inj hw7
  refine pf12_0 (v := (some q3.2.1)) hx hb hts hown hKs hH ha6.1 ha6.2 hn2 m2_209 dX12_init_18 (fun H locs hH => ?_)
  rw [hw7] at hH
  refine hl_aload_n hx hb dX12_init_21 rfl (lv_at hl 1 rfl) ?_
  refine hw_new (ci := 4) (C := RX5) (T := TX5) (N := 7) hx hb hts iX5 tyX5 tyX5_ok hown m1_221 (hts _ m1_222) m1_8 hKs hb0 hH rfl rfl (fun j hj => dfX5 j hj) (Nat.le_of_ble_eq_true rfl) (Nat.le_of_ble_eq_true rfl) dX12_init_22 (fun H hH => ?_)
  obtain ⟨K8, hK8, hf⟩ := bnd hf
  replace hK8 := Option.some.inj hK8
  obtain ⟨w9, hw9, hf⟩ := bnd hf
  replace hw9 := Option.some.inj hw9
  rw [hK8, hw9] at hH
  refine lv_dup hx hb dX12_init_25 rv_cat ?_
  obtain ⟨q10, hq10, hf⟩ := bnd hf
  refine hcA hH (va_runIN (As := []) (rest := [rv E (some (q3.2.1 + 1)), rv E (some o)]) ⟨hx, hb, hml, hown, hts⟩ (k_X5_init l E K8 ((q3.2.1 + 1) + 1) (q3.2.1 + 1) w9 hq10) ⟨va_cnB _ hts (gC m1_225) rfl rfl rfl (hKs.2.1 _ m1_223) (hts _ m1_8) hs_X5_init ⟨Nat.le_of_ble_eq_true rfl, Nat.le_of_ble_eq_true rfl⟩, rfl, hts _ m1_224⟩ ⟨HB.blind, HB.preN hKs hT hb0 hH⟩ rfl rfl hl.1 rfl (lv_room (rcV (rcV rc0))) dX12_init_26 ⟨Nat.le_of_ble_eq_true rfl, Nat.le_of_ble_eq_true rfl⟩) (fun H locs hH => ?_)
  obtain ⟨a11, ha11, hf⟩ := bnd hf
  replace ha11 := chk_some ha11
  obtain ⟨w12, hw12, hf⟩ := bnd hf
  replace hw12 := Option.some.inj hw12
  refine pf12_2 (v := (some (q3.2.1 + 1))) hx hb hts hown hKs hH ha11.1 ha11.2 hn2 m2_211 dX12_init_29 (fun H locs hH => ?_)
  rw [hw12] at hH
  refine hl_aload_n hx hb dX12_init_32 rfl (lv_at hl 1 rfl) ?_
  refine lv_iconst (v := 0) hx hb dX12_init_33 (by decide) ?_
  obtain ⟨w13, hw13, hf⟩ := bnd hf
  replace hw13 := Option.some.inj hw13
  refine p12_3 (v := 0) hx hb hts hown hKs hH ha11.1 ha11.2 m2_212 dX12_init_34 (fun H locs hH => ?_)
  rw [hw13] at hH
  refine hl_aload_n hx hb dX12_init_37 rfl (lv_at hl 1 rfl) ?_
  refine lv_iconst (v := (-1)) hx hb dX12_init_38 (by decide) ?_
  obtain ⟨w14, hw14, hf⟩ := bnd hf
  replace hw14 := Option.some.inj hw14
  refine p12_4 (v := (-1)) hx hb hts hown hKs hH ha11.1 ha11.2 m2_213 dX12_init_39 (fun H locs hH => ?_)
  rw [hw14] at hH
  refine hl_aload_n hx hb dX12_init_42 rfl (lv_at hl 1 rfl) ?_
  refine hw_new (ci := 9) (C := RX10) (T := TX10) (N := 6) hx hb hts iX10 tyX10 tyX10_ok hown m2_48 (hts _ m2_49) m1_12 hKs hb0 hH rfl rfl (fun j hj => dfX10 j hj) (Nat.le_of_ble_eq_true rfl) (Nat.le_of_ble_eq_true rfl) dX12_init_43 (fun H hH => ?_)
  obtain ⟨K15, hK15, hf⟩ := bnd hf
  replace hK15 := Option.some.inj hK15
  obtain ⟨w16, hw16, hf⟩ := bnd hf
  replace hw16 := Option.some.inj hw16
  rw [hK15, hw16] at hH
  refine lv_dup hx hb dX12_init_46 rv_cat ?_
  refine hl_aload_n hx hb dX12_init_47 rfl (lv_at hl 0 rfl) ?_
  obtain ⟨q17, hq17, hf⟩ := bnd hf
  refine hcA hH (va_runI (As := [rv E (some n)]) (rest := [rv E (some q10.2.1), rv E (some o)]) ⟨hx, hb, hml, hown, hts⟩ (k_X10_init l E K15 (q10.2.1 + 1) q10.2.1 (some n) w16 hq17) (cwI _ hts (gC m2_52) rfl rfl rfl (hts _ m1_12) (hts _ m2_50) (hts _ m2_51) rfl hs_X10_init ⟨Nat.le_of_ble_eq_true rfl, Nat.le_of_ble_eq_true rfl⟩) ⟨HB.blind, HB.preN hKs hT hb0 hH⟩ rfl rfl hl.1 rfl (lv_room (rcV (rcV rc0))) dX12_init_48 ⟨Nat.le_of_ble_eq_true rfl, Nat.le_of_ble_eq_true rfl⟩) (fun H locs hH => ?_)
  obtain ⟨a18, ha18, hf⟩ := bnd hf
  replace ha18 := chk_some ha18
  obtain ⟨w19, hw19, hf⟩ := bnd hf
  replace hw19 := Option.some.inj hw19
  refine pf12_5 (v := (some q10.2.1)) hx hb hts hown hKs hH ha18.1 ha18.2 hn2 m2_214 dX12_init_51 (fun H locs hH => ?_)
  rw [hw19] at hH
  refine hl_aload_n hx hb dX12_init_54 rfl (lv_at hl 1 rfl) ?_
  refine hw_new (ci := 9) (C := RX10) (T := TX10) (N := 6) hx hb hts iX10 tyX10 tyX10_ok hown m2_48 (hts _ m2_49) m1_12 hKs hb0 hH rfl rfl (fun j hj => dfX10 j hj) (Nat.le_of_ble_eq_true rfl) (Nat.le_of_ble_eq_true rfl) dX12_init_55 (fun H hH => ?_)
  obtain ⟨K20, hK20, hf⟩ := bnd hf
  replace hK20 := Option.some.inj hK20
  obtain ⟨w21, hw21, hf⟩ := bnd hf
  replace hw21 := Option.some.inj hw21
  rw [hK20, hw21] at hH
  refine lv_dup hx hb dX12_init_58 rv_cat ?_
  refine hl_aload_n hx hb dX12_init_59 rfl (lv_at hl 0 rfl) ?_
  obtain ⟨q22, hq22, hf⟩ := bnd hf
  refine hcA hH (va_runI (As := [rv E (some n)]) (rest := [rv E (some q17.2.1), rv E (some o)]) ⟨hx, hb, hml, hown, hts⟩ (k_X10_init l E K20 (q17.2.1 + 1) q17.2.1 (some n) w21 hq22) (cwI _ hts (gC m2_52) rfl rfl rfl (hts _ m1_12) (hts _ m2_50) (hts _ m2_51) rfl hs_X10_init ⟨Nat.le_of_ble_eq_true rfl, Nat.le_of_ble_eq_true rfl⟩) ⟨HB.blind, HB.preN hKs hT hb0 hH⟩ rfl rfl hl.1 rfl (lv_room (rcV (rcV rc0))) dX12_init_60 ⟨Nat.le_of_ble_eq_true rfl, Nat.le_of_ble_eq_true rfl⟩) (fun H locs hH => ?_)
  obtain ⟨a23, ha23, hf⟩ := bnd hf
  replace ha23 := chk_some ha23
  obtain ⟨w24, hw24, hf⟩ := bnd hf
  replace hw24 := Option.some.inj hw24
  refine pf12_6 (v := (some q17.2.1)) hx hb hts hown hKs hH ha23.1 ha23.2 hn2 m2_215 dX12_init_63 (fun H locs hH => ?_)
  rw [hw24] at hH
  refine hl_aload_n hx hb dX12_init_66 rfl (lv_at hl 1 rfl) ?_
  refine hw_new (ci := 9) (C := RX10) (T := TX10) (N := 6) hx hb hts iX10 tyX10 tyX10_ok hown m2_48 (hts _ m2_49) m1_12 hKs hb0 hH rfl rfl (fun j hj => dfX10 j hj) (Nat.le_of_ble_eq_true rfl) (Nat.le_of_ble_eq_true rfl) dX12_init_67 (fun H hH => ?_)
  obtain ⟨K25, hK25, hf⟩ := bnd hf
  replace hK25 := Option.some.inj hK25
  obtain ⟨w26, hw26, hf⟩ := bnd hf
  replace hw26 := Option.some.inj hw26
  rw [hK25, hw26] at hH
  refine lv_dup hx hb dX12_init_70 rv_cat ?_
  refine hl_aload_n hx hb dX12_init_71 rfl (lv_at hl 0 rfl) ?_
  obtain ⟨q27, hq27, hf⟩ := bnd hf
  refine hcA hH (va_runI (As := [rv E (some n)]) (rest := [rv E (some q22.2.1), rv E (some o)]) ⟨hx, hb, hml, hown, hts⟩ (k_X10_init l E K25 (q22.2.1 + 1) q22.2.1 (some n) w26 hq27) (cwI _ hts (gC m2_52) rfl rfl rfl (hts _ m1_12) (hts _ m2_50) (hts _ m2_51) rfl hs_X10_init ⟨Nat.le_of_ble_eq_true rfl, Nat.le_of_ble_eq_true rfl⟩) ⟨HB.blind, HB.preN hKs hT hb0 hH⟩ rfl rfl hl.1 rfl (lv_room (rcV (rcV rc0))) dX12_init_72 ⟨Nat.le_of_ble_eq_true rfl, Nat.le_of_ble_eq_true rfl⟩) (fun H locs hH => ?_)
  obtain ⟨a28, ha28, hf⟩ := bnd hf
  replace ha28 := chk_some ha28
  obtain ⟨w29, hw29, hf⟩ := bnd hf
  replace hw29 := Option.some.inj hw29
  refine pf12_8 (v := (some q22.2.1)) hx hb hts hown hKs hH ha28.1 ha28.2 hn2 m2_217 dX12_init_75 (fun H locs hH => ?_)
  rw [hw29] at hH
  refine hl_aload_n hx hb dX12_init_78 rfl (lv_at hl 1 rfl) ?_
  refine lv_bipush (v := 8) hx hb dX12_init_79 (by decide) ?_
  refine hw_newq28 (N := 8) hx hb hts hown m2_48 (va_AO.use (hKs.2.2.2.2.2 _ (by decide))) hKs hH (by decide) (by decide) (Nat.le_of_ble_eq_true rfl) (Nat.le_of_ble_eq_true rfl) (Nat.le_of_ble_eq_true rfl) dX12_init_81 (fun H hH => ?_)
  obtain ⟨K30, hK30, hf⟩ := bnd hf
  replace hK30 := Option.some.inj hK30
  obtain ⟨w31, hw31, hf⟩ := bnd hf
  replace hw31 := Option.some.inj hw31
  rw [hK30, hw31] at hH
  obtain ⟨a32, ha32, hf⟩ := bnd hf
  replace ha32 := chk_some ha32
  obtain ⟨w33, hw33, hf⟩ := bnd hf
  replace hw33 := Option.some.inj hw33
  refine pf12_9 (v := (some q27.2.1)) hx hb hts hown hKs hH ha32.1 ha32.2 hn2 m2_218 dX12_init_84 (fun H locs hH => ?_)
  rw [hw33] at hH
  refine lv_iconst (v := 0) hx hb dX12_init_87 (by decide) ?_
  refine lv_istore_n (i := 2) (lv' := [(2, .int 0), (1, rv E (some n)), (0, rv E (some o))]) hx hb dX12_init_88 rfl hl (by decide) (by simp [List.filter_cons, cat_q, cat_i, cat_j, imax, imin]) (fun ls hl => ?_)
  refine lv_iload_n hx hb dX12_init_89 rfl (lv_at hl 0 rfl) ?_
  refine lv_bipush (v := 8) hx hb dX12_init_90 (by decide) ?_
  refine lv_icmp_ge (tgt := 115) hx hb dX12_init_92 (by decide) (fun c34 => ?_) (fun c34 => ?_)
  · exact (by revert c34; decide : False).elim
  · skip
    refine hl_aload_n hx hb dX12_init_95 rfl (lv_at hl 2 rfl) ?_
    refine g12_9 hx hb hts hown hKs hH ha32.1 ha32.2 m2_218 dX12_init_96 ?_
    refine lv_iload_n hx hb dX12_init_99 rfl (lv_at hl 0 rfl) ?_
    refine hw_new (ci := 9) (C := RX10) (T := TX10) (N := 6) hx hb hts iX10 tyX10 tyX10_ok hown m2_48 (hts _ m2_49) m1_12 hKs hb0 hH rfl rfl (fun j hj => dfX10 j hj) (Nat.le_of_ble_eq_true rfl) (Nat.le_of_ble_eq_true rfl) dX12_init_100 (fun H hH => ?_)
    obtain ⟨K35, hK35, hf⟩ := bnd hf
    replace hK35 := Option.some.inj hK35
    obtain ⟨w36, hw36, hf⟩ := bnd hf
    replace hw36 := Option.some.inj hw36
    rw [hK35, hw36] at hH
    refine lv_dup hx hb dX12_init_103 rv_cat ?_
    refine hl_aload_n hx hb dX12_init_104 rfl (lv_at hl 1 rfl) ?_
    obtain ⟨q37, hq37, hf⟩ := bnd hf
    refine hcA hH (va_runI (As := [rv E (some n)]) (rest := [rv E (some (q27.2.1 + 1)), .int 0, rv E (wR w33 1209 a32)]) ⟨hx, hb, hml, hown, hts⟩ (k_X10_init l E K35 ((q27.2.1 + 1) + 1) (q27.2.1 + 1) (some n) w36 hq37) (cwI _ hts (gC m2_52) rfl rfl rfl (hts _ m1_12) (hts _ m2_50) (hts _ m2_51) rfl hs_X10_init ⟨Nat.le_of_ble_eq_true rfl, Nat.le_of_ble_eq_true rfl⟩) ⟨HB.blind, HB.preN hKs hT hb0 hH⟩ rfl rfl hl.1 rfl (lv_room (rcV (rcI (rcV rc0)))) dX12_init_105 ⟨Nat.le_of_ble_eq_true rfl, Nat.le_of_ble_eq_true rfl⟩) (fun H locs hH => ?_)
    obtain ⟨a38, ha38, hf⟩ := bnd hf
    replace ha38 := cha_some ha38
    obtain ⟨j39, hj39, hf⟩ := bnd hf
    obtain ⟨a40, ha40, hf⟩ := bnd hf
    replace ha40 := chk_some ha40
    obtain ⟨w41, hw41, hf⟩ := bnd hf
    replace hw41 := Option.some.inj hw41
    refine hw_aast28 hx hb hKs hH ha38.1 ha38.2 ha40.1 ha40.2 hj39 dX12_init_108 (fun H locs hH => ?_)
    rw [hw41] at hH
    refine lv_iinc (v := 1) (lv' := [(2, .int 1), (1, rv E (some n)), (0, rv E (some o))]) hx hb dX12_init_109 hl (k := 0) rfl rfl (by decide) (by simp [List.filter_cons, cat_q, cat_i, cat_j, imax, imin]) (fun ls hl => ?_)
    refine lv_goto (tgt := 89) hx hb dX12_init_112 (by decide) ?_
    refine lv_iload_n hx hb dX12_init_89 rfl (lv_at hl 0 rfl) ?_
    refine lv_bipush (v := 8) hx hb dX12_init_90 (by decide) ?_
    refine lv_icmp_ge (tgt := 115) hx hb dX12_init_92 (by decide) (fun c42 => ?_) (fun c42 => ?_)
    · exact (by revert c42; decide : False).elim
    · skip
      refine hl_aload_n hx hb dX12_init_95 rfl (lv_at hl 2 rfl) ?_
      obtain ⟨a43, ha43, hf⟩ := bnd hf
      replace ha43 := chk_some ha43
      refine g12_9 hx hb hts hown hKs hH ha43.1 ha43.2 m2_218 dX12_init_96 ?_
      refine lv_iload_n hx hb dX12_init_99 rfl (lv_at hl 0 rfl) ?_
      refine hw_new (ci := 9) (C := RX10) (T := TX10) (N := 6) hx hb hts iX10 tyX10 tyX10_ok hown m2_48 (hts _ m2_49) m1_12 hKs hb0 hH rfl rfl (fun j hj => dfX10 j hj) (Nat.le_of_ble_eq_true rfl) (Nat.le_of_ble_eq_true rfl) dX12_init_100 (fun H hH => ?_)
      obtain ⟨K44, hK44, hf⟩ := bnd hf
      replace hK44 := Option.some.inj hK44
      obtain ⟨w45, hw45, hf⟩ := bnd hf
      replace hw45 := Option.some.inj hw45
      rw [hK44, hw45] at hH
      refine lv_dup hx hb dX12_init_103 rv_cat ?_
      refine hl_aload_n hx hb dX12_init_104 rfl (lv_at hl 1 rfl) ?_
      obtain ⟨q46, hq46, hf⟩ := bnd hf
      refine hcA hH (va_runI (As := [rv E (some n)]) (rest := [rv E (some q37.2.1), .int 1, rv E (wR w41 1209 a43)]) ⟨hx, hb, hml, hown, hts⟩ (k_X10_init l E K44 (q37.2.1 + 1) q37.2.1 (some n) w45 hq46) (cwI _ hts (gC m2_52) rfl rfl rfl (hts _ m1_12) (hts _ m2_50) (hts _ m2_51) rfl hs_X10_init ⟨Nat.le_of_ble_eq_true rfl, Nat.le_of_ble_eq_true rfl⟩) ⟨HB.blind, HB.preN hKs hT hb0 hH⟩ rfl rfl hl.1 rfl (lv_room (rcV (rcI (rcV rc0)))) dX12_init_105 ⟨Nat.le_of_ble_eq_true rfl, Nat.le_of_ble_eq_true rfl⟩) (fun H locs hH => ?_)
      obtain ⟨a47, ha47, hf⟩ := bnd hf
      replace ha47 := cha_some ha47
      obtain ⟨j48, hj48, hf⟩ := bnd hf
      obtain ⟨a49, ha49, hf⟩ := bnd hf
      replace ha49 := chk_some ha49
      obtain ⟨w50, hw50, hf⟩ := bnd hf
      replace hw50 := Option.some.inj hw50
      refine hw_aast28 hx hb hKs hH ha47.1 ha47.2 ha49.1 ha49.2 hj48 dX12_init_108 (fun H locs hH => ?_)
      rw [hw50] at hH
      refine lv_iinc (v := 2) (lv' := [(2, .int 2), (1, rv E (some n)), (0, rv E (some o))]) hx hb dX12_init_109 hl (k := 0) rfl rfl (by decide) (by simp [List.filter_cons, cat_q, cat_i, cat_j, imax, imin]) (fun ls hl => ?_)
      refine lv_goto (tgt := 89) hx hb dX12_init_112 (by decide) ?_
      refine lv_iload_n hx hb dX12_init_89 rfl (lv_at hl 0 rfl) ?_
      refine lv_bipush (v := 8) hx hb dX12_init_90 (by decide) ?_
      refine lv_icmp_ge (tgt := 115) hx hb dX12_init_92 (by decide) (fun c51 => ?_) (fun c51 => ?_)
      · exact (by revert c51; decide : False).elim
      · skip
        refine hl_aload_n hx hb dX12_init_95 rfl (lv_at hl 2 rfl) ?_
        obtain ⟨a52, ha52, hf⟩ := bnd hf
        replace ha52 := chk_some ha52
        refine g12_9 hx hb hts hown hKs hH ha52.1 ha52.2 m2_218 dX12_init_96 ?_
        refine lv_iload_n hx hb dX12_init_99 rfl (lv_at hl 0 rfl) ?_
        refine hw_new (ci := 9) (C := RX10) (T := TX10) (N := 6) hx hb hts iX10 tyX10 tyX10_ok hown m2_48 (hts _ m2_49) m1_12 hKs hb0 hH rfl rfl (fun j hj => dfX10 j hj) (Nat.le_of_ble_eq_true rfl) (Nat.le_of_ble_eq_true rfl) dX12_init_100 (fun H hH => ?_)
        obtain ⟨K53, hK53, hf⟩ := bnd hf
        replace hK53 := Option.some.inj hK53
        obtain ⟨w54, hw54, hf⟩ := bnd hf
        replace hw54 := Option.some.inj hw54
        rw [hK53, hw54] at hH
        refine lv_dup hx hb dX12_init_103 rv_cat ?_
        refine hl_aload_n hx hb dX12_init_104 rfl (lv_at hl 1 rfl) ?_
        obtain ⟨q55, hq55, hf⟩ := bnd hf
        refine hcA hH (va_runI (As := [rv E (some n)]) (rest := [rv E (some q46.2.1), .int 2, rv E (wR w50 1209 a52)]) ⟨hx, hb, hml, hown, hts⟩ (k_X10_init l E K53 (q46.2.1 + 1) q46.2.1 (some n) w54 hq55) (cwI _ hts (gC m2_52) rfl rfl rfl (hts _ m1_12) (hts _ m2_50) (hts _ m2_51) rfl hs_X10_init ⟨Nat.le_of_ble_eq_true rfl, Nat.le_of_ble_eq_true rfl⟩) ⟨HB.blind, HB.preN hKs hT hb0 hH⟩ rfl rfl hl.1 rfl (lv_room (rcV (rcI (rcV rc0)))) dX12_init_105 ⟨Nat.le_of_ble_eq_true rfl, Nat.le_of_ble_eq_true rfl⟩) (fun H locs hH => ?_)
        obtain ⟨a56, ha56, hf⟩ := bnd hf
        replace ha56 := cha_some ha56
        obtain ⟨j57, hj57, hf⟩ := bnd hf
        obtain ⟨a58, ha58, hf⟩ := bnd hf
        replace ha58 := chk_some ha58
        obtain ⟨w59, hw59, hf⟩ := bnd hf
        replace hw59 := Option.some.inj hw59
        refine hw_aast28 hx hb hKs hH ha56.1 ha56.2 ha58.1 ha58.2 hj57 dX12_init_108 (fun H locs hH => ?_)
        rw [hw59] at hH
        refine lv_iinc (v := 3) (lv' := [(2, .int 3), (1, rv E (some n)), (0, rv E (some o))]) hx hb dX12_init_109 hl (k := 0) rfl rfl (by decide) (by simp [List.filter_cons, cat_q, cat_i, cat_j, imax, imin]) (fun ls hl => ?_)
        refine lv_goto (tgt := 89) hx hb dX12_init_112 (by decide) ?_
        refine lv_iload_n hx hb dX12_init_89 rfl (lv_at hl 0 rfl) ?_
        refine lv_bipush (v := 8) hx hb dX12_init_90 (by decide) ?_
        refine lv_icmp_ge (tgt := 115) hx hb dX12_init_92 (by decide) (fun c60 => ?_) (fun c60 => ?_)
        · exact (by revert c60; decide : False).elim
        · skip
          refine hl_aload_n hx hb dX12_init_95 rfl (lv_at hl 2 rfl) ?_
          obtain ⟨a61, ha61, hf⟩ := bnd hf
          replace ha61 := chk_some ha61
          refine g12_9 hx hb hts hown hKs hH ha61.1 ha61.2 m2_218 dX12_init_96 ?_
          refine lv_iload_n hx hb dX12_init_99 rfl (lv_at hl 0 rfl) ?_
          refine hw_new (ci := 9) (C := RX10) (T := TX10) (N := 6) hx hb hts iX10 tyX10 tyX10_ok hown m2_48 (hts _ m2_49) m1_12 hKs hb0 hH rfl rfl (fun j hj => dfX10 j hj) (Nat.le_of_ble_eq_true rfl) (Nat.le_of_ble_eq_true rfl) dX12_init_100 (fun H hH => ?_)
          obtain ⟨K62, hK62, hf⟩ := bnd hf
          replace hK62 := Option.some.inj hK62
          obtain ⟨w63, hw63, hf⟩ := bnd hf
          replace hw63 := Option.some.inj hw63
          rw [hK62, hw63] at hH
          refine lv_dup hx hb dX12_init_103 rv_cat ?_
          refine hl_aload_n hx hb dX12_init_104 rfl (lv_at hl 1 rfl) ?_
          obtain ⟨q64, hq64, hf⟩ := bnd hf
          refine hcA hH (va_runI (As := [rv E (some n)]) (rest := [rv E (some q55.2.1), .int 3, rv E (wR w59 1209 a61)]) ⟨hx, hb, hml, hown, hts⟩ (k_X10_init l E K62 (q55.2.1 + 1) q55.2.1 (some n) w63 hq64) (cwI _ hts (gC m2_52) rfl rfl rfl (hts _ m1_12) (hts _ m2_50) (hts _ m2_51) rfl hs_X10_init ⟨Nat.le_of_ble_eq_true rfl, Nat.le_of_ble_eq_true rfl⟩) ⟨HB.blind, HB.preN hKs hT hb0 hH⟩ rfl rfl hl.1 rfl (lv_room (rcV (rcI (rcV rc0)))) dX12_init_105 ⟨Nat.le_of_ble_eq_true rfl, Nat.le_of_ble_eq_true rfl⟩) (fun H locs hH => ?_)
          obtain ⟨a65, ha65, hf⟩ := bnd hf
          replace ha65 := cha_some ha65
          obtain ⟨j66, hj66, hf⟩ := bnd hf
          obtain ⟨a67, ha67, hf⟩ := bnd hf
          replace ha67 := chk_some ha67
          obtain ⟨w68, hw68, hf⟩ := bnd hf
          replace hw68 := Option.some.inj hw68
          refine hw_aast28 hx hb hKs hH ha65.1 ha65.2 ha67.1 ha67.2 hj66 dX12_init_108 (fun H locs hH => ?_)
          rw [hw68] at hH
          refine lv_iinc (v := 4) (lv' := [(2, .int 4), (1, rv E (some n)), (0, rv E (some o))]) hx hb dX12_init_109 hl (k := 0) rfl rfl (by decide) (by simp [List.filter_cons, cat_q, cat_i, cat_j, imax, imin]) (fun ls hl => ?_)
          refine lv_goto (tgt := 89) hx hb dX12_init_112 (by decide) ?_
          refine lv_iload_n hx hb dX12_init_89 rfl (lv_at hl 0 rfl) ?_
          refine lv_bipush (v := 8) hx hb dX12_init_90 (by decide) ?_
          refine lv_icmp_ge (tgt := 115) hx hb dX12_init_92 (by decide) (fun c69 => ?_) (fun c69 => ?_)
          · exact (by revert c69; decide : False).elim
          · skip
            refine hl_aload_n hx hb dX12_init_95 rfl (lv_at hl 2 rfl) ?_
            obtain ⟨a70, ha70, hf⟩ := bnd hf
            replace ha70 := chk_some ha70
            refine g12_9 hx hb hts hown hKs hH ha70.1 ha70.2 m2_218 dX12_init_96 ?_
            refine lv_iload_n hx hb dX12_init_99 rfl (lv_at hl 0 rfl) ?_
            refine hw_new (ci := 9) (C := RX10) (T := TX10) (N := 6) hx hb hts iX10 tyX10 tyX10_ok hown m2_48 (hts _ m2_49) m1_12 hKs hb0 hH rfl rfl (fun j hj => dfX10 j hj) (Nat.le_of_ble_eq_true rfl) (Nat.le_of_ble_eq_true rfl) dX12_init_100 (fun H hH => ?_)
            obtain ⟨K71, hK71, hf⟩ := bnd hf
            replace hK71 := Option.some.inj hK71
            obtain ⟨w72, hw72, hf⟩ := bnd hf
            replace hw72 := Option.some.inj hw72
            rw [hK71, hw72] at hH
            refine lv_dup hx hb dX12_init_103 rv_cat ?_
            refine hl_aload_n hx hb dX12_init_104 rfl (lv_at hl 1 rfl) ?_
            obtain ⟨q73, hq73, hf⟩ := bnd hf
            refine hcA hH (va_runI (As := [rv E (some n)]) (rest := [rv E (some q64.2.1), .int 4, rv E (wR w68 1209 a70)]) ⟨hx, hb, hml, hown, hts⟩ (k_X10_init l E K71 (q64.2.1 + 1) q64.2.1 (some n) w72 hq73) (cwI _ hts (gC m2_52) rfl rfl rfl (hts _ m1_12) (hts _ m2_50) (hts _ m2_51) rfl hs_X10_init ⟨Nat.le_of_ble_eq_true rfl, Nat.le_of_ble_eq_true rfl⟩) ⟨HB.blind, HB.preN hKs hT hb0 hH⟩ rfl rfl hl.1 rfl (lv_room (rcV (rcI (rcV rc0)))) dX12_init_105 ⟨Nat.le_of_ble_eq_true rfl, Nat.le_of_ble_eq_true rfl⟩) (fun H locs hH => ?_)
            obtain ⟨a74, ha74, hf⟩ := bnd hf
            replace ha74 := cha_some ha74
            obtain ⟨j75, hj75, hf⟩ := bnd hf
            obtain ⟨a76, ha76, hf⟩ := bnd hf
            replace ha76 := chk_some ha76
            obtain ⟨w77, hw77, hf⟩ := bnd hf
            replace hw77 := Option.some.inj hw77
            refine hw_aast28 hx hb hKs hH ha74.1 ha74.2 ha76.1 ha76.2 hj75 dX12_init_108 (fun H locs hH => ?_)
            rw [hw77] at hH
            refine lv_iinc (v := 5) (lv' := [(2, .int 5), (1, rv E (some n)), (0, rv E (some o))]) hx hb dX12_init_109 hl (k := 0) rfl rfl (by decide) (by simp [List.filter_cons, cat_q, cat_i, cat_j, imax, imin]) (fun ls hl => ?_)
            refine lv_goto (tgt := 89) hx hb dX12_init_112 (by decide) ?_
            refine lv_iload_n hx hb dX12_init_89 rfl (lv_at hl 0 rfl) ?_
            refine lv_bipush (v := 8) hx hb dX12_init_90 (by decide) ?_
            refine lv_icmp_ge (tgt := 115) hx hb dX12_init_92 (by decide) (fun c78 => ?_) (fun c78 => ?_)
            · exact (by revert c78; decide : False).elim
            · skip
              refine hl_aload_n hx hb dX12_init_95 rfl (lv_at hl 2 rfl) ?_
              obtain ⟨a79, ha79, hf⟩ := bnd hf
              replace ha79 := chk_some ha79
              refine g12_9 hx hb hts hown hKs hH ha79.1 ha79.2 m2_218 dX12_init_96 ?_
              refine lv_iload_n hx hb dX12_init_99 rfl (lv_at hl 0 rfl) ?_
              refine hw_new (ci := 9) (C := RX10) (T := TX10) (N := 6) hx hb hts iX10 tyX10 tyX10_ok hown m2_48 (hts _ m2_49) m1_12 hKs hb0 hH rfl rfl (fun j hj => dfX10 j hj) (Nat.le_of_ble_eq_true rfl) (Nat.le_of_ble_eq_true rfl) dX12_init_100 (fun H hH => ?_)
              obtain ⟨K80, hK80, hf⟩ := bnd hf
              replace hK80 := Option.some.inj hK80
              obtain ⟨w81, hw81, hf⟩ := bnd hf
              replace hw81 := Option.some.inj hw81
              rw [hK80, hw81] at hH
              refine lv_dup hx hb dX12_init_103 rv_cat ?_
              refine hl_aload_n hx hb dX12_init_104 rfl (lv_at hl 1 rfl) ?_
              obtain ⟨q82, hq82, hf⟩ := bnd hf
              refine hcA hH (va_runI (As := [rv E (some n)]) (rest := [rv E (some q73.2.1), .int 5, rv E (wR w77 1209 a79)]) ⟨hx, hb, hml, hown, hts⟩ (k_X10_init l E K80 (q73.2.1 + 1) q73.2.1 (some n) w81 hq82) (cwI _ hts (gC m2_52) rfl rfl rfl (hts _ m1_12) (hts _ m2_50) (hts _ m2_51) rfl hs_X10_init ⟨Nat.le_of_ble_eq_true rfl, Nat.le_of_ble_eq_true rfl⟩) ⟨HB.blind, HB.preN hKs hT hb0 hH⟩ rfl rfl hl.1 rfl (lv_room (rcV (rcI (rcV rc0)))) dX12_init_105 ⟨Nat.le_of_ble_eq_true rfl, Nat.le_of_ble_eq_true rfl⟩) (fun H locs hH => ?_)
              obtain ⟨a83, ha83, hf⟩ := bnd hf
              replace ha83 := cha_some ha83
              obtain ⟨j84, hj84, hf⟩ := bnd hf
              obtain ⟨a85, ha85, hf⟩ := bnd hf
              replace ha85 := chk_some ha85
              obtain ⟨w86, hw86, hf⟩ := bnd hf
              replace hw86 := Option.some.inj hw86
              refine hw_aast28 hx hb hKs hH ha83.1 ha83.2 ha85.1 ha85.2 hj84 dX12_init_108 (fun H locs hH => ?_)
              rw [hw86] at hH
              refine lv_iinc (v := 6) (lv' := [(2, .int 6), (1, rv E (some n)), (0, rv E (some o))]) hx hb dX12_init_109 hl (k := 0) rfl rfl (by decide) (by simp [List.filter_cons, cat_q, cat_i, cat_j, imax, imin]) (fun ls hl => ?_)
              refine lv_goto (tgt := 89) hx hb dX12_init_112 (by decide) ?_
              refine lv_iload_n hx hb dX12_init_89 rfl (lv_at hl 0 rfl) ?_
              refine lv_bipush (v := 8) hx hb dX12_init_90 (by decide) ?_
              refine lv_icmp_ge (tgt := 115) hx hb dX12_init_92 (by decide) (fun c87 => ?_) (fun c87 => ?_)
              · exact (by revert c87; decide : False).elim
              · skip
                refine hl_aload_n hx hb dX12_init_95 rfl (lv_at hl 2 rfl) ?_
                obtain ⟨a88, ha88, hf⟩ := bnd hf
                replace ha88 := chk_some ha88
                refine g12_9 hx hb hts hown hKs hH ha88.1 ha88.2 m2_218 dX12_init_96 ?_
                refine lv_iload_n hx hb dX12_init_99 rfl (lv_at hl 0 rfl) ?_
                refine hw_new (ci := 9) (C := RX10) (T := TX10) (N := 6) hx hb hts iX10 tyX10 tyX10_ok hown m2_48 (hts _ m2_49) m1_12 hKs hb0 hH rfl rfl (fun j hj => dfX10 j hj) (Nat.le_of_ble_eq_true rfl) (Nat.le_of_ble_eq_true rfl) dX12_init_100 (fun H hH => ?_)
                obtain ⟨K89, hK89, hf⟩ := bnd hf
                replace hK89 := Option.some.inj hK89
                obtain ⟨w90, hw90, hf⟩ := bnd hf
                replace hw90 := Option.some.inj hw90
                rw [hK89, hw90] at hH
                refine lv_dup hx hb dX12_init_103 rv_cat ?_
                refine hl_aload_n hx hb dX12_init_104 rfl (lv_at hl 1 rfl) ?_
                obtain ⟨q91, hq91, hf⟩ := bnd hf
                refine hcA hH (va_runI (As := [rv E (some n)]) (rest := [rv E (some q82.2.1), .int 6, rv E (wR w86 1209 a88)]) ⟨hx, hb, hml, hown, hts⟩ (k_X10_init l E K89 (q82.2.1 + 1) q82.2.1 (some n) w90 hq91) (cwI _ hts (gC m2_52) rfl rfl rfl (hts _ m1_12) (hts _ m2_50) (hts _ m2_51) rfl hs_X10_init ⟨Nat.le_of_ble_eq_true rfl, Nat.le_of_ble_eq_true rfl⟩) ⟨HB.blind, HB.preN hKs hT hb0 hH⟩ rfl rfl hl.1 rfl (lv_room (rcV (rcI (rcV rc0)))) dX12_init_105 ⟨Nat.le_of_ble_eq_true rfl, Nat.le_of_ble_eq_true rfl⟩) (fun H locs hH => ?_)
                obtain ⟨a92, ha92, hf⟩ := bnd hf
                replace ha92 := cha_some ha92
                obtain ⟨j93, hj93, hf⟩ := bnd hf
                obtain ⟨a94, ha94, hf⟩ := bnd hf
                replace ha94 := chk_some ha94
                obtain ⟨w95, hw95, hf⟩ := bnd hf
                replace hw95 := Option.some.inj hw95
                refine hw_aast28 hx hb hKs hH ha92.1 ha92.2 ha94.1 ha94.2 hj93 dX12_init_108 (fun H locs hH => ?_)
                rw [hw95] at hH
                refine lv_iinc (v := 7) (lv' := [(2, .int 7), (1, rv E (some n)), (0, rv E (some o))]) hx hb dX12_init_109 hl (k := 0) rfl rfl (by decide) (by simp [List.filter_cons, cat_q, cat_i, cat_j, imax, imin]) (fun ls hl => ?_)
                refine lv_goto (tgt := 89) hx hb dX12_init_112 (by decide) ?_
                refine lv_iload_n hx hb dX12_init_89 rfl (lv_at hl 0 rfl) ?_
                refine lv_bipush (v := 8) hx hb dX12_init_90 (by decide) ?_
                refine lv_icmp_ge (tgt := 115) hx hb dX12_init_92 (by decide) (fun c96 => ?_) (fun c96 => ?_)
                · exact (by revert c96; decide : False).elim
                · skip
                  refine hl_aload_n hx hb dX12_init_95 rfl (lv_at hl 2 rfl) ?_
                  obtain ⟨a97, ha97, hf⟩ := bnd hf
                  replace ha97 := chk_some ha97
                  refine g12_9 hx hb hts hown hKs hH ha97.1 ha97.2 m2_218 dX12_init_96 ?_
                  refine lv_iload_n hx hb dX12_init_99 rfl (lv_at hl 0 rfl) ?_
                  refine hw_new (ci := 9) (C := RX10) (T := TX10) (N := 6) hx hb hts iX10 tyX10 tyX10_ok hown m2_48 (hts _ m2_49) m1_12 hKs hb0 hH rfl rfl (fun j hj => dfX10 j hj) (Nat.le_of_ble_eq_true rfl) (Nat.le_of_ble_eq_true rfl) dX12_init_100 (fun H hH => ?_)
                  obtain ⟨K98, hK98, hf⟩ := bnd hf
                  replace hK98 := Option.some.inj hK98
                  obtain ⟨w99, hw99, hf⟩ := bnd hf
                  replace hw99 := Option.some.inj hw99
                  rw [hK98, hw99] at hH
                  refine lv_dup hx hb dX12_init_103 rv_cat ?_
                  refine hl_aload_n hx hb dX12_init_104 rfl (lv_at hl 1 rfl) ?_
                  obtain ⟨q100, hq100, hf⟩ := bnd hf
                  refine hcA hH (va_runI (As := [rv E (some n)]) (rest := [rv E (some q91.2.1), .int 7, rv E (wR w95 1209 a97)]) ⟨hx, hb, hml, hown, hts⟩ (k_X10_init l E K98 (q91.2.1 + 1) q91.2.1 (some n) w99 hq100) (cwI _ hts (gC m2_52) rfl rfl rfl (hts _ m1_12) (hts _ m2_50) (hts _ m2_51) rfl hs_X10_init ⟨Nat.le_of_ble_eq_true rfl, Nat.le_of_ble_eq_true rfl⟩) ⟨HB.blind, HB.preN hKs hT hb0 hH⟩ rfl rfl hl.1 rfl (lv_room (rcV (rcI (rcV rc0)))) dX12_init_105 ⟨Nat.le_of_ble_eq_true rfl, Nat.le_of_ble_eq_true rfl⟩) (fun H locs hH => ?_)
                  obtain ⟨a101, ha101, hf⟩ := bnd hf
                  replace ha101 := cha_some ha101
                  obtain ⟨j102, hj102, hf⟩ := bnd hf
                  obtain ⟨a103, ha103, hf⟩ := bnd hf
                  replace ha103 := chk_some ha103
                  obtain ⟨w104, hw104, hf⟩ := bnd hf
                  replace hw104 := Option.some.inj hw104
                  refine hw_aast28 hx hb hKs hH ha101.1 ha101.2 ha103.1 ha103.2 hj102 dX12_init_108 (fun H locs hH => ?_)
                  rw [hw104] at hH
                  refine lv_iinc (v := 8) (lv' := [(2, .int 8), (1, rv E (some n)), (0, rv E (some o))]) hx hb dX12_init_109 hl (k := 0) rfl rfl (by decide) (by simp [List.filter_cons, cat_q, cat_i, cat_j, imax, imin]) (fun ls hl => ?_)
                  refine lv_goto (tgt := 89) hx hb dX12_init_112 (by decide) ?_
                  refine lv_iload_n hx hb dX12_init_89 rfl (lv_at hl 0 rfl) ?_
                  refine lv_bipush (v := 8) hx hb dX12_init_90 (by decide) ?_
                  refine lv_icmp_ge (tgt := 115) hx hb dX12_init_92 (by decide) (fun c105 => ?_) (fun c105 => ?_)
                  · skip
                    refine hl_aload_n hx hb dX12_init_115 rfl (lv_at hl 2 rfl) ?_
                    refine hw_new (ci := 5) (C := RX6) (T := TX6) (N := 12) hx hb hts iX6 tyX6 tyX6_ok hown m2_142 (hts _ m2_143) m1_14 hKs hb0 hH rfl rfl (fun j hj => dfX6 j hj) (Nat.le_of_ble_eq_true rfl) (Nat.le_of_ble_eq_true rfl) dX12_init_116 (fun H hH => ?_)
                    obtain ⟨K106, hK106, hf⟩ := bnd hf
                    replace hK106 := Option.some.inj hK106
                    obtain ⟨w107, hw107, hf⟩ := bnd hf
                    replace hw107 := Option.some.inj hw107
                    rw [hK106, hw107] at hH
                    refine lv_dup hx hb dX12_init_119 rv_cat ?_
                    obtain ⟨q108, hq108, hf⟩ := bnd hf
                    refine hcA hH (va_runIN (As := []) (rest := [rv E (some q100.2.1), rv E (some o)]) ⟨hx, hb, hml, hown, hts⟩ (k_X6_init l E K106 (q100.2.1 + 1) q100.2.1 w107 hq108) ⟨va_cnB _ hts (gC m2_146) rfl rfl rfl (hKs.2.1 _ m2_144) (hts _ m1_14) hs_X6_init ⟨Nat.le_of_ble_eq_true rfl, Nat.le_of_ble_eq_true rfl⟩, rfl, hts _ m2_145⟩ ⟨HB.blind, HB.preN hKs hT hb0 hH⟩ rfl rfl hl.1 rfl (lv_room (rcV (rcV rc0))) dX12_init_120 ⟨Nat.le_of_ble_eq_true rfl, Nat.le_of_ble_eq_true rfl⟩) (fun H locs hH => ?_)
                    obtain ⟨a109, ha109, hf⟩ := bnd hf
                    replace ha109 := chk_some ha109
                    obtain ⟨w110, hw110, hf⟩ := bnd hf
                    replace hw110 := Option.some.inj hw110
                    refine pf12_11 (v := (some q100.2.1)) hx hb hts hown hKs hH ha109.1 ha109.2 hn2 m2_220 dX12_init_123 (fun H locs hH => ?_)
                    rw [hw110] at hH
                    refine hl_aload_n hx hb dX12_init_126 rfl (lv_at hl 2 rfl) ?_
                    refine hw_new (ci := 0) (C := RX1) (T := TX1) (N := 5) hx hb hts iX1 tyX1 tyX1_ok hown m2_189 (hts _ m2_190) m1_15 hKs hb0 hH rfl rfl (fun j hj => dfX1 j hj) (Nat.le_of_ble_eq_true rfl) (Nat.le_of_ble_eq_true rfl) dX12_init_127 (fun H hH => ?_)
                    obtain ⟨K111, hK111, hf⟩ := bnd hf
                    replace hK111 := Option.some.inj hK111
                    obtain ⟨w112, hw112, hf⟩ := bnd hf
                    replace hw112 := Option.some.inj hw112
                    rw [hK111, hw112] at hH
                    refine lv_dup hx hb dX12_init_130 rv_cat ?_
                    obtain ⟨q113, hq113, hf⟩ := bnd hf
                    refine hcA hH (va_runIN (As := []) (rest := [rv E (some q108.2.1), rv E (some o)]) ⟨hx, hb, hml, hown, hts⟩ (k_X1_init l E K111 (q108.2.1 + 1) q108.2.1 w112 hq113) ⟨va_cnB _ hts (gC m2_193) rfl rfl rfl (hKs.2.1 _ m2_191) (hts _ m1_15) hs_X1_init ⟨Nat.le_of_ble_eq_true rfl, Nat.le_of_ble_eq_true rfl⟩, rfl, hts _ m2_192⟩ ⟨HB.blind, HB.preN hKs hT hb0 hH⟩ rfl rfl hl.1 rfl (lv_room (rcV (rcV rc0))) dX12_init_131 ⟨Nat.le_of_ble_eq_true rfl, Nat.le_of_ble_eq_true rfl⟩) (fun H locs hH => ?_)
                    obtain ⟨a114, ha114, hf⟩ := bnd hf
                    replace ha114 := chk_some ha114
                    obtain ⟨w115, hw115, hf⟩ := bnd hf
                    replace hw115 := Option.some.inj hw115
                    refine pf12_12 (v := (some q108.2.1)) hx hb hts hown hKs hH ha114.1 ha114.2 hn2 m2_221 dX12_init_134 (fun H locs hH => ?_)
                    rw [hw115] at hH
                    refine hl_aload_n hx hb dX12_init_137 rfl (lv_at hl 2 rfl) ?_
                    refine lv_bipush (v := 12) hx hb dX12_init_138 (by decide) ?_
                    refine hw_newa20 (N := 12) hx hb hts m1_67 hKs hH (by decide) (by decide) (Nat.le_of_ble_eq_true rfl) (Nat.le_of_ble_eq_true rfl) (Nat.le_of_ble_eq_true rfl) dX12_init_140 (fun H hH => ?_)
                    obtain ⟨K116, hK116, hf⟩ := bnd hf
                    replace hK116 := Option.some.inj hK116
                    obtain ⟨w117, hw117, hf⟩ := bnd hf
                    replace hw117 := Option.some.inj hw117
                    rw [hK116, hw117] at hH
                    obtain ⟨a118, ha118, hf⟩ := bnd hf
                    replace ha118 := chk_some ha118
                    obtain ⟨w119, hw119, hf⟩ := bnd hf
                    replace hw119 := Option.some.inj hw119
                    refine pf12_13 (v := (some q113.2.1)) hx hb hts hown hKs hH ha118.1 ha118.2 hn2 m2_222 dX12_init_142 (fun H locs hH => ?_)
                    rw [hw119] at hH
                    refine hl_aload_n hx hb dX12_init_145 rfl (lv_at hl 2 rfl) ?_
                    refine lv_sipush (v := 348) hx hb dX12_init_146 (by decide) ?_
                    refine hw_newa21 (N := 348) hx hb hts m2_21 hKs hH (by decide) (by decide) (Nat.le_of_ble_eq_true rfl) (Nat.le_of_ble_eq_true rfl) (Nat.le_of_ble_eq_true rfl) dX12_init_149 (fun H hH => ?_)
                    obtain ⟨K120, hK120, hf⟩ := bnd hf
                    replace hK120 := Option.some.inj hK120
                    obtain ⟨w121, hw121, hf⟩ := bnd hf
                    replace hw121 := Option.some.inj hw121
                    rw [hK120, hw121] at hH
                    obtain ⟨a122, ha122, hf⟩ := bnd hf
                    replace ha122 := chk_some ha122
                    obtain ⟨w123, hw123, hf⟩ := bnd hf
                    replace hw123 := Option.some.inj hw123
                    refine pf12_14 (v := (some (q113.2.1 + 1))) hx hb hts hown hKs hH ha122.1 ha122.2 hn2 m2_223 dX12_init_151 (fun H locs hH => ?_)
                    rw [hw123] at hH
                    exact hw_aret hx hb (Nat.le_of_ble_eq_true rfl) (Nat.le_of_ble_eq_true rfl) hret hf hH hlocks dX12_init_154
                  · exact (by revert c105; decide : False).elim

theorem dX12_planNext_0 : decode cX12_planNext 0 = .ok (.aload_n 0, 1) := by decide +kernel
theorem dX12_planNext_1 : decode cX12_planNext 1 = .ok (.iconst 3, 1) := by decide +kernel
theorem dX12_planNext_2 : decode cX12_planNext 2 = .ok (.iload_n 1, 1) := by decide +kernel
theorem dX12_planNext_3 : decode cX12_planNext 3 = .ok (.invokevirtual 175, 3) := by decide +kernel
theorem dX12_planNext_6 : decode cX12_planNext 6 = .ok (.aload_n 0, 1) := by decide +kernel
theorem dX12_planNext_7 : decode cX12_planNext 7 = .ok (.getfield 35, 3) := by decide +kernel
theorem dX12_planNext_10 : decode cX12_planNext 10 = .ok (.getfield 213, 3) := by decide +kernel
theorem dX12_planNext_13 : decode cX12_planNext 13 = .ok (.iload_n 1, 1) := by decide +kernel
theorem dX12_planNext_14 : decode cX12_planNext 14 = .ok (.aaload, 1) := by decide +kernel
theorem dX12_planNext_15 : decode cX12_planNext 15 = .ok (.getfield 236, 3) := by decide +kernel
theorem dX12_planNext_18 : decode cX12_planNext 18 = .ok (.ifCond .eq 11, 3) := by decide +kernel
theorem dX12_planNext_21 : decode cX12_planNext 21 = .ok (.new 331, 3) := by decide +kernel
theorem dX12_planNext_24 : decode cX12_planNext 24 = .ok (.dup, 1) := by decide +kernel
theorem dX12_planNext_25 : decode cX12_planNext 25 = .ok (.invokespecial 333, 3) := by decide +kernel
theorem dX12_planNext_28 : decode cX12_planNext 28 = .ok (.athrow, 1) := by decide +kernel
theorem dX12_planNext_29 : decode cX12_planNext 29 = .ok (.aload_n 0, 1) := by decide +kernel
theorem dX12_planNext_30 : decode cX12_planNext 30 = .ok (.getfield 52, 3) := by decide +kernel
theorem dX12_planNext_33 : decode cX12_planNext 33 = .ok (.aload_n 0, 1) := by decide +kernel
theorem dX12_planNext_34 : decode cX12_planNext 34 = .ok (.getfield 35, 3) := by decide +kernel
theorem dX12_planNext_37 : decode cX12_planNext 37 = .ok (.iload_n 1, 1) := by decide +kernel
theorem dX12_planNext_38 : decode cX12_planNext 38 = .ok (.iconst 0, 1) := by decide +kernel
theorem dX12_planNext_39 : decode cX12_planNext 39 = .ok (.invokevirtual 287, 3) := by decide +kernel
theorem dX12_planNext_42 : decode cX12_planNext 42 = .ok (.ifCond .ne 11, 3) := by decide +kernel
theorem dX12_planNext_45 : decode cX12_planNext 45 = .ok (.new 303, 3) := by decide +kernel
theorem dX12_planNext_48 : decode cX12_planNext 48 = .ok (.dup, 1) := by decide +kernel
theorem dX12_planNext_49 : decode cX12_planNext 49 = .ok (.invokespecial 305, 3) := by decide +kernel
theorem dX12_planNext_52 : decode cX12_planNext 52 = .ok (.athrow, 1) := by decide +kernel
theorem dX12_planNext_53 : decode cX12_planNext 53 = .ok (.aload_n 0, 1) := by decide +kernel
theorem dX12_planNext_54 : decode cX12_planNext 54 = .ok (.invokevirtual 325, 3) := by decide +kernel
theorem dX12_planNext_57 : decode cX12_planNext 57 = .ok (.aload_n 0, 1) := by decide +kernel
theorem dX12_planNext_58 : decode cX12_planNext 58 = .ok (.getfield 52, 3) := by decide +kernel
theorem dX12_planNext_61 : decode cX12_planNext 61 = .ok (.aload_n 0, 1) := by decide +kernel
theorem dX12_planNext_62 : decode cX12_planNext 62 = .ok (.getfield 35, 3) := by decide +kernel
theorem dX12_planNext_65 : decode cX12_planNext 65 = .ok (.iload_n 1, 1) := by decide +kernel
theorem dX12_planNext_66 : decode cX12_planNext 66 = .ok (.invokevirtual 338, 3) := by decide +kernel
theorem dX12_planNext_69 : decode cX12_planNext 69 = .ok (.aload_n 0, 1) := by decide +kernel
theorem dX12_planNext_70 : decode cX12_planNext 70 = .ok (.getfield 52, 3) := by decide +kernel
theorem dX12_planNext_73 : decode cX12_planNext 73 = .ok (.getfield 291, 3) := by decide +kernel
theorem dX12_planNext_76 : decode cX12_planNext 76 = .ok (.ireturn, 1) := by decide +kernel
theorem hd_X12_planNext : yX12_planNext.cls = RX12 ∧ yX12_planNext.cls ≠ "java/lang/invoke/MethodHandle" ∧ yX12_planNext.cls ≠ "java/lang/invoke/VarHandle" ∧ (parseMethodDescriptor yX12_planNext.desc).map (fun d => d.parameters.length) = some 1 := by decide +kernel
theorem hs_X12_planNext : yX12_planNext.cls ≠ "java/lang/invoke/MethodHandle" ∧ yX12_planNext.cls ≠ "java/lang/invoke/VarHandle" ∧ (parseMethodDescriptor yX12_planNext.desc).map (fun d => d.parameters.length) = some 1 := by decide +kernel
set_option maxHeartbeats 4000000 in
set_option maxRecDepth 100000 in
theorem k_X12_planNext (l : Launch) (hls : l.stackTraces = false) (E : Ev) (K : Kd) (z : Nat) (o : Nat) (a_1 : Int32) (w : Wd) (ho : K o = some (10, 0)) {r : Int32 ⊕ Nat} {w' : Wd} (hf : f_X12_planNext K o a_1 w = some (r, w')) : vx_Met l yX12_planNext (Cond.code yX12_planNext cX12_planNext 2 (Option.some Jvm.ClassFile.FieldType.int) :: bt) ({ frames := 7, cells := 2, slots := 12, locals := 128 } : Room) (va_Pc [rv E (some o), .int a_1] (HB E K w z)) (XI E K z w' r) (XX E K w' r) 2 12 (hA E) := by
  refine vx_ofW (cc := cX12_planNext) (maxL := 2) (ret := (Option.some Jvm.ClassFile.FieldType.int)) (by decide) rfl ?_
  intro p e s m args below meth c s₁ B hml hout hv
  obtain ⟨rfl, hz, hP, hKs, hT, hb0⟩ := hv
  have C : CX p l e s m _ meth c cX12_planNext 2 RX12 (Option.some Jvm.ClassFile.FieldType.int) E := ⟨B.exec, B.bytes, hml, findClass_of_methodNamed B.named, fun w h => atoms_spec (ws := Cond.code yX12_planNext cX12_planNext 2 (Option.some Jvm.ClassFile.FieldType.int) :: bt) B.pre w (List.mem_cons_of_mem _ h), hKs, hT, by rw [hz]; exact hb0, B.notSynchronized, B.returns⟩
  have hH : HQ E K z w s s.heap [] := ⟨hP, va_S.rf, hz⟩
  obtain ⟨hx, hb, hml, hown, hts, hKs, hT, hb0, hlocks, hret⟩ := id C
  have hl := lv_entry [rv E (some o), .int a_1] (n := 2) (by simp [lg_len_nil, lg_len_i, lg_len_j, lg_len_q, lg_len_f, lg_len_d, lg_len_r])
  rw [lg_entry_eq]
  generalize (lg_sl [rv E (some o), .int a_1] ++ List.replicate (2 - (lg_sl [rv E (some o), .int a_1]).length) Slot.unset).toArray = ls at hl ⊢
  replace hl : lv_has ls 2 [(0, rv E (some o)), (1, .int a_1)] := by simpa only [lv_args, cat_q, cat_i, cat_j, reduceIte, Nat.reduceEqDiff, Nat.reduceAdd, Nat.zero_add] using hl
  generalize s.heap = H at hH ⊢
  unfold f_X12_planNext at hf
  refine hl_aload_n hx hb dX12_planNext_0 rfl (lv_at hl 0 rfl) ?_
  refine lv_iconst (v := 3) hx hb dX12_planNext_1 (by decide) ?_
  refine lv_iload_n hx hb dX12_planNext_2 rfl (lv_at hl 1 rfl) ?_
  obtain ⟨q1, hq1, hf⟩ := bnd hf
  refine hxV_v hx hb hml hown hts hKs hT hb0 hH (As := [.int 3, .int a_1]) (rest := []) (k_X12_requireExisting l hls E K H.size o 3 a_1 w ho hq1) (gV m6_91 m6_93 ms_29 m1_1 m6_94) hd_X12_requireExisting ⟨Nat.le_of_ble_eq_true rfl, Nat.le_of_ble_eq_true rfl, rfl, rfl⟩ rfl ho rfl rfl rfl hl.1 rfl rc0 rfl dX12_planNext_3 ⟨Nat.le_of_ble_eq_true rfl, Nat.le_of_ble_eq_true rfl⟩ ⟨Nat.le_of_ble_eq_true rfl, Nat.le_of_ble_eq_true rfl⟩ hout hlocks (fun x hx9 => (fun h9 => ⟨(congrArg Prod.fst h9).symm, (congrArg Prod.snd h9).symm⟩) (Option.some.inj ((xk_inr hx9).symm.trans hf))) (fun v2 hv2 H locs hH => ?_)
  replace hf := (xk_inl hv2).symm.trans hf
  refine hl_aload_n hx hb dX12_planNext_6 rfl (lv_at hl 0 rfl) ?_
  refine g12_5 hx hb hts hown hKs hH rfl ho m2_214 dX12_planNext_7 ?_
  obtain ⟨a3, ha3, hf⟩ := bnd hf
  replace ha3 := chk_some ha3
  refine gn10_5 hx hb hts hown hKs hH ha3.1 ha3.2 m2_127 dX12_planNext_10 ?_
  refine lv_iload_n hx hb dX12_planNext_13 rfl (lv_at hl 1 rfl) ?_
  obtain ⟨a4, ha4, hf⟩ := bnd hf
  replace ha4 := cha_some ha4
  obtain ⟨j5, hj5, hf⟩ := bnd hf
  refine hw_aald27 hx hb hKs hH ha4.1 ha4.2 hj5 dX12_planNext_14 ?_
  obtain ⟨a6, ha6, hf⟩ := bnd hf
  replace ha6 := chk_some ha6
  refine gn7_0 hx hb hts hown hKs hH ha6.1 ha6.2 m2_65 dX12_planNext_15 ?_
  refine lv_if_eq (tgt := 29) hx hb dX12_planNext_18 (by decide) (fun c7 => ?_) (fun c7 => ?_)
  · replace hf := (if_pos c7).symm.trans hf
    refine hl_aload_n hx hb dX12_planNext_29 rfl (lv_at hl 0 rfl) ?_
    refine g12_11 hx hb hts hown hKs hH rfl ho m2_220 dX12_planNext_30 ?_
    refine hl_aload_n hx hb dX12_planNext_33 rfl (lv_at hl 0 rfl) ?_
    refine g12_5 hx hb hts hown hKs hH rfl ho m2_214 dX12_planNext_34 ?_
    refine lv_iload_n hx hb dX12_planNext_37 rfl (lv_at hl 1 rfl) ?_
    refine lv_iconst (v := 0) hx hb dX12_planNext_38 (by decide) ?_
    obtain ⟨a8, ha8, hf⟩ := bnd hf
    replace ha8 := chk_some ha8
    obtain ⟨q9, hq9, hf⟩ := bnd hf
    refine hcV_i hx hb hml hown hts hKs hT hb0 hH (As := [rv E (wR q1.2 1205 o), .int a_1, .int 0]) (rest := []) (k_X6_findFirst l E K H.size a8 (wR q1.2 1205 o) a_1 0 q1.2 ha8.2 hq9) (gV m6_110 m3_176 m3_177 m1_14 m3_178) hd_X6_findFirst ⟨Nat.le_of_ble_eq_true rfl, Nat.le_of_ble_eq_true rfl, rfl, rfl⟩ ha8.1 ha8.2 rfl rfl rfl hl.1 rfl rc0 rfl dX12_planNext_39 ⟨Nat.le_of_ble_eq_true rfl, Nat.le_of_ble_eq_true rfl⟩ (fun H locs hH => ?_)
    refine lv_if_ne (tgt := 53) hx hb dX12_planNext_42 (by decide) (fun c10 => ?_) (fun c10 => ?_)
    · replace hf := (if_neg c10).symm.trans hf
      refine hl_aload_n hx hb dX12_planNext_53 rfl (lv_at hl 0 rfl) ?_
      obtain ⟨q11, hq11, hf⟩ := bnd hf
      refine hcV_v hx hb hml hown hts hKs hT hb0 hH (As := []) (rest := []) (k_X12_remember l E K H.size o q9.2 ho hq11) (gV m3_119 m3_121 ms_2 m1_1 m3_122) hd_X12_remember ⟨Nat.le_of_ble_eq_true rfl, Nat.le_of_ble_eq_true rfl, rfl, rfl⟩ rfl ho rfl rfl rfl hl.1 rfl rc0 rfl dX12_planNext_54 ⟨Nat.le_of_ble_eq_true rfl, Nat.le_of_ble_eq_true rfl⟩ (fun H locs hH => ?_)
      refine hl_aload_n hx hb dX12_planNext_57 rfl (lv_at hl 0 rfl) ?_
      refine g12_11 hx hb hts hown hKs hH rfl ho m2_220 dX12_planNext_58 ?_
      refine hl_aload_n hx hb dX12_planNext_61 rfl (lv_at hl 0 rfl) ?_
      refine g12_5 hx hb hts hown hKs hH rfl ho m2_214 dX12_planNext_62 ?_
      refine lv_iload_n hx hb dX12_planNext_65 rfl (lv_at hl 1 rfl) ?_
      obtain ⟨a12, ha12, hf⟩ := bnd hf
      replace ha12 := chk_some ha12
      obtain ⟨q13, hq13, hf⟩ := bnd hf
      refine hcV_v hx hb hml hown hts hKs hT hb0 hH (As := [rv E (wR q11 1205 o), .int a_1]) (rest := []) (k_X6_setFound l E K H.size a12 (wR q11 1205 o) a_1 q11 ha12.2 hq13) (gV m6_126 m4_13 m4_14 m1_14 m4_15) hd_X6_setFound ⟨Nat.le_of_ble_eq_true rfl, Nat.le_of_ble_eq_true rfl, rfl, rfl⟩ ha12.1 ha12.2 rfl rfl rfl hl.1 rfl rc0 rfl dX12_planNext_66 ⟨Nat.le_of_ble_eq_true rfl, Nat.le_of_ble_eq_true rfl⟩ (fun H locs hH => ?_)
      refine hl_aload_n hx hb dX12_planNext_69 rfl (lv_at hl 0 rfl) ?_
      refine g12_11 hx hb hts hown hKs hH rfl ho m2_220 dX12_planNext_70 ?_
      obtain ⟨a14, ha14, hf⟩ := bnd hf
      replace ha14 := chk_some ha14
      refine gn6_8 hx hb hts hown hKs hH ha14.1 ha14.2 m2_157 dX12_planNext_73 ?_
      exact hx_iret hx hb (Nat.le_of_ble_eq_true rfl) (Nat.le_of_ble_eq_true rfl) hret hf hH hlocks dX12_planNext_76
    · replace hf := (if_pos c10).symm.trans hf
      exact hx_throw hx hb hls (code := 4) hml hl.1 hown hts hKs hT hb0 hH (by decide) rfl m6_111 m1_33 hat_RX12_305 dX12_planNext_45 dX12_planNext_48 dX12_planNext_49 dX12_planNext_52 hout (Nat.le_of_ble_eq_true rfl) rc0 (Nat.le_of_ble_eq_true rfl) (Nat.le_of_ble_eq_true rfl) (Nat.le_of_ble_eq_true rfl) hlocks hf (Nat.le_of_ble_eq_true rfl) (Nat.le_of_ble_eq_true rfl)
  · replace hf := (if_neg c7).symm.trans hf
    exact hx_throw hx hb hls (code := 3) hml hl.1 hown hts hKs hT hb0 hH (by decide) rfl m4_24 m1_32 hat_RX12_333 dX12_planNext_21 dX12_planNext_24 dX12_planNext_25 dX12_planNext_28 hout (Nat.le_of_ble_eq_true rfl) rc0 (Nat.le_of_ble_eq_true rfl) (Nat.le_of_ble_eq_true rfl) (Nat.le_of_ble_eq_true rfl) hlocks hf (Nat.le_of_ble_eq_true rfl) (Nat.le_of_ble_eq_true rfl)

theorem dX12_planAll_0 : decode cX12_planAll 0 = .ok (.aload_n 0, 1) := by decide +kernel
theorem dX12_planAll_1 : decode cX12_planAll 1 = .ok (.invokevirtual 325, 3) := by decide +kernel
theorem dX12_planAll_4 : decode cX12_planAll 4 = .ok (.aload_n 0, 1) := by decide +kernel
theorem dX12_planAll_5 : decode cX12_planAll 5 = .ok (.getfield 52, 3) := by decide +kernel
theorem dX12_planAll_8 : decode cX12_planAll 8 = .ok (.aload_n 0, 1) := by decide +kernel
theorem dX12_planAll_9 : decode cX12_planAll 9 = .ok (.getfield 35, 3) := by decide +kernel
theorem dX12_planAll_12 : decode cX12_planAll 12 = .ok (.iconst 0, 1) := by decide +kernel
theorem dX12_planAll_13 : decode cX12_planAll 13 = .ok (.invokevirtual 342, 3) := by decide +kernel
theorem dX12_planAll_16 : decode cX12_planAll 16 = .ok (.ireturn, 1) := by decide +kernel
theorem hd_X12_planAll : yX12_planAll.cls = RX12 ∧ yX12_planAll.cls ≠ "java/lang/invoke/MethodHandle" ∧ yX12_planAll.cls ≠ "java/lang/invoke/VarHandle" ∧ (parseMethodDescriptor yX12_planAll.desc).map (fun d => d.parameters.length) = some 0 := by decide +kernel
theorem hs_X12_planAll : yX12_planAll.cls ≠ "java/lang/invoke/MethodHandle" ∧ yX12_planAll.cls ≠ "java/lang/invoke/VarHandle" ∧ (parseMethodDescriptor yX12_planAll.desc).map (fun d => d.parameters.length) = some 0 := by decide +kernel
set_option maxHeartbeats 4000000 in
set_option maxRecDepth 100000 in
theorem k_X12_planAll (l : Launch) (E : Ev) (K : Kd) (z : Nat) (o : Nat) (w : Wd) (ho : K o = some (10, 0)) {r : Int32} {w' : Wd} (hf : f_X12_planAll K o w = some (r, w')) : Met l yX12_planAll (Cond.code yX12_planAll cX12_planAll 1 (Option.some Jvm.ClassFile.FieldType.int) :: bt) ({ frames := 6, cells := 0, slots := 0, locals := 153 } : Room) (va_Pc [rv E (some o)] (HB E K w z)) (QI E K z w' r) 0 0 (hA E) := by
  refine Met.ofW (cc := cX12_planAll) (maxL := 1) (ret := (Option.some Jvm.ClassFile.FieldType.int)) (by decide) rfl ?_
  intro p e s m args below meth c s₁ B hml hv
  obtain ⟨rfl, hz, hP, hKs, hT, hb0⟩ := hv
  have C : CX p l e s m _ meth c cX12_planAll 1 RX12 (Option.some Jvm.ClassFile.FieldType.int) E := ⟨B.exec, B.bytes, hml, findClass_of_methodNamed B.named, fun w h => atoms_spec (ws := Cond.code yX12_planAll cX12_planAll 1 (Option.some Jvm.ClassFile.FieldType.int) :: bt) B.pre w (List.mem_cons_of_mem _ h), hKs, hT, by rw [hz]; exact hb0, B.notSynchronized, B.returns⟩
  have hH : HQ E K z w s s.heap [] := ⟨hP, va_S.rf, hz⟩
  obtain ⟨hx, hb, hml, hown, hts, hKs, hT, hb0, hlocks, hret⟩ := id C
  have hl := lv_entry [rv E (some o)] (n := 1) (by simp [lg_len_nil, lg_len_i, lg_len_j, lg_len_q, lg_len_f, lg_len_d, lg_len_r])
  rw [lg_entry_eq]
  generalize (lg_sl [rv E (some o)] ++ List.replicate (1 - (lg_sl [rv E (some o)]).length) Slot.unset).toArray = ls at hl ⊢
  replace hl : lv_has ls 1 [(0, rv E (some o))] := by simpa only [lv_args, cat_q, cat_i, cat_j, reduceIte, Nat.reduceEqDiff, Nat.reduceAdd, Nat.zero_add] using hl
  generalize s.heap = H at hH ⊢
  unfold f_X12_planAll at hf
  refine hl_aload_n hx hb dX12_planAll_0 rfl (lv_at hl 0 rfl) ?_
  obtain ⟨q1, hq1, hf⟩ := bnd hf
  refine hcV_v hx hb hml hown hts hKs hT hb0 hH (As := []) (rest := []) (k_X12_remember l E K H.size o w ho hq1) (gV m3_119 m3_121 ms_2 m1_1 m3_122) hd_X12_remember ⟨Nat.le_of_ble_eq_true rfl, Nat.le_of_ble_eq_true rfl, rfl, rfl⟩ rfl ho rfl rfl rfl hl.1 rfl rc0 rfl dX12_planAll_1 ⟨Nat.zero_le _, Nat.zero_le _⟩ (fun H locs hH => ?_)
  refine hl_aload_n hx hb dX12_planAll_4 rfl (lv_at hl 0 rfl) ?_
  refine g12_11 hx hb hts hown hKs hH rfl ho m2_220 dX12_planAll_5 ?_
  refine hl_aload_n hx hb dX12_planAll_8 rfl (lv_at hl 0 rfl) ?_
  refine g12_5 hx hb hts hown hKs hH rfl ho m2_214 dX12_planAll_9 ?_
  refine lv_iconst (v := 0) hx hb dX12_planAll_12 (by decide) ?_
  obtain ⟨a2, ha2, hf⟩ := bnd hf
  replace ha2 := chk_some ha2
  obtain ⟨q3, hq3, hf⟩ := bnd hf
  refine hcV_i hx hb hml hown hts hKs hT hb0 hH (As := [rv E (wR q1 1205 o), .int 0]) (rest := []) (k_X6_planWaiting l E K H.size a2 (wR q1 1205 o) 0 q1 ha2.2 hq3) (gV m3_160 m3_161 m3_162 m1_14 m3_163) hd_X6_planWaiting ⟨Nat.le_of_ble_eq_true rfl, Nat.le_of_ble_eq_true rfl, rfl, rfl⟩ ha2.1 ha2.2 rfl rfl rfl hl.1 rfl rc0 rfl dX12_planAll_13 ⟨Nat.zero_le _, Nat.zero_le _⟩ (fun H locs hH => ?_)
  exact hw_iret hx hb hret hf hH hlocks dX12_planAll_16

theorem dX12_forecastPlanned_0 : decode cX12_forecastPlanned 0 = .ok (.aload_n 0, 1) := by decide +kernel
theorem dX12_forecastPlanned_1 : decode cX12_forecastPlanned 1 = .ok (.getfield 42, 3) := by decide +kernel
theorem dX12_forecastPlanned_4 : decode cX12_forecastPlanned 4 = .ok (.aload_n 0, 1) := by decide +kernel
theorem dX12_forecastPlanned_5 : decode cX12_forecastPlanned 5 = .ok (.getfield 35, 3) := by decide +kernel
theorem dX12_forecastPlanned_8 : decode cX12_forecastPlanned 8 = .ok (.invokevirtual 362, 3) := by decide +kernel
theorem dX12_forecastPlanned_11 : decode cX12_forecastPlanned 11 = .ok (.aload_n 0, 1) := by decide +kernel
theorem dX12_forecastPlanned_12 : decode cX12_forecastPlanned 12 = .ok (.getfield 52, 3) := by decide +kernel
theorem dX12_forecastPlanned_15 : decode cX12_forecastPlanned 15 = .ok (.aload_n 0, 1) := by decide +kernel
theorem dX12_forecastPlanned_16 : decode cX12_forecastPlanned 16 = .ok (.getfield 42, 3) := by decide +kernel
theorem dX12_forecastPlanned_19 : decode cX12_forecastPlanned 19 = .ok (.iload_n 1, 1) := by decide +kernel
theorem dX12_forecastPlanned_20 : decode cX12_forecastPlanned 20 = .ok (.invokevirtual 342, 3) := by decide +kernel
theorem dX12_forecastPlanned_23 : decode cX12_forecastPlanned 23 = .ok (.ireturn, 1) := by decide +kernel
theorem hd_X12_forecastPlanned : yX12_forecastPlanned.cls = RX12 ∧ yX12_forecastPlanned.cls ≠ "java/lang/invoke/MethodHandle" ∧ yX12_forecastPlanned.cls ≠ "java/lang/invoke/VarHandle" ∧ (parseMethodDescriptor yX12_forecastPlanned.desc).map (fun d => d.parameters.length) = some 1 := by decide +kernel
theorem hs_X12_forecastPlanned : yX12_forecastPlanned.cls ≠ "java/lang/invoke/MethodHandle" ∧ yX12_forecastPlanned.cls ≠ "java/lang/invoke/VarHandle" ∧ (parseMethodDescriptor yX12_forecastPlanned.desc).map (fun d => d.parameters.length) = some 1 := by decide +kernel
set_option maxHeartbeats 4000000 in
set_option maxRecDepth 100000 in
theorem k_X12_forecastPlanned (l : Launch) (E : Ev) (K : Kd) (z : Nat) (o : Nat) (a_1 : Int32) (w : Wd) (ho : K o = some (10, 0)) {r : Int32} {w' : Wd} (hf : f_X12_forecastPlanned K o a_1 w = some (r, w')) : Met l yX12_forecastPlanned (Cond.code yX12_forecastPlanned cX12_forecastPlanned 2 (Option.some Jvm.ClassFile.FieldType.int) :: bt) ({ frames := 6, cells := 0, slots := 0, locals := 153 } : Room) (va_Pc [rv E (some o), .int a_1] (HB E K w z)) (QI E K z w' r) 0 0 (hA E) := by
  refine Met.ofW (cc := cX12_forecastPlanned) (maxL := 2) (ret := (Option.some Jvm.ClassFile.FieldType.int)) (by decide) rfl ?_
  intro p e s m args below meth c s₁ B hml hv
  obtain ⟨rfl, hz, hP, hKs, hT, hb0⟩ := hv
  have C : CX p l e s m _ meth c cX12_forecastPlanned 2 RX12 (Option.some Jvm.ClassFile.FieldType.int) E := ⟨B.exec, B.bytes, hml, findClass_of_methodNamed B.named, fun w h => atoms_spec (ws := Cond.code yX12_forecastPlanned cX12_forecastPlanned 2 (Option.some Jvm.ClassFile.FieldType.int) :: bt) B.pre w (List.mem_cons_of_mem _ h), hKs, hT, by rw [hz]; exact hb0, B.notSynchronized, B.returns⟩
  have hH : HQ E K z w s s.heap [] := ⟨hP, va_S.rf, hz⟩
  obtain ⟨hx, hb, hml, hown, hts, hKs, hT, hb0, hlocks, hret⟩ := id C
  have hl := lv_entry [rv E (some o), .int a_1] (n := 2) (by simp [lg_len_nil, lg_len_i, lg_len_j, lg_len_q, lg_len_f, lg_len_d, lg_len_r])
  rw [lg_entry_eq]
  generalize (lg_sl [rv E (some o), .int a_1] ++ List.replicate (2 - (lg_sl [rv E (some o), .int a_1]).length) Slot.unset).toArray = ls at hl ⊢
  replace hl : lv_has ls 2 [(0, rv E (some o)), (1, .int a_1)] := by simpa only [lv_args, cat_q, cat_i, cat_j, reduceIte, Nat.reduceEqDiff, Nat.reduceAdd, Nat.zero_add] using hl
  generalize s.heap = H at hH ⊢
  unfold f_X12_forecastPlanned at hf
  refine hl_aload_n hx hb dX12_forecastPlanned_0 rfl (lv_at hl 0 rfl) ?_
  refine g12_8 hx hb hts hown hKs hH rfl ho m2_217 dX12_forecastPlanned_1 ?_
  refine hl_aload_n hx hb dX12_forecastPlanned_4 rfl (lv_at hl 0 rfl) ?_
  refine g12_5 hx hb hts hown hKs hH rfl ho m2_214 dX12_forecastPlanned_5 ?_
  obtain ⟨a1, ha1, hf⟩ := bnd hf
  replace ha1 := chk_some ha1
  obtain ⟨q2, hq2, hf⟩ := bnd hf
  refine hcV_v hx hb hml hown hts hKs hT hb0 hH (As := [rv E (wR w 1205 o)]) (rest := []) (k_X10_copyFrom l E K H.size a1 (wR w 1205 o) w ha1.2 hq2) (gV m3_123 m3_124 m3_125 m1_12 m3_126) hd_X10_copyFrom ⟨Nat.le_of_ble_eq_true rfl, Nat.le_of_ble_eq_true rfl, rfl, rfl⟩ ha1.1 ha1.2 rfl rfl rfl hl.1 rfl rc0 rfl dX12_forecastPlanned_8 ⟨Nat.zero_le _, Nat.zero_le _⟩ (fun H locs hH => ?_)
  refine hl_aload_n hx hb dX12_forecastPlanned_11 rfl (lv_at hl 0 rfl) ?_
  refine g12_11 hx hb hts hown hKs hH rfl ho m2_220 dX12_forecastPlanned_12 ?_
  refine hl_aload_n hx hb dX12_forecastPlanned_15 rfl (lv_at hl 0 rfl) ?_
  refine g12_8 hx hb hts hown hKs hH rfl ho m2_217 dX12_forecastPlanned_16 ?_
  refine lv_iload_n hx hb dX12_forecastPlanned_19 rfl (lv_at hl 1 rfl) ?_
  obtain ⟨a3, ha3, hf⟩ := bnd hf
  replace ha3 := chk_some ha3
  obtain ⟨q4, hq4, hf⟩ := bnd hf
  refine hcV_i hx hb hml hown hts hKs hT hb0 hH (As := [rv E (wR q2 1208 o), .int a_1]) (rest := []) (k_X6_planWaiting l E K H.size a3 (wR q2 1208 o) a_1 q2 ha3.2 hq4) (gV m3_160 m3_161 m3_162 m1_14 m3_163) hd_X6_planWaiting ⟨Nat.le_of_ble_eq_true rfl, Nat.le_of_ble_eq_true rfl, rfl, rfl⟩ ha3.1 ha3.2 rfl rfl rfl hl.1 rfl rc0 rfl dX12_forecastPlanned_20 ⟨Nat.zero_le _, Nat.zero_le _⟩ (fun H locs hH => ?_)
  exact hw_iret hx hb hret hf hH hlocks dX12_forecastPlanned_23

theorem dX5_takesStatement_0 : decode cX5_takesStatement 0 = .ok (.getstatic 62, 3) := by decide +kernel
theorem dX5_takesStatement_3 : decode cX5_takesStatement 3 = .ok (.aload_n 0, 1) := by decide +kernel
theorem dX5_takesStatement_4 : decode cX5_takesStatement 4 = .ok (.getfield 12, 3) := by decide +kernel
theorem dX5_takesStatement_7 : decode cX5_takesStatement 7 = .ok (.getfield 39, 3) := by decide +kernel
theorem dX5_takesStatement_10 : decode cX5_takesStatement 10 = .ok (.invokevirtual 68, 3) := by decide +kernel
theorem dX5_takesStatement_13 : decode cX5_takesStatement 13 = .ok (.iaload, 1) := by decide +kernel
theorem dX5_takesStatement_14 : decode cX5_takesStatement 14 = .ok (.tableswitch 95 1 9 #[50, 55, 60, 65, 70, 75, 80, 85, 90], 50) := by decide +kernel
theorem dX5_takesStatement_64 : decode cX5_takesStatement 64 = .ok (.aload_n 0, 1) := by decide +kernel
theorem dX5_takesStatement_65 : decode cX5_takesStatement 65 = .ok (.invokevirtual 72, 3) := by decide +kernel
theorem dX5_takesStatement_68 : decode cX5_takesStatement 68 = .ok (.ireturn, 1) := by decide +kernel
theorem dX5_takesStatement_69 : decode cX5_takesStatement 69 = .ok (.aload_n 0, 1) := by decide +kernel
theorem dX5_takesStatement_70 : decode cX5_takesStatement 70 = .ok (.invokevirtual 75, 3) := by decide +kernel
theorem dX5_takesStatement_73 : decode cX5_takesStatement 73 = .ok (.ireturn, 1) := by decide +kernel
theorem dX5_takesStatement_74 : decode cX5_takesStatement 74 = .ok (.aload_n 0, 1) := by decide +kernel
theorem dX5_takesStatement_75 : decode cX5_takesStatement 75 = .ok (.invokevirtual 78, 3) := by decide +kernel
theorem dX5_takesStatement_78 : decode cX5_takesStatement 78 = .ok (.ireturn, 1) := by decide +kernel
theorem dX5_takesStatement_79 : decode cX5_takesStatement 79 = .ok (.aload_n 0, 1) := by decide +kernel
theorem dX5_takesStatement_80 : decode cX5_takesStatement 80 = .ok (.invokevirtual 81, 3) := by decide +kernel
theorem dX5_takesStatement_83 : decode cX5_takesStatement 83 = .ok (.ireturn, 1) := by decide +kernel
theorem dX5_takesStatement_84 : decode cX5_takesStatement 84 = .ok (.aload_n 0, 1) := by decide +kernel
theorem dX5_takesStatement_85 : decode cX5_takesStatement 85 = .ok (.invokevirtual 84, 3) := by decide +kernel
theorem dX5_takesStatement_88 : decode cX5_takesStatement 88 = .ok (.ireturn, 1) := by decide +kernel
theorem dX5_takesStatement_89 : decode cX5_takesStatement 89 = .ok (.aload_n 0, 1) := by decide +kernel
theorem dX5_takesStatement_90 : decode cX5_takesStatement 90 = .ok (.invokevirtual 87, 3) := by decide +kernel
theorem dX5_takesStatement_93 : decode cX5_takesStatement 93 = .ok (.ireturn, 1) := by decide +kernel
theorem dX5_takesStatement_94 : decode cX5_takesStatement 94 = .ok (.aload_n 0, 1) := by decide +kernel
theorem dX5_takesStatement_95 : decode cX5_takesStatement 95 = .ok (.invokevirtual 90, 3) := by decide +kernel
theorem dX5_takesStatement_98 : decode cX5_takesStatement 98 = .ok (.ireturn, 1) := by decide +kernel
theorem dX5_takesStatement_99 : decode cX5_takesStatement 99 = .ok (.aload_n 0, 1) := by decide +kernel
theorem dX5_takesStatement_100 : decode cX5_takesStatement 100 = .ok (.invokevirtual 93, 3) := by decide +kernel
theorem dX5_takesStatement_103 : decode cX5_takesStatement 103 = .ok (.ireturn, 1) := by decide +kernel
theorem dX5_takesStatement_104 : decode cX5_takesStatement 104 = .ok (.aload_n 0, 1) := by decide +kernel
theorem dX5_takesStatement_105 : decode cX5_takesStatement 105 = .ok (.invokevirtual 96, 3) := by decide +kernel
theorem dX5_takesStatement_108 : decode cX5_takesStatement 108 = .ok (.ireturn, 1) := by decide +kernel
theorem dX5_takesStatement_109 : decode cX5_takesStatement 109 = .ok (.aload_n 0, 1) := by decide +kernel
theorem dX5_takesStatement_110 : decode cX5_takesStatement 110 = .ok (.iconst 1, 1) := by decide +kernel
theorem dX5_takesStatement_111 : decode cX5_takesStatement 111 = .ok (.invokevirtual 99, 3) := by decide +kernel
theorem dX5_takesStatement_114 : decode cX5_takesStatement 114 = .ok (.ireturn, 1) := by decide +kernel
theorem hd_X5_takesStatement : yX5_takesStatement.cls = RX5 ∧ yX5_takesStatement.cls ≠ "java/lang/invoke/MethodHandle" ∧ yX5_takesStatement.cls ≠ "java/lang/invoke/VarHandle" ∧ (parseMethodDescriptor yX5_takesStatement.desc).map (fun d => d.parameters.length) = some 0 := by decide +kernel
theorem hs_X5_takesStatement : yX5_takesStatement.cls ≠ "java/lang/invoke/MethodHandle" ∧ yX5_takesStatement.cls ≠ "java/lang/invoke/VarHandle" ∧ (parseMethodDescriptor yX5_takesStatement.desc).map (fun d => d.parameters.length) = some 0 := by decide +kernel
set_option maxHeartbeats 4000000 in
set_option maxRecDepth 100000 in
theorem k_X5_takesStatement (l : Launch) (E : Ev) (K : Kd) (z : Nat) (o : Nat) (w : Wd) (ho : K o = some (4, 0)) {r : Bool} {w' : Wd} (hf : f_X5_takesStatement K o w = some (r, w')) : Met l yX5_takesStatement (Cond.code yX5_takesStatement cX5_takesStatement 1 (Option.some Jvm.ClassFile.FieldType.boolean) :: bt) ({ frames := 5, cells := 0, slots := 0, locals := 107 } : Room) (va_Pc [rv E (some o)] (HB E K w z)) (QI E K z w' (b2i r)) 0 0 (hA E) := by
  refine Met.ofW (cc := cX5_takesStatement) (maxL := 1) (ret := (Option.some Jvm.ClassFile.FieldType.boolean)) (by decide) rfl ?_
  intro p e s m args below meth c s₁ B hml hv
  obtain ⟨rfl, hz, hP, hKs, hT, hb0⟩ := hv
  have C : CX p l e s m _ meth c cX5_takesStatement 1 RX5 (Option.some Jvm.ClassFile.FieldType.boolean) E := ⟨B.exec, B.bytes, hml, findClass_of_methodNamed B.named, fun w h => atoms_spec (ws := Cond.code yX5_takesStatement cX5_takesStatement 1 (Option.some Jvm.ClassFile.FieldType.boolean) :: bt) B.pre w (List.mem_cons_of_mem _ h), hKs, hT, by rw [hz]; exact hb0, B.notSynchronized, B.returns⟩
  have hH : HQ E K z w s s.heap [] := ⟨hP, va_S.rf, hz⟩
  obtain ⟨hx, hb, hml, hown, hts, hKs, hT, hb0, hlocks, hret⟩ := id C
  have hl := lv_entry [rv E (some o)] (n := 1) (by simp [lg_len_nil, lg_len_i, lg_len_j, lg_len_q, lg_len_f, lg_len_d, lg_len_r])
  rw [lg_entry_eq]
  generalize (lg_sl [rv E (some o)] ++ List.replicate (1 - (lg_sl [rv E (some o)]).length) Slot.unset).toArray = ls at hl ⊢
  replace hl : lv_has ls 1 [(0, rv E (some o))] := by simpa only [lv_args, cat_q, cat_i, cat_j, reduceIte, Nat.reduceEqDiff, Nat.reduceAdd, Nat.zero_add] using hl
  generalize s.heap = H at hH ⊢
  unfold f_X5_takesStatement at hf
  refine hw_sw hx hb hts hown hT hH m4_175 dX5_takesStatement_0 ?_
  refine hl_aload_n hx hb dX5_takesStatement_3 rfl (lv_at hl 0 rfl) ?_
  refine g5_0 hx hb hts hown hKs hH rfl ho m2_24 dX5_takesStatement_4 ?_
  obtain ⟨a1, ha1, hf⟩ := bnd hf
  replace ha1 := chk_some ha1
  refine gn8_4 hx hb hts hown hKs hH ha1.1 ha1.2 m2_1 dX5_takesStatement_7 ?_
  obtain ⟨a2, ha2, hf⟩ := bnd hf
  replace ha2 := tki_some ha2
  obtain ⟨q3, hq3, hf⟩ := bnd hf
  rw [ha2.1]
  refine hcG_i hH (va_runU (As := []) (rest := [.ref (E.2.2.2.1 101)]) ⟨hx, hb, hml, hown, hts⟩ (k_Jx29ce0_ordinal_8abf5 l E K H.size a2 w ha2.2 hq3) (va_cwU 0 hts (gU m4_177 m4_178 m4_181 m4_180 m1_10 m4_182) rfl rfl rfl rfl (by decide +kernel) ⟨Nat.le_of_ble_eq_true rfl, Nat.le_of_ble_eq_true rfl⟩) ⟨HB.blind, tokRecv ha2.2 hT hH, HB.pre hKs hT hb0 hH⟩ rfl rfl hl.1 rfl (lv_room (rcR rc0)) dX5_takesStatement_10 ⟨Nat.zero_le _, Nat.zero_le _⟩) (fun H locs hH => ?_)
  obtain ⟨j4, hj4, hf⟩ := bnd hf
  refine hw_swat hx hb hT hH hj4 dX5_takesStatement_13 ?_
  by_cases c5 : ((swm.getD j4 0) < 1 ∨ 9 < (swm.getD j4 0))
  · replace hf := (if_pos c5).symm.trans hf
    refine hl_tabOut (tgt := 109) hx hb dX5_takesStatement_14 c5 (by decide) (by decide) (by decide) ?_
    refine hl_aload_n hx hb dX5_takesStatement_109 rfl (lv_at hl 0 rfl) ?_
    refine lv_iconst (v := 1) hx hb dX5_takesStatement_110 (by decide) ?_
    obtain ⟨q6, hq6, hf⟩ := bnd hf
    refine hcV_i hx hb hml hown hts hKs hT hb0 hH (As := [.int 1]) (rest := []) (k_X5_fail l E K H.size o 1 q3.2 ho hq6) (gV m4_187 m4_189 ms_13 m1_8 m4_190) hd_X5_fail ⟨Nat.le_of_ble_eq_true rfl, Nat.le_of_ble_eq_true rfl, rfl, rfl⟩ rfl ho rfl rfl rfl hl.1 rfl rc0 rfl dX5_takesStatement_111 ⟨Nat.zero_le _, Nat.zero_le _⟩ (fun H locs hH => ?_)
    exact hw_zret hx hb hret rfl hf hH hlocks dX5_takesStatement_114
  replace hf := (if_neg c5).symm.trans hf
  by_cases c7 : (swm.getD j4 0) = 1
  · replace hf := (if_pos c7).symm.trans hf
    refine hl_tabIn (tgt := 64) hx hb dX5_takesStatement_14 c7 (by decide) (by decide) rfl (by decide) ?_
    refine hl_aload_n hx hb dX5_takesStatement_64 rfl (lv_at hl 0 rfl) ?_
    obtain ⟨q8, hq8, hf⟩ := bnd hf
    refine hcV_i hx hb hml hown hts hKs hT hb0 hH (As := []) (rest := []) (k_X5_takesHoliday l E K H.size o q3.2 ho hq8) (gV m4_183 m4_185 ms_12 m1_8 m4_186) hd_X5_takesHoliday ⟨Nat.le_of_ble_eq_true rfl, Nat.le_of_ble_eq_true rfl, rfl, rfl⟩ rfl ho rfl rfl rfl hl.1 rfl rc0 rfl dX5_takesStatement_65 ⟨Nat.zero_le _, Nat.zero_le _⟩ (fun H locs hH => ?_)
    exact hw_zret hx hb hret rfl hf hH hlocks dX5_takesStatement_68
  replace hf := (if_neg c7).symm.trans hf
  by_cases c9 : (swm.getD j4 0) = 2
  · replace hf := (if_pos c9).symm.trans hf
    refine hl_tabIn (tgt := 69) hx hb dX5_takesStatement_14 c9 (by decide) (by decide) rfl (by decide) ?_
    refine hl_aload_n hx hb dX5_takesStatement_69 rfl (lv_at hl 0 rfl) ?_
    obtain ⟨q10, hq10, hf⟩ := bnd hf
    refine hcV_i hx hb hml hown hts hKs hT hb0 hH (As := []) (rest := []) (k_X5_takesRoom l E K H.size o q3.2 ho hq10) (gV m4_203 m4_205 ms_15 m1_8 m4_206) hd_X5_takesRoom ⟨Nat.le_of_ble_eq_true rfl, Nat.le_of_ble_eq_true rfl, rfl, rfl⟩ rfl ho rfl rfl rfl hl.1 rfl rc0 rfl dX5_takesStatement_70 ⟨Nat.zero_le _, Nat.zero_le _⟩ (fun H locs hH => ?_)
    exact hw_zret hx hb hret rfl hf hH hlocks dX5_takesStatement_73
  replace hf := (if_neg c9).symm.trans hf
  by_cases c11 : (swm.getD j4 0) = 3
  · replace hf := (if_pos c11).symm.trans hf
    refine hl_tabIn (tgt := 74) hx hb dX5_takesStatement_14 c11 (by decide) (by decide) rfl (by decide) ?_
    refine hl_aload_n hx hb dX5_takesStatement_74 rfl (lv_at hl 0 rfl) ?_
    obtain ⟨q12, hq12, hf⟩ := bnd hf
    refine hcV_i hx hb hml hown hts hKs hT hb0 hH (As := []) (rest := []) (k_X5_takesOfficer l E K H.size o q3.2 ho hq12) (gV m5_0 m5_2 ms_20 m1_8 m5_3) hd_X5_takesOfficer ⟨Nat.le_of_ble_eq_true rfl, Nat.le_of_ble_eq_true rfl, rfl, rfl⟩ rfl ho rfl rfl rfl hl.1 rfl rc0 rfl dX5_takesStatement_75 ⟨Nat.zero_le _, Nat.zero_le _⟩ (fun H locs hH => ?_)
    exact hw_zret hx hb hret rfl hf hH hlocks dX5_takesStatement_78
  replace hf := (if_neg c11).symm.trans hf
  by_cases c13 : (swm.getD j4 0) = 4
  · replace hf := (if_pos c13).symm.trans hf
    refine hl_tabIn (tgt := 79) hx hb dX5_takesStatement_14 c13 (by decide) (by decide) rfl (by decide) ?_
    refine hl_aload_n hx hb dX5_takesStatement_79 rfl (lv_at hl 0 rfl) ?_
    obtain ⟨q14, hq14, hf⟩ := bnd hf
    refine hcV_i hx hb hml hown hts hKs hT hb0 hH (As := []) (rest := []) (k_X5_takesWitness l E K H.size o q3.2 ho hq14) (gV m5_10 m5_12 ms_21 m1_8 m5_13) hd_X5_takesWitness ⟨Nat.le_of_ble_eq_true rfl, Nat.le_of_ble_eq_true rfl, rfl, rfl⟩ rfl ho rfl rfl rfl hl.1 rfl rc0 rfl dX5_takesStatement_80 ⟨Nat.zero_le _, Nat.zero_le _⟩ (fun H locs hH => ?_)
    exact hw_zret hx hb hret rfl hf hH hlocks dX5_takesStatement_83
  replace hf := (if_neg c13).symm.trans hf
  by_cases c15 : (swm.getD j4 0) = 5
  · replace hf := (if_pos c15).symm.trans hf
    refine hl_tabIn (tgt := 84) hx hb dX5_takesStatement_14 c15 (by decide) (by decide) rfl (by decide) ?_
    refine hl_aload_n hx hb dX5_takesStatement_84 rfl (lv_at hl 0 rfl) ?_
    obtain ⟨q16, hq16, hf⟩ := bnd hf
    refine hcV_i hx hb hml hown hts hKs hT hb0 hH (As := []) (rest := []) (k_X5_takesCase l E K H.size o q3.2 ho hq16) (gV m5_16 m5_18 ms_22 m1_8 m5_19) hd_X5_takesCase ⟨Nat.le_of_ble_eq_true rfl, Nat.le_of_ble_eq_true rfl, rfl, rfl⟩ rfl ho rfl rfl rfl hl.1 rfl rc0 rfl dX5_takesStatement_85 ⟨Nat.zero_le _, Nat.zero_le _⟩ (fun H locs hH => ?_)
    exact hw_zret hx hb hret rfl hf hH hlocks dX5_takesStatement_88
  replace hf := (if_neg c15).symm.trans hf
  by_cases c17 : (swm.getD j4 0) = 6
  · replace hf := (if_pos c17).symm.trans hf
    refine hl_tabIn (tgt := 89) hx hb dX5_takesStatement_14 c17 (by decide) (by decide) rfl (by decide) ?_
    refine hl_aload_n hx hb dX5_takesStatement_89 rfl (lv_at hl 0 rfl) ?_
    obtain ⟨q18, hq18, hf⟩ := bnd hf
    refine hcV_i hx hb hml hown hts hKs hT hb0 hH (As := []) (rest := []) (k_X5_takesBar l E K H.size o q3.2 ho hq18) (gV m5_37 m5_39 ms_25 m1_8 m5_40) hd_X5_takesBar ⟨Nat.le_of_ble_eq_true rfl, Nat.le_of_ble_eq_true rfl, rfl, rfl⟩ rfl ho rfl rfl rfl hl.1 rfl rc0 rfl dX5_takesStatement_90 ⟨Nat.zero_le _, Nat.zero_le _⟩ (fun H locs hH => ?_)
    exact hw_zret hx hb hret rfl hf hH hlocks dX5_takesStatement_93
  replace hf := (if_neg c17).symm.trans hf
  by_cases c19 : (swm.getD j4 0) = 7
  · replace hf := (if_pos c19).symm.trans hf
    refine hl_tabIn (tgt := 94) hx hb dX5_takesStatement_14 c19 (by decide) (by decide) rfl (by decide) ?_
    refine hl_aload_n hx hb dX5_takesStatement_94 rfl (lv_at hl 0 rfl) ?_
    obtain ⟨q20, hq20, hf⟩ := bnd hf
    refine hcV_i hx hb hml hown hts hKs hT hb0 hH (As := []) (rest := []) (k_X5_takesConflict l E K H.size o q3.2 ho hq20) (gV m5_41 m5_43 ms_26 m1_8 m5_44) hd_X5_takesConflict ⟨Nat.le_of_ble_eq_true rfl, Nat.le_of_ble_eq_true rfl, rfl, rfl⟩ rfl ho rfl rfl rfl hl.1 rfl rc0 rfl dX5_takesStatement_95 ⟨Nat.zero_le _, Nat.zero_le _⟩ (fun H locs hH => ?_)
    exact hw_zret hx hb hret rfl hf hH hlocks dX5_takesStatement_98
  replace hf := (if_neg c19).symm.trans hf
  by_cases c21 : (swm.getD j4 0) = 8
  · replace hf := (if_pos c21).symm.trans hf
    refine hl_tabIn (tgt := 99) hx hb dX5_takesStatement_14 c21 (by decide) (by decide) rfl (by decide) ?_
    refine hl_aload_n hx hb dX5_takesStatement_99 rfl (lv_at hl 0 rfl) ?_
    obtain ⟨q22, hq22, hf⟩ := bnd hf
    refine hcV_i hx hb hml hown hts hKs hT hb0 hH (As := []) (rest := []) (k_X5_takesLengthen l E K H.size o q3.2 ho hq22) (gV m5_45 m5_47 ms_27 m1_8 m5_48) hd_X5_takesLengthen ⟨Nat.le_of_ble_eq_true rfl, Nat.le_of_ble_eq_true rfl, rfl, rfl⟩ rfl ho rfl rfl rfl hl.1 rfl rc0 rfl dX5_takesStatement_100 ⟨Nat.zero_le _, Nat.zero_le _⟩ (fun H locs hH => ?_)
    exact hw_zret hx hb hret rfl hf hH hlocks dX5_takesStatement_103
  replace hf := (if_neg c21).symm.trans hf
  by_cases c23 : (swm.getD j4 0) = 9
  · replace hf := (if_pos c23).symm.trans hf
    refine hl_tabIn (tgt := 104) hx hb dX5_takesStatement_14 c23 (by decide) (by decide) rfl (by decide) ?_
    refine hl_aload_n hx hb dX5_takesStatement_104 rfl (lv_at hl 0 rfl) ?_
    obtain ⟨q24, hq24, hf⟩ := bnd hf
    refine hcV_i hx hb hml hown hts hKs hT hb0 hH (As := []) (rest := []) (k_X5_takesCap l E K H.size o q3.2 ho hq24) (gV m5_49 m5_51 ms_28 m1_8 m5_52) hd_X5_takesCap ⟨Nat.le_of_ble_eq_true rfl, Nat.le_of_ble_eq_true rfl, rfl, rfl⟩ rfl ho rfl rfl rfl hl.1 rfl rc0 rfl dX5_takesStatement_105 ⟨Nat.zero_le _, Nat.zero_le _⟩ (fun H locs hH => ?_)
    exact hw_zret hx hb hret rfl hf hH hlocks dX5_takesStatement_108
  replace hf := (if_neg c23).symm.trans hf
  cases hf

theorem dL_planned_0 : decode cL_planned 0 = .ok (.aload_n 0, 1) := by decide +kernel
theorem dL_planned_1 : decode cL_planned 1 = .ok (.iload_n 1, 1) := by decide +kernel
theorem dL_planned_2 : decode cL_planned 2 = .ok (.invokevirtual 41, 3) := by decide +kernel
theorem dL_planned_5 : decode cL_planned 5 = .ok (.ireturn, 1) := by decide +kernel
theorem dL_planned_6 : decode cL_planned 6 = .ok (.astore_n 2, 1) := by decide +kernel
theorem dL_planned_7 : decode cL_planned 7 = .ok (.iconst (-1), 1) := by decide +kernel
theorem dL_planned_8 : decode cL_planned 8 = .ok (.ireturn, 1) := by decide +kernel
theorem dL_planned_9 : decode cL_planned 9 = .ok (.astore_n 2, 1) := by decide +kernel
theorem dL_planned_10 : decode cL_planned 10 = .ok (.bipush (-2), 2) := by decide +kernel
theorem dL_planned_12 : decode cL_planned 12 = .ok (.ireturn, 1) := by decide +kernel
theorem hs_L_planned : yL_planned.cls ≠ "java/lang/invoke/MethodHandle" ∧ yL_planned.cls ≠ "java/lang/invoke/VarHandle" ∧ (parseMethodDescriptor yL_planned.desc).map (fun d => d.parameters.length) = some 2 := by decide +kernel
set_option maxHeartbeats 4000000 in
set_option maxRecDepth 100000 in
theorem k_L_planned (l : Launch) (hls : l.stackTraces = false) (E : Ev) (K : Kd) (z : Nat) (a_0 : Option Nat) (a_1 : Int32) (w : Wd) {r : Int32} {w' : Wd} (hf : f_L_planned K a_0 a_1 w = some (r, w')) : Met l yL_planned (Cond.codeWith yL_planned cL_planned 3 (Option.some Jvm.ClassFile.FieldType.int) [(0, 5, 6, 45), (0, 5, 9, 47)] :: bt) ({ frames := 8, cells := 2, slots := 12, locals := 149 } : Room) (va_Pc [rv E a_0, .int a_1] (HB E K w z)) (QW E K w' r) 2 12 (hA E) := by
  refine MetH_ofW (cc := cL_planned) (maxL := 3) (ret := (Option.some Jvm.ClassFile.FieldType.int)) (hh := [(0, 5, 6, 45), (0, 5, 9, 47)]) (by decide) rfl ?_
  intro p e s m args below meth c s₁ B hml htab hv
  obtain ⟨rfl, hz, hP, hKs, hT, hb0⟩ := hv
  have C : CX p l e s m _ meth c cL_planned 3 RL (Option.some Jvm.ClassFile.FieldType.int) E := ⟨B.exec, B.bytes, hml, findClass_of_methodNamed B.named, fun w h => atoms_spec (ws := Cond.codeWith yL_planned cL_planned 3 (Option.some Jvm.ClassFile.FieldType.int) [(0, 5, 6, 45), (0, 5, 9, 47)] :: bt) B.pre w (List.mem_cons_of_mem _ h), hKs, hT, by rw [hz]; exact hb0, B.notSynchronized, B.returns⟩
  have hH : HQ E K z w s s.heap [] := ⟨hP, va_S.rf, hz⟩
  obtain ⟨hx, hb, hml, hown, hts, hKs, hT, hb0, hlocks, hret⟩ := id C
  have hl := lv_entry [rv E a_0, .int a_1] (n := 3) (by simp [lg_len_nil, lg_len_i, lg_len_j, lg_len_q, lg_len_f, lg_len_d, lg_len_r])
  rw [lg_entry_eq]
  generalize (lg_sl [rv E a_0, .int a_1] ++ List.replicate (3 - (lg_sl [rv E a_0, .int a_1]).length) Slot.unset).toArray = ls at hl ⊢
  replace hl : lv_has ls 3 [(0, rv E a_0), (1, .int a_1)] := by simpa only [lv_args, cat_q, cat_i, cat_j, reduceIte, Nat.reduceEqDiff, Nat.reduceAdd, Nat.zero_add] using hl
  generalize s.heap = H at hH ⊢
  unfold f_L_planned at hf
  refine hl_aload_n hx hb dL_planned_0 rfl (lv_at hl 0 rfl) ?_
  refine lv_iload_n hx hb dL_planned_1 rfl (lv_at hl 1 rfl) ?_
  obtain ⟨a1, ha1, hf⟩ := bnd hf
  replace ha1 := chk_some ha1
  obtain ⟨q2, hq2, hf⟩ := bnd hf
  refine hxC_i hx hb hml hown hts hKs hT hb0 hH (As := [.int a_1]) (rest := []) (k_X12_planNext l hls E K H.size a1 a_1 w ha1.2 hq2) (gV m6_87 m6_88 m6_89 m1_1 m6_90) hd_X12_planNext ⟨Nat.le_of_ble_eq_true rfl, Nat.le_of_ble_eq_true rfl, rfl, rfl⟩ ha1.1 ha1.2 rfl rfl rfl hl.1 rfl rc0 rfl dL_planned_2 ⟨Nat.le_of_ble_eq_true rfl, Nat.le_of_ble_eq_true rfl⟩ (fun c4 hc4 H locs q9 ce9 hH hc9 hv9 hf9 => ?_) (fun v3 hv3 H locs hH => ?_)
  · replace hf := (xh_inr hc4).symm.trans hf
    by_cases h5 : c4 = 3
    · subst h5
      replace hf := (if_pos rfl).symm.trans hf
      refine vx_catch (name := "java/lang/IllegalStateException") hown [] ⟨0, 5, 6, 45⟩ [⟨0, 5, 9, 47⟩] htab pass0 (by decide) (by decide) (hts _ m6_85) (va_Nw.use rfl (hKs.2.1 _ m4_26)) hc9 hv9 hf9 ?_
      refine lv_astore_n (i := 2) (lv' := [(2, .ref q9), (0, rv E a_0), (1, .int a_1)]) hx hb dL_planned_6 rfl hl (by decide) rfl (fun ls hl => ?_)
      refine lv_iconst (v := (-1)) hx hb dL_planned_7 (by decide) ?_
      exact hw_wret hx hb (Nat.le_of_ble_eq_true rfl) (Nat.le_of_ble_eq_true rfl) hret hf hH hlocks dL_planned_8
    replace hf := (if_neg h5).symm.trans hf
    by_cases h6 : c4 = 4
    · subst h6
      replace hf := (if_pos rfl).symm.trans hf
      refine vx_catch (name := "java/util/NoSuchElementException") hown [⟨0, 5, 6, 45⟩] ⟨0, 5, 9, 47⟩ [] htab (pass1 (Or.inr ⟨by decide, "java/lang/IllegalStateException", hts _ m6_85, hKs.2.2.2.1 ("java/util/NoSuchElementException", "java/lang/IllegalStateException") (by decide)⟩) pass0) (by decide) (by decide) (hts _ m6_86) (va_Nw.use rfl (hKs.2.1 _ m6_113)) hc9 hv9 hf9 ?_
      refine lv_astore_n (i := 2) (lv' := [(2, .ref q9), (0, rv E a_0), (1, .int a_1)]) hx hb dL_planned_9 rfl hl (by decide) rfl (fun ls hl => ?_)
      refine lv_bipush (v := (-2)) hx hb dL_planned_10 (by decide) ?_
      exact hw_wret hx hb (Nat.le_of_ble_eq_true rfl) (Nat.le_of_ble_eq_true rfl) hret hf hH hlocks dL_planned_12
    replace hf := (if_neg h6).symm.trans hf
    cases hf
  · replace hf := (xh_inl hv3).symm.trans hf
    exact hw_wret hx hb (Nat.le_of_ble_eq_true rfl) (Nat.le_of_ble_eq_true rfl) hret hf hH hlocks dL_planned_5

theorem dL_act_0 : decode cL_act 0 = .ok (.aload_n 1, 1) := by decide +kernel
theorem dL_act_1 : decode cL_act 1 = .ok (.iconst 4, 1) := by decide +kernel
theorem dL_act_2 : decode cL_act 2 = .ok (.iload_n 2, 1) := by decide +kernel
theorem dL_act_3 : decode cL_act 3 = .ok (.imul, 1) := by decide +kernel
theorem dL_act_4 : decode cL_act 4 = .ok (.iconst 1, 1) := by decide +kernel
theorem dL_act_5 : decode cL_act 5 = .ok (.iadd, 1) := by decide +kernel
theorem dL_act_6 : decode cL_act 6 = .ok (.iconst 0, 1) := by decide +kernel
theorem dL_act_7 : decode cL_act 7 = .ok (.iconst 3, 1) := by decide +kernel
theorem dL_act_8 : decode cL_act 8 = .ok (.invokestatic 79, 3) := by decide +kernel
theorem dL_act_11 : decode cL_act 11 = .ok (.istore_n 3, 1) := by decide +kernel
theorem dL_act_12 : decode cL_act 12 = .ok (.aload_n 1, 1) := by decide +kernel
theorem dL_act_13 : decode cL_act 13 = .ok (.iconst 4, 1) := by decide +kernel
theorem dL_act_14 : decode cL_act 14 = .ok (.iload_n 2, 1) := by decide +kernel
theorem dL_act_15 : decode cL_act 15 = .ok (.imul, 1) := by decide +kernel
theorem dL_act_16 : decode cL_act 16 = .ok (.iconst 2, 1) := by decide +kernel
theorem dL_act_17 : decode cL_act 17 = .ok (.iadd, 1) := by decide +kernel
theorem dL_act_18 : decode cL_act 18 = .ok (.iconst 0, 1) := by decide +kernel
theorem dL_act_19 : decode cL_act 19 = .ok (.iconst 3, 1) := by decide +kernel
theorem dL_act_20 : decode cL_act 20 = .ok (.invokestatic 79, 3) := by decide +kernel
theorem dL_act_23 : decode cL_act 23 = .ok (.istore 4, 2) := by decide +kernel
theorem dL_act_25 : decode cL_act 25 = .ok (.iconst 0, 1) := by decide +kernel
theorem dL_act_26 : decode cL_act 26 = .ok (.istore 5, 2) := by decide +kernel
theorem dL_act_28 : decode cL_act 28 = .ok (.aload_n 1, 1) := by decide +kernel
theorem dL_act_29 : decode cL_act 29 = .ok (.iconst 4, 1) := by decide +kernel
theorem dL_act_30 : decode cL_act 30 = .ok (.iload_n 2, 1) := by decide +kernel
theorem dL_act_31 : decode cL_act 31 = .ok (.imul, 1) := by decide +kernel
theorem dL_act_32 : decode cL_act 32 = .ok (.iconst 0, 1) := by decide +kernel
theorem dL_act_33 : decode cL_act 33 = .ok (.bipush 7, 2) := by decide +kernel
theorem dL_act_35 : decode cL_act 35 = .ok (.invokestatic 79, 3) := by decide +kernel
theorem dL_act_38 : decode cL_act 38 = .ok (.tableswitch 141 0 6 #[42, 42, 52, 64, 89, 110, 132], 42) := by decide +kernel
theorem dL_act_80 : decode cL_act 80 = .ok (.aload_n 0, 1) := by decide +kernel
theorem dL_act_81 : decode cL_act 81 = .ok (.iload_n 3, 1) := by decide +kernel
theorem dL_act_82 : decode cL_act 82 = .ok (.invokestatic 116, 3) := by decide +kernel
theorem dL_act_85 : decode cL_act 85 = .ok (.istore 5, 2) := by decide +kernel
theorem dL_act_87 : decode cL_act 87 = .ok (.goto 109, 3) := by decide +kernel
theorem dL_act_90 : decode cL_act 90 = .ok (.aload_n 0, 1) := by decide +kernel
theorem dL_act_91 : decode cL_act 91 = .ok (.iload_n 3, 1) := by decide +kernel
theorem dL_act_92 : decode cL_act 92 = .ok (.iload 4, 2) := by decide +kernel
theorem dL_act_94 : decode cL_act 94 = .ok (.invokestatic 120, 3) := by decide +kernel
theorem dL_act_97 : decode cL_act 97 = .ok (.istore 5, 2) := by decide +kernel
theorem dL_act_99 : decode cL_act 99 = .ok (.goto 97, 3) := by decide +kernel
theorem dL_act_102 : decode cL_act 102 = .ok (.aload_n 0, 1) := by decide +kernel
theorem dL_act_103 : decode cL_act 103 = .ok (.iload 4, 2) := by decide +kernel
theorem dL_act_105 : decode cL_act 105 = .ok (.iconst 2, 1) := by decide +kernel
theorem dL_act_106 : decode cL_act 106 = .ok (.irem, 1) := by decide +kernel
theorem dL_act_107 : decode cL_act 107 = .ok (.aload_n 1, 1) := by decide +kernel
theorem dL_act_108 : decode cL_act 108 = .ok (.iconst 4, 1) := by decide +kernel
theorem dL_act_109 : decode cL_act 109 = .ok (.iload_n 2, 1) := by decide +kernel
theorem dL_act_110 : decode cL_act 110 = .ok (.imul, 1) := by decide +kernel
theorem dL_act_111 : decode cL_act 111 = .ok (.iconst 3, 1) := by decide +kernel
theorem dL_act_112 : decode cL_act 112 = .ok (.iadd, 1) := by decide +kernel
theorem dL_act_113 : decode cL_act 113 = .ok (.iconst 0, 1) := by decide +kernel
theorem dL_act_114 : decode cL_act 114 = .ok (.bipush 60, 2) := by decide +kernel
theorem dL_act_116 : decode cL_act 116 = .ok (.invokestatic 79, 3) := by decide +kernel
theorem dL_act_119 : decode cL_act 119 = .ok (.invokestatic 124, 3) := by decide +kernel
theorem dL_act_122 : decode cL_act 122 = .ok (.istore 5, 2) := by decide +kernel
theorem dL_act_124 : decode cL_act 124 = .ok (.goto 72, 3) := by decide +kernel
theorem dL_act_127 : decode cL_act 127 = .ok (.aload_n 0, 1) := by decide +kernel
theorem dL_act_128 : decode cL_act 128 = .ok (.aload_n 1, 1) := by decide +kernel
theorem dL_act_129 : decode cL_act 129 = .ok (.iconst 4, 1) := by decide +kernel
theorem dL_act_130 : decode cL_act 130 = .ok (.iload_n 2, 1) := by decide +kernel
theorem dL_act_131 : decode cL_act 131 = .ok (.imul, 1) := by decide +kernel
theorem dL_act_132 : decode cL_act 132 = .ok (.iconst 3, 1) := by decide +kernel
theorem dL_act_133 : decode cL_act 133 = .ok (.iadd, 1) := by decide +kernel
theorem dL_act_134 : decode cL_act 134 = .ok (.iconst 0, 1) := by decide +kernel
theorem dL_act_135 : decode cL_act 135 = .ok (.bipush 30, 2) := by decide +kernel
theorem dL_act_137 : decode cL_act 137 = .ok (.invokestatic 79, 3) := by decide +kernel
theorem dL_act_140 : decode cL_act 140 = .ok (.invokestatic 127, 3) := by decide +kernel
theorem dL_act_143 : decode cL_act 143 = .ok (.istore 5, 2) := by decide +kernel
theorem dL_act_145 : decode cL_act 145 = .ok (.goto 51, 3) := by decide +kernel
theorem dL_act_148 : decode cL_act 148 = .ok (.aload_n 0, 1) := by decide +kernel
theorem dL_act_149 : decode cL_act 149 = .ok (.iload 4, 2) := by decide +kernel
theorem dL_act_151 : decode cL_act 151 = .ok (.iconst 2, 1) := by decide +kernel
theorem dL_act_152 : decode cL_act 152 = .ok (.irem, 1) := by decide +kernel
theorem dL_act_153 : decode cL_act 153 = .ok (.iload_n 3, 1) := by decide +kernel
theorem dL_act_154 : decode cL_act 154 = .ok (.invokestatic 130, 3) := by decide +kernel
theorem dL_act_157 : decode cL_act 157 = .ok (.ifCond .eq 7, 3) := by decide +kernel
theorem dL_act_160 : decode cL_act 160 = .ok (.iconst 1, 1) := by decide +kernel
theorem dL_act_161 : decode cL_act 161 = .ok (.goto 4, 3) := by decide +kernel
theorem dL_act_164 : decode cL_act 164 = .ok (.iconst 0, 1) := by decide +kernel
theorem dL_act_165 : decode cL_act 165 = .ok (.istore 5, 2) := by decide +kernel
theorem dL_act_167 : decode cL_act 167 = .ok (.goto 29, 3) := by decide +kernel
theorem dL_act_170 : decode cL_act 170 = .ok (.aload_n 0, 1) := by decide +kernel
theorem dL_act_171 : decode cL_act 171 = .ok (.invokevirtual 134, 3) := by decide +kernel
theorem dL_act_174 : decode cL_act 174 = .ok (.istore 5, 2) := by decide +kernel
theorem dL_act_176 : decode cL_act 176 = .ok (.goto 20, 3) := by decide +kernel
theorem dL_act_179 : decode cL_act 179 = .ok (.aload_n 0, 1) := by decide +kernel
theorem dL_act_180 : decode cL_act 180 = .ok (.aload_n 1, 1) := by decide +kernel
theorem dL_act_181 : decode cL_act 181 = .ok (.iconst 4, 1) := by decide +kernel
theorem dL_act_182 : decode cL_act 182 = .ok (.iload_n 2, 1) := by decide +kernel
theorem dL_act_183 : decode cL_act 183 = .ok (.imul, 1) := by decide +kernel
theorem dL_act_184 : decode cL_act 184 = .ok (.iconst 3, 1) := by decide +kernel
theorem dL_act_185 : decode cL_act 185 = .ok (.iadd, 1) := by decide +kernel
theorem dL_act_186 : decode cL_act 186 = .ok (.iconst 1, 1) := by decide +kernel
theorem dL_act_187 : decode cL_act 187 = .ok (.iconst 5, 1) := by decide +kernel
theorem dL_act_188 : decode cL_act 188 = .ok (.invokestatic 79, 3) := by decide +kernel
theorem dL_act_191 : decode cL_act 191 = .ok (.invokevirtual 137, 3) := by decide +kernel
theorem dL_act_194 : decode cL_act 194 = .ok (.istore 5, 2) := by decide +kernel
theorem dL_act_196 : decode cL_act 196 = .ok (.return_, 1) := by decide +kernel
theorem hs_L_act : yL_act.cls ≠ "java/lang/invoke/MethodHandle" ∧ yL_act.cls ≠ "java/lang/invoke/VarHandle" ∧ (parseMethodDescriptor yL_act.desc).map (fun d => d.parameters.length) = some 3 := by decide +kernel
set_option maxHeartbeats 4000000 in
set_option maxRecDepth 100000 in
theorem k_L_act (l : Launch) (hls : l.stackTraces = false) (E : Ev) {L : Nat} {xs : Nat → Int32} (hLX : LX E L xs) (K : Kd) (z : Nat) (a_0 : Option Nat) (a_2 : Int32) (w : Wd) {w' : Wd} (hf : f_L_act L xs K a_0 a_2 w = some w') : Met l yL_act (Cond.code yL_act cL_act 6 (Option.none : Option Jvm.ClassFile.FieldType) :: bt) ({ frames := 9, cells := 3, slots := 18, locals := 174 } : Room) (va_Pc [rv E a_0, .ref (E.2.2.2.1 500), .int a_2] (HB E K w z)) (QWv E K w') 3 18 (hA E) := by
  refine Met.ofW (cc := cL_act) (maxL := 6) (ret := (Option.none : Option Jvm.ClassFile.FieldType)) (by decide) rfl ?_
  intro p e s m args below meth c s₁ B hml hv
  obtain ⟨rfl, hz, hP, hKs, hT, hb0⟩ := hv
  have C : CX p l e s m _ meth c cL_act 6 RL (Option.none : Option Jvm.ClassFile.FieldType) E := ⟨B.exec, B.bytes, hml, findClass_of_methodNamed B.named, fun w h => atoms_spec (ws := Cond.code yL_act cL_act 6 (Option.none : Option Jvm.ClassFile.FieldType) :: bt) B.pre w (List.mem_cons_of_mem _ h), hKs, hT, by rw [hz]; exact hb0, B.notSynchronized, B.returns⟩
  have hH : HQ E K z w s s.heap [] := ⟨hP, va_S.rf, hz⟩
  obtain ⟨hx, hb, hml, hown, hts, hKs, hT, hb0, hlocks, hret⟩ := id C
  have hl := lv_entry [rv E a_0, .ref (E.2.2.2.1 500), .int a_2] (n := 6) (by simp [lg_len_nil, lg_len_i, lg_len_j, lg_len_q, lg_len_f, lg_len_d, lg_len_r])
  rw [lg_entry_eq]
  generalize (lg_sl [rv E a_0, .ref (E.2.2.2.1 500), .int a_2] ++ List.replicate (6 - (lg_sl [rv E a_0, .ref (E.2.2.2.1 500), .int a_2]).length) Slot.unset).toArray = ls at hl ⊢
  replace hl : lv_has ls 6 [(0, rv E a_0), (1, .ref (E.2.2.2.1 500)), (2, .int a_2)] := by simpa only [lv_args, cat_q, cat_i, cat_j, (show ∀ x : Nat, (Value.ref x).category = 1 from fun _ => rfl), reduceIte, Nat.reduceEqDiff, Nat.reduceAdd, Nat.zero_add] using hl
  generalize s.heap = H at hH ⊢
  unfold f_L_act at hf
  refine lv_aload_n hx hb dL_act_0 rfl (lv_at hl 1 rfl) ?_
  refine lv_iconst (v := 4) hx hb dL_act_1 (by decide) ?_
  refine lv_iload_n hx hb dL_act_2 rfl (lv_at hl 2 rfl) ?_
  refine lv_imul hx hb dL_act_3 ?_
  refine lv_iconst (v := 1) hx hb dL_act_4 (by decide) ?_
  refine lv_iadd hx hb dL_act_5 ?_
  refine lv_iconst (v := 0) hx hb dL_act_6 (by decide) ?_
  refine lv_iconst (v := 3) hx hb dL_act_7 (by decide) ?_
  obtain ⟨q1, hq1, hf⟩ := bnd hf
  refine hcG_i hH (va_runS (As := [.ref (E.2.2.2.1 500), .int (((4 * a_2) + 1)), .int 0, .int 3]) (rest := []) ⟨hx, hb, hml, hown, hts⟩ (k_L_draw l E hLX K H.size ((4 * a_2) + 1) 0 3 w  hq1) (va_cwS _ hts (gS m4_59 m4_60 m1_0 m4_61) rfl rfl rfl hs_L_draw ⟨Nat.le_of_ble_eq_true rfl, Nat.le_of_ble_eq_true rfl⟩) ⟨HB.blind, HB.pre hKs hT hb0 hH⟩ rfl rfl hl.1 rfl (lv_room rc0) dL_act_8 ⟨Nat.le_of_ble_eq_true rfl, Nat.le_of_ble_eq_true rfl⟩) (fun H locs hH => ?_)
  refine lv_istore_n (i := 3) (lv' := [(3, .int (q1.1)), (0, rv E a_0), (1, .ref (E.2.2.2.1 500)), (2, .int a_2)]) hx hb dL_act_11 rfl hl (by decide) rfl (fun ls hl => ?_)
  refine lv_aload_n hx hb dL_act_12 rfl (lv_at hl 2 rfl) ?_
  refine lv_iconst (v := 4) hx hb dL_act_13 (by decide) ?_
  refine lv_iload_n hx hb dL_act_14 rfl (lv_at hl 3 rfl) ?_
  refine lv_imul hx hb dL_act_15 ?_
  refine lv_iconst (v := 2) hx hb dL_act_16 (by decide) ?_
  refine lv_iadd hx hb dL_act_17 ?_
  refine lv_iconst (v := 0) hx hb dL_act_18 (by decide) ?_
  refine lv_iconst (v := 3) hx hb dL_act_19 (by decide) ?_
  obtain ⟨q2, hq2, hf⟩ := bnd hf
  refine hcG_i hH (va_runS (As := [.ref (E.2.2.2.1 500), .int (((4 * a_2) + 2)), .int 0, .int 3]) (rest := []) ⟨hx, hb, hml, hown, hts⟩ (k_L_draw l E hLX K H.size ((4 * a_2) + 2) 0 3 q1.2  hq2) (va_cwS _ hts (gS m4_59 m4_60 m1_0 m4_61) rfl rfl rfl hs_L_draw ⟨Nat.le_of_ble_eq_true rfl, Nat.le_of_ble_eq_true rfl⟩) ⟨HB.blind, HB.pre hKs hT hb0 hH⟩ rfl rfl hl.1 rfl (lv_room rc0) dL_act_20 ⟨Nat.le_of_ble_eq_true rfl, Nat.le_of_ble_eq_true rfl⟩) (fun H locs hH => ?_)
  refine lv_istore (i := 4) (lv' := [(4, .int (q2.1)), (3, .int (q1.1)), (0, rv E a_0), (1, .ref (E.2.2.2.1 500)), (2, .int a_2)]) hx hb dL_act_23 hl (by decide) rfl (fun ls hl => ?_)
  refine lv_iconst (v := 0) hx hb dL_act_25 (by decide) ?_
  refine lv_istore (i := 5) (lv' := [(5, .int 0), (4, .int (q2.1)), (3, .int (q1.1)), (0, rv E a_0), (1, .ref (E.2.2.2.1 500)), (2, .int a_2)]) hx hb dL_act_26 hl (by decide) rfl (fun ls hl => ?_)
  refine lv_aload_n hx hb dL_act_28 rfl (lv_at hl 4 rfl) ?_
  refine lv_iconst (v := 4) hx hb dL_act_29 (by decide) ?_
  refine lv_iload_n hx hb dL_act_30 rfl (lv_at hl 5 rfl) ?_
  refine lv_imul hx hb dL_act_31 ?_
  refine lv_iconst (v := 0) hx hb dL_act_32 (by decide) ?_
  refine lv_bipush (v := 7) hx hb dL_act_33 (by decide) ?_
  obtain ⟨q3, hq3, hf⟩ := bnd hf
  refine hcG_i hH (va_runS (As := [.ref (E.2.2.2.1 500), .int ((4 * a_2)), .int 0, .int 7]) (rest := []) ⟨hx, hb, hml, hown, hts⟩ (k_L_draw l E hLX K H.size (4 * a_2) 0 7 q2.2  hq3) (va_cwS _ hts (gS m4_59 m4_60 m1_0 m4_61) rfl rfl rfl hs_L_draw ⟨Nat.le_of_ble_eq_true rfl, Nat.le_of_ble_eq_true rfl⟩) ⟨HB.blind, HB.pre hKs hT hb0 hH⟩ rfl rfl hl.1 rfl (lv_room rc0) dL_act_35 ⟨Nat.le_of_ble_eq_true rfl, Nat.le_of_ble_eq_true rfl⟩) (fun H locs hH => ?_)
  by_cases c4 : (q3.1 < 0 ∨ 6 < q3.1)
  · replace hf := (if_pos c4).symm.trans hf
    refine hl_tabOut (tgt := 179) hx hb dL_act_38 c4 (by decide) (by decide) (by decide) ?_
    refine hl_aload_n hx hb dL_act_179 rfl (lv_at hl 3 rfl) ?_
    refine lv_aload_n hx hb dL_act_180 rfl (lv_at hl 4 rfl) ?_
    refine lv_iconst (v := 4) hx hb dL_act_181 (by decide) ?_
    refine lv_iload_n hx hb dL_act_182 rfl (lv_at hl 5 rfl) ?_
    refine lv_imul hx hb dL_act_183 ?_
    refine lv_iconst (v := 3) hx hb dL_act_184 (by decide) ?_
    refine lv_iadd hx hb dL_act_185 ?_
    refine lv_iconst (v := 1) hx hb dL_act_186 (by decide) ?_
    refine lv_iconst (v := 5) hx hb dL_act_187 (by decide) ?_
    obtain ⟨q5, hq5, hf⟩ := bnd hf
    refine hcG_i hH (va_runS (As := [.ref (E.2.2.2.1 500), .int (((4 * a_2) + 3)), .int 1, .int 5]) (rest := [rv E a_0]) ⟨hx, hb, hml, hown, hts⟩ (k_L_draw l E hLX K H.size ((4 * a_2) + 3) 1 5 q3.2  hq5) (va_cwS _ hts (gS m4_59 m4_60 m1_0 m4_61) rfl rfl rfl hs_L_draw ⟨Nat.le_of_ble_eq_true rfl, Nat.le_of_ble_eq_true rfl⟩) ⟨HB.blind, HB.pre hKs hT hb0 hH⟩ rfl rfl hl.1 rfl (lv_room (rcV rc0)) dL_act_188 ⟨Nat.le_of_ble_eq_true rfl, Nat.le_of_ble_eq_true rfl⟩) (fun H locs hH => ?_)
    obtain ⟨a6, ha6, hf⟩ := bnd hf
    replace ha6 := chk_some ha6
    obtain ⟨q7, hq7, hf⟩ := bnd hf
    refine hcV_i hx hb hml hown hts hKs hT hb0 hH (As := [.int (q5.1)]) (rest := []) (k_NX12_pass l E K H.size a6 q5.1 q5.2 ha6.2 hq7) (gV m3_46 m3_47 m3_48 m1_1 m3_49) hd_NX12_pass ⟨Nat.le_of_ble_eq_true rfl, Nat.le_of_ble_eq_true rfl, rfl, rfl⟩ ha6.1 ha6.2 rfl rfl rfl hl.1 rfl rc0 rfl dL_act_191 ⟨Nat.le_of_ble_eq_true rfl, Nat.le_of_ble_eq_true rfl⟩ (fun H locs hH => ?_)
    refine lv_istore (i := 5) (lv' := [(5, .int (q7.1)), (4, .int (q2.1)), (3, .int (q1.1)), (0, rv E a_0), (1, .ref (E.2.2.2.1 500)), (2, .int a_2)]) hx hb dL_act_194 hl (by decide) rfl (fun ls hl => ?_)
    exact hw_wretv hx hb (Nat.le_of_ble_eq_true rfl) (Nat.le_of_ble_eq_true rfl) hret hf hH hlocks dL_act_196
  replace hf := (if_neg c4).symm.trans hf
  by_cases c8 : q3.1 = 0
  · replace hf := (if_pos c8).symm.trans hf
    refine hl_tabIn (tgt := 80) hx hb dL_act_38 c8 (by decide) (by decide) rfl (by decide) ?_
    refine hl_aload_n hx hb dL_act_80 rfl (lv_at hl 3 rfl) ?_
    refine lv_iload_n hx hb dL_act_81 rfl (lv_at hl 2 rfl) ?_
    obtain ⟨q9, hq9, hf⟩ := bnd hf
    refine hcWi hH (vx_runSW (As := [rv E a_0, .int (q1.1)]) (rest := []) ⟨hx, hb, hml, hown, hts⟩ (k_L_planned l hls E K H.size a_0 q1.1 q3.2  hq9) (vx_cwSW (hh := [(0, 5, 6, 45), (0, 5, 9, 47)]) _ hts (gW m6_82 m6_83 m1_0 m6_84) rfl rfl rfl hs_L_planned ⟨Nat.le_of_ble_eq_true rfl, Nat.le_of_ble_eq_true rfl⟩) ⟨HB.blind, HB.pre hKs hT hb0 hH⟩ rfl rfl hl.1 rfl (lv_room rc0) dL_act_82 ⟨Nat.le_of_ble_eq_true rfl, Nat.le_of_ble_eq_true rfl⟩) (fun H locs z1 hH => ?_)
    refine lv_istore (i := 5) (lv' := [(5, .int (q9.1)), (4, .int (q2.1)), (3, .int (q1.1)), (0, rv E a_0), (1, .ref (E.2.2.2.1 500)), (2, .int a_2)]) hx hb dL_act_85 hl (by decide) rfl (fun ls hl => ?_)
    refine lv_goto (tgt := 196) hx hb dL_act_87 (by decide) ?_
    exact hw_wretv hx hb (Nat.le_of_ble_eq_true rfl) (Nat.le_of_ble_eq_true rfl) hret hf hH hlocks dL_act_196
  replace hf := (if_neg c8).symm.trans hf
  by_cases c10 : q3.1 = 1
  · replace hf := (if_pos c10).symm.trans hf
    refine hl_tabIn (tgt := 80) hx hb dL_act_38 c10 (by decide) (by decide) rfl (by decide) ?_
    refine hl_aload_n hx hb dL_act_80 rfl (lv_at hl 3 rfl) ?_
    refine lv_iload_n hx hb dL_act_81 rfl (lv_at hl 2 rfl) ?_
    obtain ⟨q11, hq11, hf⟩ := bnd hf
    refine hcWi hH (vx_runSW (As := [rv E a_0, .int (q1.1)]) (rest := []) ⟨hx, hb, hml, hown, hts⟩ (k_L_planned l hls E K H.size a_0 q1.1 q3.2  hq11) (vx_cwSW (hh := [(0, 5, 6, 45), (0, 5, 9, 47)]) _ hts (gW m6_82 m6_83 m1_0 m6_84) rfl rfl rfl hs_L_planned ⟨Nat.le_of_ble_eq_true rfl, Nat.le_of_ble_eq_true rfl⟩) ⟨HB.blind, HB.pre hKs hT hb0 hH⟩ rfl rfl hl.1 rfl (lv_room rc0) dL_act_82 ⟨Nat.le_of_ble_eq_true rfl, Nat.le_of_ble_eq_true rfl⟩) (fun H locs z1 hH => ?_)
    refine lv_istore (i := 5) (lv' := [(5, .int (q11.1)), (4, .int (q2.1)), (3, .int (q1.1)), (0, rv E a_0), (1, .ref (E.2.2.2.1 500)), (2, .int a_2)]) hx hb dL_act_85 hl (by decide) rfl (fun ls hl => ?_)
    refine lv_goto (tgt := 196) hx hb dL_act_87 (by decide) ?_
    exact hw_wretv hx hb (Nat.le_of_ble_eq_true rfl) (Nat.le_of_ble_eq_true rfl) hret hf hH hlocks dL_act_196
  replace hf := (if_neg c10).symm.trans hf
  by_cases c12 : q3.1 = 2
  · replace hf := (if_pos c12).symm.trans hf
    refine hl_tabIn (tgt := 90) hx hb dL_act_38 c12 (by decide) (by decide) rfl (by decide) ?_
    refine hl_aload_n hx hb dL_act_90 rfl (lv_at hl 3 rfl) ?_
    refine lv_iload_n hx hb dL_act_91 rfl (lv_at hl 2 rfl) ?_
    refine lv_iload hx hb dL_act_92 (lv_at hl 1 rfl) ?_
    obtain ⟨q13, hq13, hf⟩ := bnd hf
    refine hcWi hH (vx_runSW (As := [rv E a_0, .int (q1.1), .int (q2.1)]) (rest := []) ⟨hx, hb, hml, hown, hts⟩ (k_L_adjourned l hls E K H.size a_0 q1.1 q2.1 q3.2  hq13) (vx_cwSW (hh := [(0, 6, 7, 45)]) _ hts (gW m6_127 m6_128 m1_0 m6_129) rfl rfl rfl hs_L_adjourned ⟨Nat.le_of_ble_eq_true rfl, Nat.le_of_ble_eq_true rfl⟩) ⟨HB.blind, HB.pre hKs hT hb0 hH⟩ rfl rfl hl.1 rfl (lv_room rc0) dL_act_94 ⟨Nat.le_of_ble_eq_true rfl, Nat.le_of_ble_eq_true rfl⟩) (fun H locs z1 hH => ?_)
    refine lv_istore (i := 5) (lv' := [(5, .int (q13.1)), (4, .int (q2.1)), (3, .int (q1.1)), (0, rv E a_0), (1, .ref (E.2.2.2.1 500)), (2, .int a_2)]) hx hb dL_act_97 hl (by decide) rfl (fun ls hl => ?_)
    refine lv_goto (tgt := 196) hx hb dL_act_99 (by decide) ?_
    exact hw_wretv hx hb (Nat.le_of_ble_eq_true rfl) (Nat.le_of_ble_eq_true rfl) hret hf hH hlocks dL_act_196
  replace hf := (if_neg c12).symm.trans hf
  by_cases c14 : q3.1 = 3
  · replace hf := (if_pos c14).symm.trans hf
    refine hl_tabIn (tgt := 102) hx hb dL_act_38 c14 (by decide) (by decide) rfl (by decide) ?_
    refine hl_aload_n hx hb dL_act_102 rfl (lv_at hl 3 rfl) ?_
    refine lv_iload hx hb dL_act_103 (lv_at hl 1 rfl) ?_
    refine lv_iconst (v := 2) hx hb dL_act_105 (by decide) ?_
    refine lv_irem hx hb dL_act_106 (by decide) ?_
    refine lv_aload_n hx hb dL_act_107 rfl (lv_at hl 4 rfl) ?_
    refine lv_iconst (v := 4) hx hb dL_act_108 (by decide) ?_
    refine lv_iload_n hx hb dL_act_109 rfl (lv_at hl 5 rfl) ?_
    refine lv_imul hx hb dL_act_110 ?_
    refine lv_iconst (v := 3) hx hb dL_act_111 (by decide) ?_
    refine lv_iadd hx hb dL_act_112 ?_
    refine lv_iconst (v := 0) hx hb dL_act_113 (by decide) ?_
    refine lv_bipush (v := 60) hx hb dL_act_114 (by decide) ?_
    obtain ⟨q15, hq15, hf⟩ := bnd hf
    refine hcG_i hH (va_runS (As := [.ref (E.2.2.2.1 500), .int (((4 * a_2) + 3)), .int 0, .int 60]) (rest := [.int ((q2.1 - q2.1 / 2 * 2)), rv E a_0]) ⟨hx, hb, hml, hown, hts⟩ (k_L_draw l E hLX K H.size ((4 * a_2) + 3) 0 60 q3.2  hq15) (va_cwS _ hts (gS m4_59 m4_60 m1_0 m4_61) rfl rfl rfl hs_L_draw ⟨Nat.le_of_ble_eq_true rfl, Nat.le_of_ble_eq_true rfl⟩) ⟨HB.blind, HB.pre hKs hT hb0 hH⟩ rfl rfl hl.1 rfl (lv_room (rcI (rcV rc0))) dL_act_116 ⟨Nat.le_of_ble_eq_true rfl, Nat.le_of_ble_eq_true rfl⟩) (fun H locs hH => ?_)
    obtain ⟨q16, hq16, hf⟩ := bnd hf
    refine hcWi hH (vx_runSW (As := [rv E a_0, .int ((q2.1 - q2.1 / 2 * 2)), .int (q15.1)]) (rest := []) ⟨hx, hb, hml, hown, hts⟩ (k_L_withdrawn l hls E K H.size a_0 (q2.1 - q2.1 / 2 * 2) q15.1 q15.2  hq16) (vx_cwSW (hh := [(0, 6, 7, 56)]) _ hts (gW m6_149 m6_150 m1_0 m6_151) rfl rfl rfl hs_L_withdrawn ⟨Nat.le_of_ble_eq_true rfl, Nat.le_of_ble_eq_true rfl⟩) ⟨HB.blind, HB.pre hKs hT hb0 hH⟩ rfl rfl hl.1 rfl (lv_room rc0) dL_act_119 ⟨Nat.le_of_ble_eq_true rfl, Nat.le_of_ble_eq_true rfl⟩) (fun H locs z1 hH => ?_)
    refine lv_istore (i := 5) (lv' := [(5, .int (q16.1)), (4, .int (q2.1)), (3, .int (q1.1)), (0, rv E a_0), (1, .ref (E.2.2.2.1 500)), (2, .int a_2)]) hx hb dL_act_122 hl (by decide) rfl (fun ls hl => ?_)
    refine lv_goto (tgt := 196) hx hb dL_act_124 (by decide) ?_
    exact hw_wretv hx hb (Nat.le_of_ble_eq_true rfl) (Nat.le_of_ble_eq_true rfl) hret hf hH hlocks dL_act_196
  replace hf := (if_neg c14).symm.trans hf
  by_cases c17 : q3.1 = 4
  · replace hf := (if_pos c17).symm.trans hf
    refine hl_tabIn (tgt := 127) hx hb dL_act_38 c17 (by decide) (by decide) rfl (by decide) ?_
    refine hl_aload_n hx hb dL_act_127 rfl (lv_at hl 3 rfl) ?_
    refine lv_aload_n hx hb dL_act_128 rfl (lv_at hl 4 rfl) ?_
    refine lv_iconst (v := 4) hx hb dL_act_129 (by decide) ?_
    refine lv_iload_n hx hb dL_act_130 rfl (lv_at hl 5 rfl) ?_
    refine lv_imul hx hb dL_act_131 ?_
    refine lv_iconst (v := 3) hx hb dL_act_132 (by decide) ?_
    refine lv_iadd hx hb dL_act_133 ?_
    refine lv_iconst (v := 0) hx hb dL_act_134 (by decide) ?_
    refine lv_bipush (v := 30) hx hb dL_act_135 (by decide) ?_
    obtain ⟨q18, hq18, hf⟩ := bnd hf
    refine hcG_i hH (va_runS (As := [.ref (E.2.2.2.1 500), .int (((4 * a_2) + 3)), .int 0, .int 30]) (rest := [rv E a_0]) ⟨hx, hb, hml, hown, hts⟩ (k_L_draw l E hLX K H.size ((4 * a_2) + 3) 0 30 q3.2  hq18) (va_cwS _ hts (gS m4_59 m4_60 m1_0 m4_61) rfl rfl rfl hs_L_draw ⟨Nat.le_of_ble_eq_true rfl, Nat.le_of_ble_eq_true rfl⟩) ⟨HB.blind, HB.pre hKs hT hb0 hH⟩ rfl rfl hl.1 rfl (lv_room (rcV rc0)) dL_act_137 ⟨Nat.le_of_ble_eq_true rfl, Nat.le_of_ble_eq_true rfl⟩) (fun H locs hH => ?_)
    obtain ⟨q19, hq19, hf⟩ := bnd hf
    refine hcWi hH (vx_runSW (As := [rv E a_0, .int (q18.1)]) (rest := []) ⟨hx, hb, hml, hown, hts⟩ (k_L_closed l hls E K H.size a_0 q18.1 q18.2  hq19) (vx_cwSW (hh := [(0, 5, 6, 56), (0, 5, 9, 45)]) _ hts (gW m6_163 m6_164 m1_0 m6_165) rfl rfl rfl hs_L_closed ⟨Nat.le_of_ble_eq_true rfl, Nat.le_of_ble_eq_true rfl⟩) ⟨HB.blind, HB.pre hKs hT hb0 hH⟩ rfl rfl hl.1 rfl (lv_room rc0) dL_act_140 ⟨Nat.le_of_ble_eq_true rfl, Nat.le_of_ble_eq_true rfl⟩) (fun H locs z1 hH => ?_)
    refine lv_istore (i := 5) (lv' := [(5, .int (q19.1)), (4, .int (q2.1)), (3, .int (q1.1)), (0, rv E a_0), (1, .ref (E.2.2.2.1 500)), (2, .int a_2)]) hx hb dL_act_143 hl (by decide) rfl (fun ls hl => ?_)
    refine lv_goto (tgt := 196) hx hb dL_act_145 (by decide) ?_
    exact hw_wretv hx hb (Nat.le_of_ble_eq_true rfl) (Nat.le_of_ble_eq_true rfl) hret hf hH hlocks dL_act_196
  replace hf := (if_neg c17).symm.trans hf
  by_cases c20 : q3.1 = 5
  · replace hf := (if_pos c20).symm.trans hf
    refine hl_tabIn (tgt := 148) hx hb dL_act_38 c20 (by decide) (by decide) rfl (by decide) ?_
    refine hl_aload_n hx hb dL_act_148 rfl (lv_at hl 3 rfl) ?_
    refine lv_iload hx hb dL_act_149 (lv_at hl 1 rfl) ?_
    refine lv_iconst (v := 2) hx hb dL_act_151 (by decide) ?_
    refine lv_irem hx hb dL_act_152 (by decide) ?_
    refine lv_iload_n hx hb dL_act_153 rfl (lv_at hl 2 rfl) ?_
    obtain ⟨q21, hq21, hf⟩ := bnd hf
    refine hcWi hH (vx_runSW (As := [rv E a_0, .int ((q2.1 - q2.1 / 2 * 2)), .int (q1.1)]) (rest := []) ⟨hx, hb, hml, hown, hts⟩ (k_L_barred l hls E K H.size a_0 (q2.1 - q2.1 / 2 * 2) q1.1 q3.2  hq21) (vx_cwSW (hh := [(0, 6, 7, 45)]) _ hts (gW m6_172 m6_173 m1_0 m6_174) rfl rfl rfl hs_L_barred ⟨Nat.le_of_ble_eq_true rfl, Nat.le_of_ble_eq_true rfl⟩) ⟨HB.blind, HB.pre hKs hT hb0 hH⟩ rfl rfl hl.1 rfl (lv_room rc0) dL_act_154 ⟨Nat.le_of_ble_eq_true rfl, Nat.le_of_ble_eq_true rfl⟩) (fun H locs z1 hH => ?_)
    refine lv_if_eq (tgt := 164) hx hb dL_act_157 (by decide) (fun c22 => ?_) (fun c22 => ?_)
    · replace hf := (if_pos c22).symm.trans hf
      refine lv_iconst (v := 0) hx hb dL_act_164 (by decide) ?_
      refine lv_istore (i := 5) (lv' := [(5, .int 0), (4, .int (q2.1)), (3, .int (q1.1)), (0, rv E a_0), (1, .ref (E.2.2.2.1 500)), (2, .int a_2)]) hx hb dL_act_165 hl (by decide) rfl (fun ls hl => ?_)
      refine lv_goto (tgt := 196) hx hb dL_act_167 (by decide) ?_
      exact hw_wretv hx hb (Nat.le_of_ble_eq_true rfl) (Nat.le_of_ble_eq_true rfl) hret hf hH hlocks dL_act_196
    · replace hf := (if_neg c22).symm.trans hf
      refine lv_iconst (v := 1) hx hb dL_act_160 (by decide) ?_
      refine lv_goto (tgt := 165) hx hb dL_act_161 (by decide) ?_
      refine lv_istore (i := 5) (lv' := [(5, .int 1), (4, .int (q2.1)), (3, .int (q1.1)), (0, rv E a_0), (1, .ref (E.2.2.2.1 500)), (2, .int a_2)]) hx hb dL_act_165 hl (by decide) rfl (fun ls hl => ?_)
      refine lv_goto (tgt := 196) hx hb dL_act_167 (by decide) ?_
      exact hw_wretv hx hb (Nat.le_of_ble_eq_true rfl) (Nat.le_of_ble_eq_true rfl) hret hf hH hlocks dL_act_196
  replace hf := (if_neg c20).symm.trans hf
  by_cases c23 : q3.1 = 6
  · replace hf := (if_pos c23).symm.trans hf
    refine hl_tabIn (tgt := 170) hx hb dL_act_38 c23 (by decide) (by decide) rfl (by decide) ?_
    refine hl_aload_n hx hb dL_act_170 rfl (lv_at hl 3 rfl) ?_
    obtain ⟨a24, ha24, hf⟩ := bnd hf
    replace ha24 := chk_some ha24
    obtain ⟨q25, hq25, hf⟩ := bnd hf
    refine hcV_i hx hb hml hown hts hKs hT hb0 hH (As := []) (rest := []) (k_X12_planAll l E K H.size a24 q3.2 ha24.2 hq25) (gV m3_156 m3_157 m3_158 m1_1 m3_159) hd_X12_planAll ⟨Nat.le_of_ble_eq_true rfl, Nat.le_of_ble_eq_true rfl, rfl, rfl⟩ ha24.1 ha24.2 rfl rfl rfl hl.1 rfl rc0 rfl dL_act_171 ⟨Nat.le_of_ble_eq_true rfl, Nat.le_of_ble_eq_true rfl⟩ (fun H locs hH => ?_)
    refine lv_istore (i := 5) (lv' := [(5, .int (q25.1)), (4, .int (q2.1)), (3, .int (q1.1)), (0, rv E a_0), (1, .ref (E.2.2.2.1 500)), (2, .int a_2)]) hx hb dL_act_174 hl (by decide) rfl (fun ls hl => ?_)
    refine lv_goto (tgt := 196) hx hb dL_act_176 (by decide) ?_
    exact hw_wretv hx hb (Nat.le_of_ble_eq_true rfl) (Nat.le_of_ble_eq_true rfl) hret hf hH hlocks dL_act_196
  replace hf := (if_neg c23).symm.trans hf
  cases hf

theorem dL_isOpening_0 : decode cL_isOpening 0 = .ok (.aload_n 0, 1) := by decide +kernel
theorem dL_isOpening_1 : decode cL_isOpening 1 = .ok (.iload_n 1, 1) := by decide +kernel
theorem dL_isOpening_2 : decode cL_isOpening 2 = .ok (.iconst 5, 1) := by decide +kernel
theorem dL_isOpening_3 : decode cL_isOpening 3 = .ok (.invokevirtual 143, 3) := by decide +kernel
theorem dL_isOpening_6 : decode cL_isOpening 6 = .ok (.iconst 1, 1) := by decide +kernel
theorem dL_isOpening_7 : decode cL_isOpening 7 = .ok (.if_icmp .le 5, 3) := by decide +kernel
theorem dL_isOpening_10 : decode cL_isOpening 10 = .ok (.iconst 1, 1) := by decide +kernel
theorem dL_isOpening_11 : decode cL_isOpening 11 = .ok (.ireturn, 1) := by decide +kernel
theorem dL_isOpening_12 : decode cL_isOpening 12 = .ok (.aload_n 0, 1) := by decide +kernel
theorem dL_isOpening_13 : decode cL_isOpening 13 = .ok (.iload_n 1, 1) := by decide +kernel
theorem dL_isOpening_14 : decode cL_isOpening 14 = .ok (.iconst 0, 1) := by decide +kernel
theorem dL_isOpening_15 : decode cL_isOpening 15 = .ok (.invokevirtual 162, 3) := by decide +kernel
theorem dL_isOpening_18 : decode cL_isOpening 18 = .ok (.istore_n 2, 1) := by decide +kernel
theorem dL_isOpening_19 : decode cL_isOpening 19 = .ok (.iload_n 2, 1) := by decide +kernel
theorem dL_isOpening_20 : decode cL_isOpening 20 = .ok (.ifCond .ge 17, 3) := by decide +kernel
theorem dL_isOpening_23 : decode cL_isOpening 23 = .ok (.aload_n 0, 1) := by decide +kernel
theorem dL_isOpening_24 : decode cL_isOpening 24 = .ok (.iload_n 1, 1) := by decide +kernel
theorem dL_isOpening_25 : decode cL_isOpening 25 = .ok (.invokevirtual 165, 3) := by decide +kernel
theorem dL_isOpening_28 : decode cL_isOpening 28 = .ok (.ifCond .ne 7, 3) := by decide +kernel
theorem dL_isOpening_31 : decode cL_isOpening 31 = .ok (.iconst 1, 1) := by decide +kernel
theorem dL_isOpening_32 : decode cL_isOpening 32 = .ok (.goto 4, 3) := by decide +kernel
theorem dL_isOpening_35 : decode cL_isOpening 35 = .ok (.iconst 0, 1) := by decide +kernel
theorem dL_isOpening_36 : decode cL_isOpening 36 = .ok (.ireturn, 1) := by decide +kernel
theorem dL_isOpening_37 : decode cL_isOpening 37 = .ok (.aload_n 0, 1) := by decide +kernel
theorem dL_isOpening_38 : decode cL_isOpening 38 = .ok (.iload_n 1, 1) := by decide +kernel
theorem dL_isOpening_39 : decode cL_isOpening 39 = .ok (.invokevirtual 165, 3) := by decide +kernel
theorem dL_isOpening_42 : decode cL_isOpening 42 = .ok (.iconst 1, 1) := by decide +kernel
theorem dL_isOpening_43 : decode cL_isOpening 43 = .ok (.if_icmp .lt 30, 3) := by decide +kernel
theorem dL_isOpening_46 : decode cL_isOpening 46 = .ok (.aload_n 0, 1) := by decide +kernel
theorem dL_isOpening_47 : decode cL_isOpening 47 = .ok (.iload_n 1, 1) := by decide +kernel
theorem dL_isOpening_48 : decode cL_isOpening 48 = .ok (.iload_n 2, 1) := by decide +kernel
theorem dL_isOpening_49 : decode cL_isOpening 49 = .ok (.aload_n 0, 1) := by decide +kernel
theorem dL_isOpening_50 : decode cL_isOpening 50 = .ok (.iload_n 1, 1) := by decide +kernel
theorem dL_isOpening_51 : decode cL_isOpening 51 = .ok (.iconst 1, 1) := by decide +kernel
theorem dL_isOpening_52 : decode cL_isOpening 52 = .ok (.invokevirtual 162, 3) := by decide +kernel
theorem dL_isOpening_55 : decode cL_isOpening 55 = .ok (.aload_n 0, 1) := by decide +kernel
theorem dL_isOpening_56 : decode cL_isOpening 56 = .ok (.iload_n 1, 1) := by decide +kernel
theorem dL_isOpening_57 : decode cL_isOpening 57 = .ok (.iconst 2, 1) := by decide +kernel
theorem dL_isOpening_58 : decode cL_isOpening 58 = .ok (.invokevirtual 162, 3) := by decide +kernel
theorem dL_isOpening_61 : decode cL_isOpening 61 = .ok (.aload_n 0, 1) := by decide +kernel
theorem dL_isOpening_62 : decode cL_isOpening 62 = .ok (.iload_n 1, 1) := by decide +kernel
theorem dL_isOpening_63 : decode cL_isOpening 63 = .ok (.iconst 3, 1) := by decide +kernel
theorem dL_isOpening_64 : decode cL_isOpening 64 = .ok (.invokevirtual 162, 3) := by decide +kernel
theorem dL_isOpening_67 : decode cL_isOpening 67 = .ok (.invokevirtual 156, 3) := by decide +kernel
theorem dL_isOpening_70 : decode cL_isOpening 70 = .ok (.ifCond .eq 5, 3) := by decide +kernel
theorem dL_isOpening_73 : decode cL_isOpening 73 = .ok (.iconst 0, 1) := by decide +kernel
theorem dL_isOpening_74 : decode cL_isOpening 74 = .ok (.ireturn, 1) := by decide +kernel
theorem dL_isOpening_75 : decode cL_isOpening 75 = .ok (.iconst 0, 1) := by decide +kernel
theorem dL_isOpening_76 : decode cL_isOpening 76 = .ok (.istore_n 3, 1) := by decide +kernel
theorem dL_isOpening_77 : decode cL_isOpening 77 = .ok (.iload_n 3, 1) := by decide +kernel
theorem dL_isOpening_78 : decode cL_isOpening 78 = .ok (.bipush 8, 2) := by decide +kernel
theorem dL_isOpening_80 : decode cL_isOpening 80 = .ok (.if_icmp .ge 61, 3) := by decide +kernel
theorem dL_isOpening_83 : decode cL_isOpening 83 = .ok (.iload_n 2, 1) := by decide +kernel
theorem dL_isOpening_84 : decode cL_isOpening 84 = .ok (.ifCond .le 57, 3) := by decide +kernel
theorem dL_isOpening_87 : decode cL_isOpening 87 = .ok (.iconst 0, 1) := by decide +kernel
theorem dL_isOpening_88 : decode cL_isOpening 88 = .ok (.istore 4, 2) := by decide +kernel
theorem dL_isOpening_90 : decode cL_isOpening 90 = .ok (.iload 4, 2) := by decide +kernel
theorem dL_isOpening_92 : decode cL_isOpening 92 = .ok (.iconst 2, 1) := by decide +kernel
theorem dL_isOpening_93 : decode cL_isOpening 93 = .ok (.if_icmp .ge 42, 3) := by decide +kernel
theorem dL_isOpening_96 : decode cL_isOpening 96 = .ok (.iconst 0, 1) := by decide +kernel
theorem dL_isOpening_97 : decode cL_isOpening 97 = .ok (.istore 5, 2) := by decide +kernel
theorem dL_isOpening_99 : decode cL_isOpening 99 = .ok (.iload 5, 2) := by decide +kernel
theorem dL_isOpening_101 : decode cL_isOpening 101 = .ok (.iconst 2, 1) := by decide +kernel
theorem dL_isOpening_102 : decode cL_isOpening 102 = .ok (.if_icmp .ge 27, 3) := by decide +kernel
theorem dL_isOpening_105 : decode cL_isOpening 105 = .ok (.aload_n 0, 1) := by decide +kernel
theorem dL_isOpening_106 : decode cL_isOpening 106 = .ok (.iload_n 1, 1) := by decide +kernel
theorem dL_isOpening_107 : decode cL_isOpening 107 = .ok (.iload_n 2, 1) := by decide +kernel
theorem dL_isOpening_108 : decode cL_isOpening 108 = .ok (.iconst 1, 1) := by decide +kernel
theorem dL_isOpening_109 : decode cL_isOpening 109 = .ok (.isub, 1) := by decide +kernel
theorem dL_isOpening_110 : decode cL_isOpening 110 = .ok (.iload_n 3, 1) := by decide +kernel
theorem dL_isOpening_111 : decode cL_isOpening 111 = .ok (.iload 4, 2) := by decide +kernel
theorem dL_isOpening_113 : decode cL_isOpening 113 = .ok (.iload 5, 2) := by decide +kernel
theorem dL_isOpening_115 : decode cL_isOpening 115 = .ok (.invokevirtual 156, 3) := by decide +kernel
theorem dL_isOpening_118 : decode cL_isOpening 118 = .ok (.ifCond .ne 5, 3) := by decide +kernel
theorem dL_isOpening_121 : decode cL_isOpening 121 = .ok (.iconst 0, 1) := by decide +kernel
theorem dL_isOpening_122 : decode cL_isOpening 122 = .ok (.ireturn, 1) := by decide +kernel
theorem dL_isOpening_123 : decode cL_isOpening 123 = .ok (.iinc 5 1, 3) := by decide +kernel
theorem dL_isOpening_126 : decode cL_isOpening 126 = .ok (.goto (-27), 3) := by decide +kernel
theorem dL_isOpening_129 : decode cL_isOpening 129 = .ok (.iinc 4 1, 3) := by decide +kernel
theorem dL_isOpening_132 : decode cL_isOpening 132 = .ok (.goto (-42), 3) := by decide +kernel
theorem dL_isOpening_135 : decode cL_isOpening 135 = .ok (.iinc 3 1, 3) := by decide +kernel
theorem dL_isOpening_138 : decode cL_isOpening 138 = .ok (.goto (-61), 3) := by decide +kernel
theorem dL_isOpening_141 : decode cL_isOpening 141 = .ok (.iconst 1, 1) := by decide +kernel
theorem dL_isOpening_142 : decode cL_isOpening 142 = .ok (.ireturn, 1) := by decide +kernel
theorem hs_L_isOpening : yL_isOpening.cls ≠ "java/lang/invoke/MethodHandle" ∧ yL_isOpening.cls ≠ "java/lang/invoke/VarHandle" ∧ (parseMethodDescriptor yL_isOpening.desc).map (fun d => d.parameters.length) = some 2 := by decide +kernel
set_option maxHeartbeats 4000000 in
set_option maxRecDepth 100000 in
theorem l_L_isOpening_L99 (C : CX p l e s m args meth c cL_isOpening 6 RL (Option.some Jvm.ClassFile.FieldType.boolean) E) {r : Bool} {w' : Wd} (k : Option Nat → Int32 → Int32 → Int32 → Int32 → Int32 → Wd → Option (Bool × Wd)) (hk : ∀ (v0_99 : Option Nat) (v1_99 : Int32) (v2_99 : Int32) (v3_99 : Int32) (v4_99 : Int32) (v5_99 : Int32) (w : Wd) (H : Heap) (locs : List Loc) (ls : Array Slot), HQ E K z w s H locs → lv_has ls 6 [(0, rv E v0_99), (1, .int v1_99), (2, .int v2_99), (3, .int v3_99), (4, .int v4_99), (5, .int v5_99)] → k v0_99 v1_99 v2_99 v3_99 v4_99 v5_99 w = some (r, w') → W p l e ({ frames := 6, cells := 0, slots := 0, locals := 150 } : Room) s m args below meth c H locs 0 0 (MQ below (QI E K z w' (b2i r)) args s 0 0 (hA E)) (F0 m 129 ls [])) : ∀ (n : Nat) (v0_99 : Option Nat) (v1_99 : Int32) (v2_99 : Int32) (v3_99 : Int32) (v4_99 : Int32) (v5_99 : Int32) (w : Wd) (H : Heap) (locs : List Loc) (ls : Array Slot), HQ E K z w s H locs → lv_has ls 6 [(0, rv E v0_99), (1, .int v1_99), (2, .int v2_99), (3, .int v3_99), (4, .int v4_99), (5, .int v5_99)] → f_L_isOpening_L99 K k n v0_99 v1_99 v2_99 v3_99 v4_99 v5_99 w = some (r, w') → W p l e ({ frames := 6, cells := 0, slots := 0, locals := 150 } : Room) s m args below meth c H locs 0 0 (MQ below (QI E K z w' (b2i r)) args s 0 0 (hA E)) (F0 m 99 ls []) := by
  obtain ⟨hx, hb, hml, hown, hts, hKs, hT, hb0, hlocks, hret⟩ := id C
  intro n
  induction n with
  | zero =>
    intro v0_99 v1_99 v2_99 v3_99 v4_99 v5_99 w H locs ls hH hl hf
    cases hf
  | succ n ih =>
    intro v0_99 v1_99 v2_99 v3_99 v4_99 v5_99 w H locs ls hH hl hf
    rw [f_L_isOpening_L99] at hf
    refine lv_iload hx hb dL_isOpening_99 (lv_at hl 5 rfl) ?_
    refine lv_iconst (v := 2) hx hb dL_isOpening_101 (by decide) ?_
    refine lv_icmp_ge (tgt := 129) hx hb dL_isOpening_102 (by decide) (fun c19 => ?_) (fun c19 => ?_)
    · replace hf := (if_pos c19).symm.trans hf
      exact hk v0_99 v1_99 v2_99 v3_99 v4_99 v5_99 _ _ _ _ hH (lv_sub hl [0, 1, 2, 3, 4, 5] rfl) hf
    · replace hf := (if_neg c19).symm.trans hf
      refine hl_aload_n hx hb dL_isOpening_105 rfl (lv_at hl 0 rfl) ?_
      refine lv_iload_n hx hb dL_isOpening_106 rfl (lv_at hl 1 rfl) ?_
      refine lv_iload_n hx hb dL_isOpening_107 rfl (lv_at hl 2 rfl) ?_
      refine lv_iconst (v := 1) hx hb dL_isOpening_108 (by decide) ?_
      refine lv_isub hx hb dL_isOpening_109 ?_
      refine lv_iload_n hx hb dL_isOpening_110 rfl (lv_at hl 3 rfl) ?_
      refine lv_iload hx hb dL_isOpening_111 (lv_at hl 4 rfl) ?_
      refine lv_iload hx hb dL_isOpening_113 (lv_at hl 5 rfl) ?_
      obtain ⟨a20, ha20, hf⟩ := bnd hf
      replace ha20 := chk_some ha20
      obtain ⟨q21, hq21, hf⟩ := bnd hf
      refine hcV_i hx hb hml hown hts hKs hT hb0 hH (As := [.int v1_99, .int ((v2_99 - 1)), .int v3_99, .int v4_99, .int v5_99]) (rest := []) (k_NX12_problem l E K H.size a20 v1_99 (v2_99 - 1) v3_99 v4_99 v5_99 w ha20.2 hq21) (gV m6_213 m6_214 m6_215 m1_1 m6_216) hd_NX12_problem ⟨Nat.le_of_ble_eq_true rfl, Nat.le_of_ble_eq_true rfl, rfl, rfl⟩ ha20.1 ha20.2 rfl rfl rfl hl.1 rfl rc0 rfl dL_isOpening_115 ⟨Nat.zero_le _, Nat.zero_le _⟩ (fun H locs hH => ?_)
      refine lv_if_ne (tgt := 123) hx hb dL_isOpening_118 (by decide) (fun c22 => ?_) (fun c22 => ?_)
      · replace hf := (if_neg c22).symm.trans hf
        refine lv_iinc (v := (v5_99 + 1)) (lv' := [(5, .int ((v5_99 + 1))), (0, rv E v0_99), (1, .int v1_99), (2, .int v2_99), (3, .int v3_99), (4, .int v4_99)]) hx hb dL_isOpening_123 hl (k := 5) rfl rfl (by decide) rfl (fun ls hl => ?_)
        refine lv_goto (tgt := 99) hx hb dL_isOpening_126 (by decide) ?_
        exact ih v0_99 v1_99 v2_99 v3_99 v4_99 (v5_99 + 1) _ _ _ _ hH (lv_sub hl [1, 2, 3, 4, 5, 0] rfl) hf
      · replace hf := (if_pos c22).symm.trans hf
        refine lv_iconst (v := 0) hx hb dL_isOpening_121 (by decide) ?_
        exact hw_zret hx hb hret rfl hf hH hlocks dL_isOpening_122
set_option maxHeartbeats 4000000 in
set_option maxRecDepth 100000 in
theorem l_L_isOpening_L90 (C : CX p l e s m args meth c cL_isOpening 6 RL (Option.some Jvm.ClassFile.FieldType.boolean) E) {r : Bool} {w' : Wd} (k : Option Nat → Int32 → Int32 → Int32 → Int32 → Wd → Option (Bool × Wd)) (hk : ∀ (v0_90 : Option Nat) (v1_90 : Int32) (v2_90 : Int32) (v3_90 : Int32) (v4_90 : Int32) (w : Wd) (H : Heap) (locs : List Loc) (ls : Array Slot), HQ E K z w s H locs → lv_has ls 6 [(0, rv E v0_90), (1, .int v1_90), (2, .int v2_90), (3, .int v3_90), (4, .int v4_90)] → k v0_90 v1_90 v2_90 v3_90 v4_90 w = some (r, w') → W p l e ({ frames := 6, cells := 0, slots := 0, locals := 150 } : Room) s m args below meth c H locs 0 0 (MQ below (QI E K z w' (b2i r)) args s 0 0 (hA E)) (F0 m 135 ls [])) : ∀ (n : Nat) (v0_90 : Option Nat) (v1_90 : Int32) (v2_90 : Int32) (v3_90 : Int32) (v4_90 : Int32) (w : Wd) (H : Heap) (locs : List Loc) (ls : Array Slot), HQ E K z w s H locs → lv_has ls 6 [(0, rv E v0_90), (1, .int v1_90), (2, .int v2_90), (3, .int v3_90), (4, .int v4_90)] → f_L_isOpening_L90 K k n v0_90 v1_90 v2_90 v3_90 v4_90 w = some (r, w') → W p l e ({ frames := 6, cells := 0, slots := 0, locals := 150 } : Room) s m args below meth c H locs 0 0 (MQ below (QI E K z w' (b2i r)) args s 0 0 (hA E)) (F0 m 90 ls []) := by
  obtain ⟨hx, hb, hml, hown, hts, hKs, hT, hb0, hlocks, hret⟩ := id C
  intro n
  induction n with
  | zero =>
    intro v0_90 v1_90 v2_90 v3_90 v4_90 w H locs ls hH hl hf
    cases hf
  | succ n ih =>
    intro v0_90 v1_90 v2_90 v3_90 v4_90 w H locs ls hH hl hf
    rw [f_L_isOpening_L90] at hf
    refine lv_iload hx hb dL_isOpening_90 (lv_at hl 4 rfl) ?_
    refine lv_iconst (v := 2) hx hb dL_isOpening_92 (by decide) ?_
    refine lv_icmp_ge (tgt := 135) hx hb dL_isOpening_93 (by decide) (fun c17 => ?_) (fun c17 => ?_)
    · replace hf := (if_pos c17).symm.trans hf
      exact hk v0_90 v1_90 v2_90 v3_90 v4_90 _ _ _ _ hH (lv_sub hl [0, 1, 2, 3, 4] rfl) hf
    · replace hf := (if_neg c17).symm.trans hf
      refine lv_iconst (v := 0) hx hb dL_isOpening_96 (by decide) ?_
      refine lv_istore (i := 5) (lv' := [(5, .int 0), (0, rv E v0_90), (1, .int v1_90), (2, .int v2_90), (3, .int v3_90), (4, .int v4_90)]) hx hb dL_isOpening_97 hl (by decide) rfl (fun ls hl => ?_)
      refine l_L_isOpening_L99  C _ (fun v0_99 v1_99 v2_99 v3_99 v4_99 v5_99 w18 H locs ls hH hl hf => ?_) fu v0_90 v1_90 v2_90 v3_90 v4_90 0 w _ _ _ hH (lv_sub hl [1, 2, 3, 4, 5, 0] rfl) hf
      refine lv_iinc (v := (v4_99 + 1)) (lv' := [(4, .int ((v4_99 + 1))), (0, rv E v0_99), (1, .int v1_99), (2, .int v2_99), (3, .int v3_99), (5, .int v5_99)]) hx hb dL_isOpening_129 hl (k := 4) rfl rfl (by decide) rfl (fun ls hl => ?_)
      refine lv_goto (tgt := 90) hx hb dL_isOpening_132 (by decide) ?_
      exact ih v0_99 v1_99 v2_99 v3_99 (v4_99 + 1) _ _ _ _ hH (lv_sub hl [1, 2, 3, 4, 0] rfl) hf
set_option maxHeartbeats 4000000 in
set_option maxRecDepth 100000 in
theorem l_L_isOpening_L77 (C : CX p l e s m args meth c cL_isOpening 6 RL (Option.some Jvm.ClassFile.FieldType.boolean) E) {r : Bool} {w' : Wd} (k : Option Nat → Int32 → Int32 → Int32 → Wd → Option (Bool × Wd)) (hk : ∀ (v0_77 : Option Nat) (v1_77 : Int32) (v2_77 : Int32) (v3_77 : Int32) (w : Wd) (H : Heap) (locs : List Loc) (ls : Array Slot), HQ E K z w s H locs → lv_has ls 6 [(0, rv E v0_77), (1, .int v1_77), (2, .int v2_77), (3, .int v3_77)] → k v0_77 v1_77 v2_77 v3_77 w = some (r, w') → W p l e ({ frames := 6, cells := 0, slots := 0, locals := 150 } : Room) s m args below meth c H locs 0 0 (MQ below (QI E K z w' (b2i r)) args s 0 0 (hA E)) (F0 m 141 ls [])) : ∀ (n : Nat) (v0_77 : Option Nat) (v1_77 : Int32) (v2_77 : Int32) (v3_77 : Int32) (w : Wd) (H : Heap) (locs : List Loc) (ls : Array Slot), HQ E K z w s H locs → lv_has ls 6 [(0, rv E v0_77), (1, .int v1_77), (2, .int v2_77), (3, .int v3_77)] → f_L_isOpening_L77 K k n v0_77 v1_77 v2_77 v3_77 w = some (r, w') → W p l e ({ frames := 6, cells := 0, slots := 0, locals := 150 } : Room) s m args below meth c H locs 0 0 (MQ below (QI E K z w' (b2i r)) args s 0 0 (hA E)) (F0 m 77 ls []) := by
  obtain ⟨hx, hb, hml, hown, hts, hKs, hT, hb0, hlocks, hret⟩ := id C
  intro n
  induction n with
  | zero =>
    intro v0_77 v1_77 v2_77 v3_77 w H locs ls hH hl hf
    cases hf
  | succ n ih =>
    intro v0_77 v1_77 v2_77 v3_77 w H locs ls hH hl hf
    rw [f_L_isOpening_L77] at hf
    refine lv_iload_n hx hb dL_isOpening_77 rfl (lv_at hl 3 rfl) ?_
    refine lv_bipush (v := 8) hx hb dL_isOpening_78 (by decide) ?_
    refine lv_icmp_ge (tgt := 141) hx hb dL_isOpening_80 (by decide) (fun c14 => ?_) (fun c14 => ?_)
    · replace hf := (if_pos c14).symm.trans hf
      exact hk v0_77 v1_77 v2_77 v3_77 _ _ _ _ hH (lv_sub hl [0, 1, 2, 3] rfl) hf
    · replace hf := (if_neg c14).symm.trans hf
      refine lv_iload_n hx hb dL_isOpening_83 rfl (lv_at hl 2 rfl) ?_
      refine lv_if_le (tgt := 141) hx hb dL_isOpening_84 (by decide) (fun c15 => ?_) (fun c15 => ?_)
      · replace hf := (if_pos c15).symm.trans hf
        exact hk v0_77 v1_77 v2_77 v3_77 _ _ _ _ hH (lv_sub hl [0, 1, 2, 3] rfl) hf
      · replace hf := (if_neg c15).symm.trans hf
        refine lv_iconst (v := 0) hx hb dL_isOpening_87 (by decide) ?_
        refine lv_istore (i := 4) (lv' := [(4, .int 0), (0, rv E v0_77), (1, .int v1_77), (2, .int v2_77), (3, .int v3_77)]) hx hb dL_isOpening_88 hl (by decide) rfl (fun ls hl => ?_)
        refine l_L_isOpening_L90  C _ (fun v0_90 v1_90 v2_90 v3_90 v4_90 w16 H locs ls hH hl hf => ?_) fu v0_77 v1_77 v2_77 v3_77 0 w _ _ _ hH (lv_sub hl [1, 2, 3, 4, 0] rfl) hf
        refine lv_iinc (v := (v3_90 + 1)) (lv' := [(3, .int ((v3_90 + 1))), (0, rv E v0_90), (1, .int v1_90), (2, .int v2_90), (4, .int v4_90)]) hx hb dL_isOpening_135 hl (k := 3) rfl rfl (by decide) rfl (fun ls hl => ?_)
        refine lv_goto (tgt := 77) hx hb dL_isOpening_138 (by decide) ?_
        exact ih v0_90 v1_90 v2_90 (v3_90 + 1) _ _ _ _ hH (lv_sub hl [1, 2, 3, 0] rfl) hf
set_option maxHeartbeats 4000000 in
set_option maxRecDepth 100000 in
theorem k_L_isOpening (l : Launch) (E : Ev) (K : Kd) (z : Nat) (a_0 : Option Nat) (a_1 : Int32) (w : Wd) {r : Bool} {w' : Wd} (hf : f_L_isOpening K a_0 a_1 w = some (r, w')) : Met l yL_isOpening (Cond.code yL_isOpening cL_isOpening 6 (Option.some Jvm.ClassFile.FieldType.boolean) :: bt) ({ frames := 6, cells := 0, slots := 0, locals := 150 } : Room) (va_Pc [rv E a_0, .int a_1] (HB E K w z)) (QI E K z w' (b2i r)) 0 0 (hA E) := by
  refine Met.ofW (cc := cL_isOpening) (maxL := 6) (ret := (Option.some Jvm.ClassFile.FieldType.boolean)) (by decide) rfl ?_
  intro p e s m args below meth c s₁ B hml hv
  obtain ⟨rfl, hz, hP, hKs, hT, hb0⟩ := hv
  have C : CX p l e s m _ meth c cL_isOpening 6 RL (Option.some Jvm.ClassFile.FieldType.boolean) E := ⟨B.exec, B.bytes, hml, findClass_of_methodNamed B.named, fun w h => atoms_spec (ws := Cond.code yL_isOpening cL_isOpening 6 (Option.some Jvm.ClassFile.FieldType.boolean) :: bt) B.pre w (List.mem_cons_of_mem _ h), hKs, hT, by rw [hz]; exact hb0, B.notSynchronized, B.returns⟩
  have hH : HQ E K z w s s.heap [] := ⟨hP, va_S.rf, hz⟩
  obtain ⟨hx, hb, hml, hown, hts, hKs, hT, hb0, hlocks, hret⟩ := id C
  have hl := lv_entry [rv E a_0, .int a_1] (n := 6) (by simp [lg_len_nil, lg_len_i, lg_len_j, lg_len_q, lg_len_f, lg_len_d, lg_len_r])
  rw [lg_entry_eq]
  generalize (lg_sl [rv E a_0, .int a_1] ++ List.replicate (6 - (lg_sl [rv E a_0, .int a_1]).length) Slot.unset).toArray = ls at hl ⊢
  replace hl : lv_has ls 6 [(0, rv E a_0), (1, .int a_1)] := by simpa only [lv_args, cat_q, cat_i, cat_j, reduceIte, Nat.reduceEqDiff, Nat.reduceAdd, Nat.zero_add] using hl
  generalize s.heap = H at hH ⊢
  unfold f_L_isOpening at hf
  refine hl_aload_n hx hb dL_isOpening_0 rfl (lv_at hl 0 rfl) ?_
  refine lv_iload_n hx hb dL_isOpening_1 rfl (lv_at hl 1 rfl) ?_
  refine lv_iconst (v := 5) hx hb dL_isOpening_2 (by decide) ?_
  obtain ⟨a1, ha1, hf⟩ := bnd hf
  replace ha1 := chk_some ha1
  obtain ⟨q2, hq2, hf⟩ := bnd hf
  refine hcV_i hx hb hml hown hts hKs hT hb0 hH (As := [.int a_1, .int 5]) (rest := []) (k_NX12_matter l E K H.size a1 a_1 5 w ha1.2 hq2) (gV m6_182 m6_183 m6_184 m1_1 m6_185) hd_NX12_matter ⟨Nat.le_of_ble_eq_true rfl, Nat.le_of_ble_eq_true rfl, rfl, rfl⟩ ha1.1 ha1.2 rfl rfl rfl hl.1 rfl rc0 rfl dL_isOpening_3 ⟨Nat.zero_le _, Nat.zero_le _⟩ (fun H locs hH => ?_)
  refine lv_iconst (v := 1) hx hb dL_isOpening_6 (by decide) ?_
  refine lv_icmp_le (tgt := 12) hx hb dL_isOpening_7 (by decide) (fun c3 => ?_) (fun c3 => ?_)
  · replace hf := (if_pos c3).symm.trans hf
    refine hl_aload_n hx hb dL_isOpening_12 rfl (lv_at hl 0 rfl) ?_
    refine lv_iload_n hx hb dL_isOpening_13 rfl (lv_at hl 1 rfl) ?_
    refine lv_iconst (v := 0) hx hb dL_isOpening_14 (by decide) ?_
    obtain ⟨q4, hq4, hf⟩ := bnd hf
    refine hcV_i hx hb hml hown hts hKs hT hb0 hH (As := [.int a_1, .int 0]) (rest := []) (k_NX12_opening l E K H.size a1 a_1 0 q2.2 ha1.2 hq4) (gV m6_237 m6_238 m6_239 m1_1 m7_0) hd_NX12_opening ⟨Nat.le_of_ble_eq_true rfl, Nat.le_of_ble_eq_true rfl, rfl, rfl⟩ ha1.1 ha1.2 rfl rfl rfl hl.1 rfl rc0 rfl dL_isOpening_15 ⟨Nat.zero_le _, Nat.zero_le _⟩ (fun H locs hH => ?_)
    refine lv_istore_n (i := 2) (lv' := [(2, .int (q4.1)), (0, rv E a_0), (1, .int a_1)]) hx hb dL_isOpening_18 rfl hl (by decide) rfl (fun ls hl => ?_)
    refine lv_iload_n hx hb dL_isOpening_19 rfl (lv_at hl 0 rfl) ?_
    refine lv_if_ge (tgt := 37) hx hb dL_isOpening_20 (by decide) (fun c5 => ?_) (fun c5 => ?_)
    · replace hf := (if_pos c5).symm.trans hf
      refine hl_aload_n hx hb dL_isOpening_37 rfl (lv_at hl 1 rfl) ?_
      refine lv_iload_n hx hb dL_isOpening_38 rfl (lv_at hl 2 rfl) ?_
      obtain ⟨q6, hq6, hf⟩ := bnd hf
      refine hcV_i hx hb hml hown hts hKs hT hb0 hH (As := [.int a_1]) (rest := []) (k_NX12_openDays l E K H.size a1 a_1 q4.2 ha1.2 hq6) (gV m7_1 m7_2 m7_3 m1_1 m7_4) hd_NX12_openDays ⟨Nat.le_of_ble_eq_true rfl, Nat.le_of_ble_eq_true rfl, rfl, rfl⟩ ha1.1 ha1.2 rfl rfl rfl hl.1 rfl rc0 rfl dL_isOpening_39 ⟨Nat.zero_le _, Nat.zero_le _⟩ (fun H locs hH => ?_)
      refine lv_iconst (v := 1) hx hb dL_isOpening_42 (by decide) ?_
      refine lv_icmp_lt (tgt := 73) hx hb dL_isOpening_43 (by decide) (fun c7 => ?_) (fun c7 => ?_)
      · replace hf := (if_pos c7).symm.trans hf
        refine lv_iconst (v := 0) hx hb dL_isOpening_73 (by decide) ?_
        exact hw_zret hx hb hret rfl hf hH hlocks dL_isOpening_74
      · replace hf := (if_neg c7).symm.trans hf
        refine hl_aload_n hx hb dL_isOpening_46 rfl (lv_at hl 1 rfl) ?_
        refine lv_iload_n hx hb dL_isOpening_47 rfl (lv_at hl 2 rfl) ?_
        refine lv_iload_n hx hb dL_isOpening_48 rfl (lv_at hl 0 rfl) ?_
        refine hl_aload_n hx hb dL_isOpening_49 rfl (lv_at hl 1 rfl) ?_
        refine lv_iload_n hx hb dL_isOpening_50 rfl (lv_at hl 2 rfl) ?_
        refine lv_iconst (v := 1) hx hb dL_isOpening_51 (by decide) ?_
        obtain ⟨q8, hq8, hf⟩ := bnd hf
        refine hcV_i hx hb hml hown hts hKs hT hb0 hH (As := [.int a_1, .int 1]) (rest := [.int (q4.1), .int a_1, rv E a_0]) (k_NX12_opening l E K H.size a1 a_1 1 q6.2 ha1.2 hq8) (gV m6_237 m6_238 m6_239 m1_1 m7_0) hd_NX12_opening ⟨Nat.le_of_ble_eq_true rfl, Nat.le_of_ble_eq_true rfl, rfl, rfl⟩ ha1.1 ha1.2 rfl rfl rfl hl.1 rfl (rcI (rcI (rcV rc0))) rfl dL_isOpening_52 ⟨Nat.zero_le _, Nat.zero_le _⟩ (fun H locs hH => ?_)
        refine hl_aload_n hx hb dL_isOpening_55 rfl (lv_at hl 1 rfl) ?_
        refine lv_iload_n hx hb dL_isOpening_56 rfl (lv_at hl 2 rfl) ?_
        refine lv_iconst (v := 2) hx hb dL_isOpening_57 (by decide) ?_
        obtain ⟨q9, hq9, hf⟩ := bnd hf
        refine hcV_i hx hb hml hown hts hKs hT hb0 hH (As := [.int a_1, .int 2]) (rest := [.int (q8.1), .int (q4.1), .int a_1, rv E a_0]) (k_NX12_opening l E K H.size a1 a_1 2 q8.2 ha1.2 hq9) (gV m6_237 m6_238 m6_239 m1_1 m7_0) hd_NX12_opening ⟨Nat.le_of_ble_eq_true rfl, Nat.le_of_ble_eq_true rfl, rfl, rfl⟩ ha1.1 ha1.2 rfl rfl rfl hl.1 rfl (rcI (rcI (rcI (rcV rc0)))) rfl dL_isOpening_58 ⟨Nat.zero_le _, Nat.zero_le _⟩ (fun H locs hH => ?_)
        refine hl_aload_n hx hb dL_isOpening_61 rfl (lv_at hl 1 rfl) ?_
        refine lv_iload_n hx hb dL_isOpening_62 rfl (lv_at hl 2 rfl) ?_
        refine lv_iconst (v := 3) hx hb dL_isOpening_63 (by decide) ?_
        obtain ⟨q10, hq10, hf⟩ := bnd hf
        refine hcV_i hx hb hml hown hts hKs hT hb0 hH (As := [.int a_1, .int 3]) (rest := [.int (q9.1), .int (q8.1), .int (q4.1), .int a_1, rv E a_0]) (k_NX12_opening l E K H.size a1 a_1 3 q9.2 ha1.2 hq10) (gV m6_237 m6_238 m6_239 m1_1 m7_0) hd_NX12_opening ⟨Nat.le_of_ble_eq_true rfl, Nat.le_of_ble_eq_true rfl, rfl, rfl⟩ ha1.1 ha1.2 rfl rfl rfl hl.1 rfl (rcI (rcI (rcI (rcI (rcV rc0))))) rfl dL_isOpening_64 ⟨Nat.zero_le _, Nat.zero_le _⟩ (fun H locs hH => ?_)
        obtain ⟨q11, hq11, hf⟩ := bnd hf
        refine hcV_i hx hb hml hown hts hKs hT hb0 hH (As := [.int a_1, .int (q4.1), .int (q8.1), .int (q9.1), .int (q10.1)]) (rest := []) (k_NX12_problem l E K H.size a1 a_1 q4.1 q8.1 q9.1 q10.1 q10.2 ha1.2 hq11) (gV m6_213 m6_214 m6_215 m1_1 m6_216) hd_NX12_problem ⟨Nat.le_of_ble_eq_true rfl, Nat.le_of_ble_eq_true rfl, rfl, rfl⟩ ha1.1 ha1.2 rfl rfl rfl hl.1 rfl rc0 rfl dL_isOpening_67 ⟨Nat.zero_le _, Nat.zero_le _⟩ (fun H locs hH => ?_)
        refine lv_if_eq (tgt := 75) hx hb dL_isOpening_70 (by decide) (fun c12 => ?_) (fun c12 => ?_)
        · replace hf := (if_pos c12).symm.trans hf
          refine lv_iconst (v := 0) hx hb dL_isOpening_75 (by decide) ?_
          refine lv_istore_n (i := 3) (lv' := [(3, .int 0), (2, .int (q4.1)), (0, rv E a_0), (1, .int a_1)]) hx hb dL_isOpening_76 rfl hl (by decide) rfl (fun ls hl => ?_)
          refine l_L_isOpening_L77  C _ (fun v0_77 v1_77 v2_77 v3_77 w13 H locs ls hH hl hf => ?_) fu a_0 a_1 q4.1 0 q11.2 _ _ _ hH (lv_sub hl [2, 3, 1, 0] rfl) hf
          refine lv_iconst (v := 1) hx hb dL_isOpening_141 (by decide) ?_
          exact hw_zret hx hb hret rfl hf hH hlocks dL_isOpening_142
        · replace hf := (if_neg c12).symm.trans hf
          refine lv_iconst (v := 0) hx hb dL_isOpening_73 (by decide) ?_
          exact hw_zret hx hb hret rfl hf hH hlocks dL_isOpening_74
    · replace hf := (if_neg c5).symm.trans hf
      refine hl_aload_n hx hb dL_isOpening_23 rfl (lv_at hl 1 rfl) ?_
      refine lv_iload_n hx hb dL_isOpening_24 rfl (lv_at hl 2 rfl) ?_
      obtain ⟨q23, hq23, hf⟩ := bnd hf
      refine hcV_i hx hb hml hown hts hKs hT hb0 hH (As := [.int a_1]) (rest := []) (k_NX12_openDays l E K H.size a1 a_1 q4.2 ha1.2 hq23) (gV m7_1 m7_2 m7_3 m1_1 m7_4) hd_NX12_openDays ⟨Nat.le_of_ble_eq_true rfl, Nat.le_of_ble_eq_true rfl, rfl, rfl⟩ ha1.1 ha1.2 rfl rfl rfl hl.1 rfl rc0 rfl dL_isOpening_25 ⟨Nat.zero_le _, Nat.zero_le _⟩ (fun H locs hH => ?_)
      refine lv_if_ne (tgt := 35) hx hb dL_isOpening_28 (by decide) (fun c24 => ?_) (fun c24 => ?_)
      · replace hf := (if_neg c24).symm.trans hf
        refine lv_iconst (v := 0) hx hb dL_isOpening_35 (by decide) ?_
        exact hw_zret hx hb hret rfl hf hH hlocks dL_isOpening_36
      · replace hf := (if_pos c24).symm.trans hf
        refine lv_iconst (v := 1) hx hb dL_isOpening_31 (by decide) ?_
        refine lv_goto (tgt := 36) hx hb dL_isOpening_32 (by decide) ?_
        exact hw_zret hx hb hret rfl hf hH hlocks dL_isOpening_36
  · replace hf := (if_neg c3).symm.trans hf
    refine lv_iconst (v := 1) hx hb dL_isOpening_10 (by decide) ?_
    exact hw_zret hx hb hret rfl hf hH hlocks dL_isOpening_11

theorem dX12_plannable_0 : decode cX12_plannable 0 = .ok (.aload_n 0, 1) := by decide +kernel
theorem dX12_plannable_1 : decode cX12_plannable 1 = .ok (.iconst 0, 1) := by decide +kernel
theorem dX12_plannable_2 : decode cX12_plannable 2 = .ok (.invokevirtual 366, 3) := by decide +kernel
theorem dX12_plannable_5 : decode cX12_plannable 5 = .ok (.ireturn, 1) := by decide +kernel
theorem hd_X12_plannable : yX12_plannable.cls = RX12 ∧ yX12_plannable.cls ≠ "java/lang/invoke/MethodHandle" ∧ yX12_plannable.cls ≠ "java/lang/invoke/VarHandle" ∧ (parseMethodDescriptor yX12_plannable.desc).map (fun d => d.parameters.length) = some 0 := by decide +kernel
theorem hs_X12_plannable : yX12_plannable.cls ≠ "java/lang/invoke/MethodHandle" ∧ yX12_plannable.cls ≠ "java/lang/invoke/VarHandle" ∧ (parseMethodDescriptor yX12_plannable.desc).map (fun d => d.parameters.length) = some 0 := by decide +kernel
set_option maxHeartbeats 4000000 in
set_option maxRecDepth 100000 in
theorem k_X12_plannable (l : Launch) (E : Ev) (K : Kd) (z : Nat) (o : Nat) (w : Wd) (ho : K o = some (10, 0)) {r : Int32} {w' : Wd} (hf : f_X12_plannable K o w = some (r, w')) : Met l yX12_plannable (Cond.code yX12_plannable cX12_plannable 1 (Option.some Jvm.ClassFile.FieldType.int) :: bt) ({ frames := 7, cells := 0, slots := 0, locals := 174 } : Room) (va_Pc [rv E (some o)] (HB E K w z)) (QI E K z w' r) 0 0 (hA E) := by
  refine Met.ofW (cc := cX12_plannable) (maxL := 1) (ret := (Option.some Jvm.ClassFile.FieldType.int)) (by decide) rfl ?_
  intro p e s m args below meth c s₁ B hml hv
  obtain ⟨rfl, hz, hP, hKs, hT, hb0⟩ := hv
  have C : CX p l e s m _ meth c cX12_plannable 1 RX12 (Option.some Jvm.ClassFile.FieldType.int) E := ⟨B.exec, B.bytes, hml, findClass_of_methodNamed B.named, fun w h => atoms_spec (ws := Cond.code yX12_plannable cX12_plannable 1 (Option.some Jvm.ClassFile.FieldType.int) :: bt) B.pre w (List.mem_cons_of_mem _ h), hKs, hT, by rw [hz]; exact hb0, B.notSynchronized, B.returns⟩
  have hH : HQ E K z w s s.heap [] := ⟨hP, va_S.rf, hz⟩
  obtain ⟨hx, hb, hml, hown, hts, hKs, hT, hb0, hlocks, hret⟩ := id C
  have hl := lv_entry [rv E (some o)] (n := 1) (by simp [lg_len_nil, lg_len_i, lg_len_j, lg_len_q, lg_len_f, lg_len_d, lg_len_r])
  rw [lg_entry_eq]
  generalize (lg_sl [rv E (some o)] ++ List.replicate (1 - (lg_sl [rv E (some o)]).length) Slot.unset).toArray = ls at hl ⊢
  replace hl : lv_has ls 1 [(0, rv E (some o))] := by simpa only [lv_args, cat_q, cat_i, cat_j, reduceIte, Nat.reduceEqDiff, Nat.reduceAdd, Nat.zero_add] using hl
  generalize s.heap = H at hH ⊢
  unfold f_X12_plannable at hf
  refine hl_aload_n hx hb dX12_plannable_0 rfl (lv_at hl 0 rfl) ?_
  refine lv_iconst (v := 0) hx hb dX12_plannable_1 (by decide) ?_
  obtain ⟨q1, hq1, hf⟩ := bnd hf
  refine hcV_i hx hb hml hown hts hKs hT hb0 hH (As := [.int 0]) (rest := []) (k_X12_forecastPlanned l E K H.size o 0 w ho hq1) (gV m4_47 m4_49 ms_9 m1_1 m4_50) hd_X12_forecastPlanned ⟨Nat.le_of_ble_eq_true rfl, Nat.le_of_ble_eq_true rfl, rfl, rfl⟩ rfl ho rfl rfl rfl hl.1 rfl rc0 rfl dX12_plannable_2 ⟨Nat.zero_le _, Nat.zero_le _⟩ (fun H locs hH => ?_)
  exact hw_iret hx hb hret hf hH hlocks dX12_plannable_5

theorem dX5_read_0 : decode cX5_read 0 = .ok (.aload_n 0, 1) := by decide +kernel
theorem dX5_read_1 : decode cX5_read 1 = .ok (.iconst 0, 1) := by decide +kernel
theorem dX5_read_2 : decode cX5_read 2 = .ok (.putfield 29, 3) := by decide +kernel
theorem dX5_read_5 : decode cX5_read 5 = .ok (.aload_n 0, 1) := by decide +kernel
theorem dX5_read_6 : decode cX5_read 6 = .ok (.iconst (-1), 1) := by decide +kernel
theorem dX5_read_7 : decode cX5_read 7 = .ok (.putfield 25, 3) := by decide +kernel
theorem dX5_read_10 : decode cX5_read 10 = .ok (.aload_n 0, 1) := by decide +kernel
theorem dX5_read_11 : decode cX5_read 11 = .ok (.getfield 21, 3) := by decide +kernel
theorem dX5_read_14 : decode cX5_read 14 = .ok (.invokevirtual 32, 3) := by decide +kernel
theorem dX5_read_17 : decode cX5_read 17 = .ok (.aload_n 0, 1) := by decide +kernel
theorem dX5_read_18 : decode cX5_read 18 = .ok (.getfield 12, 3) := by decide +kernel
theorem dX5_read_21 : decode cX5_read 21 = .ok (.aload_n 1, 1) := by decide +kernel
theorem dX5_read_22 : decode cX5_read 22 = .ok (.iload_n 2, 1) := by decide +kernel
theorem dX5_read_23 : decode cX5_read 23 = .ok (.invokevirtual 35, 3) := by decide +kernel
theorem dX5_read_26 : decode cX5_read 26 = .ok (.iconst 0, 1) := by decide +kernel
theorem dX5_read_27 : decode cX5_read 27 = .ok (.istore_n 3, 1) := by decide +kernel
theorem dX5_read_28 : decode cX5_read 28 = .ok (.iload_n 3, 1) := by decide +kernel
theorem dX5_read_29 : decode cX5_read 29 = .ok (.sipush 900, 3) := by decide +kernel
theorem dX5_read_32 : decode cX5_read 32 = .ok (.if_icmp .gt 43, 3) := by decide +kernel
theorem dX5_read_35 : decode cX5_read 35 = .ok (.aload_n 0, 1) := by decide +kernel
theorem dX5_read_36 : decode cX5_read 36 = .ok (.getfield 12, 3) := by decide +kernel
theorem dX5_read_39 : decode cX5_read 39 = .ok (.getfield 39, 3) := by decide +kernel
theorem dX5_read_42 : decode cX5_read 42 = .ok (.getstatic 43, 3) := by decide +kernel
theorem dX5_read_45 : decode cX5_read 45 = .ok (.if_acmp .ne 5, 3) := by decide +kernel
theorem dX5_read_48 : decode cX5_read 48 = .ok (.iconst 1, 1) := by decide +kernel
theorem dX5_read_49 : decode cX5_read 49 = .ok (.ireturn, 1) := by decide +kernel
theorem dX5_read_50 : decode cX5_read 50 = .ok (.aload_n 0, 1) := by decide +kernel
theorem dX5_read_51 : decode cX5_read 51 = .ok (.invokevirtual 48, 3) := by decide +kernel
theorem dX5_read_54 : decode cX5_read 54 = .ok (.ifCond .eq 13, 3) := by decide +kernel
theorem dX5_read_57 : decode cX5_read 57 = .ok (.aload_n 0, 1) := by decide +kernel
theorem dX5_read_58 : decode cX5_read 58 = .ok (.getstatic 52, 3) := by decide +kernel
theorem dX5_read_61 : decode cX5_read 61 = .ok (.invokevirtual 55, 3) := by decide +kernel
theorem dX5_read_64 : decode cX5_read 64 = .ok (.ifCond .ne 5, 3) := by decide +kernel
theorem dX5_read_67 : decode cX5_read 67 = .ok (.iconst 0, 1) := by decide +kernel
theorem dX5_read_68 : decode cX5_read 68 = .ok (.ireturn, 1) := by decide +kernel
theorem dX5_read_69 : decode cX5_read 69 = .ok (.iinc 3 1, 3) := by decide +kernel
theorem dX5_read_72 : decode cX5_read 72 = .ok (.goto (-44), 3) := by decide +kernel
theorem dX5_read_75 : decode cX5_read 75 = .ok (.iconst 0, 1) := by decide +kernel
theorem dX5_read_76 : decode cX5_read 76 = .ok (.ireturn, 1) := by decide +kernel
theorem hd_X5_read : yX5_read.cls = RX5 ∧ yX5_read.cls ≠ "java/lang/invoke/MethodHandle" ∧ yX5_read.cls ≠ "java/lang/invoke/VarHandle" ∧ (parseMethodDescriptor yX5_read.desc).map (fun d => d.parameters.length) = some 2 := by decide +kernel
theorem hs_X5_read : yX5_read.cls ≠ "java/lang/invoke/MethodHandle" ∧ yX5_read.cls ≠ "java/lang/invoke/VarHandle" ∧ (parseMethodDescriptor yX5_read.desc).map (fun d => d.parameters.length) = some 2 := by decide +kernel
set_option maxHeartbeats 4000000 in
set_option maxRecDepth 100000 in
theorem l_X5_read_L28 (C : CX p l e s m args meth c cX5_read 4 RX5 (Option.some Jvm.ClassFile.FieldType.boolean) E) {o : Nat} (ho : K o = some (4, 0)) {r : Bool} {w' : Wd} (k : Option Nat → Int32 → Int32 → Wd → Option (Bool × Wd)) (hk : ∀ (v1_28 : Option Nat) (v2_28 : Int32) (v3_28 : Int32) (w : Wd) (H : Heap) (locs : List Loc) (ls : Array Slot), HQ E K z w s H locs → lv_has ls 4 [(1, rv E v1_28), (2, .int v2_28), (3, .int v3_28), (0, rv E (some o))] → k v1_28 v2_28 v3_28 w = some (r, w') → W p l e ({ frames := 6, cells := 0, slots := 0, locals := 127 } : Room) s m args below meth c H locs 0 0 (MQ below (QI E K z w' (b2i r)) args s 0 0 (hA E)) (F0 m 75 ls [])) : ∀ (n : Nat) (v1_28 : Option Nat) (v2_28 : Int32) (v3_28 : Int32) (w : Wd) (H : Heap) (locs : List Loc) (ls : Array Slot), HQ E K z w s H locs → lv_has ls 4 [(1, rv E v1_28), (2, .int v2_28), (3, .int v3_28), (0, rv E (some o))] → f_X5_read_L28 K o k n v1_28 v2_28 v3_28 w = some (r, w') → W p l e ({ frames := 6, cells := 0, slots := 0, locals := 127 } : Room) s m args below meth c H locs 0 0 (MQ below (QI E K z w' (b2i r)) args s 0 0 (hA E)) (F0 m 28 ls []) := by
  obtain ⟨hx, hb, hml, hown, hts, hKs, hT, hb0, hlocks, hret⟩ := id C
  intro n
  induction n with
  | zero =>
    intro v1_28 v2_28 v3_28 w H locs ls hH hl hf
    cases hf
  | succ n ih =>
    intro v1_28 v2_28 v3_28 w H locs ls hH hl hf
    rw [f_X5_read_L28] at hf
    refine lv_iload_n hx hb dX5_read_28 rfl (lv_at hl 2 rfl) ?_
    refine lv_sipush (v := 900) hx hb dX5_read_29 (by decide) ?_
    refine lv_icmp_gt (tgt := 75) hx hb dX5_read_32 (by decide) (fun c8 => ?_) (fun c8 => ?_)
    · replace hf := (if_pos c8).symm.trans hf
      exact hk v1_28 v2_28 v3_28 _ _ _ _ hH (lv_sub hl [0, 1, 2, 3] rfl) hf
    · replace hf := (if_neg c8).symm.trans hf
      refine hl_aload_n hx hb dX5_read_35 rfl (lv_at hl 3 rfl) ?_
      refine g5_0 hx hb hts hown hKs hH rfl ho m2_24 dX5_read_36 ?_
      obtain ⟨a9, ha9, hf⟩ := bnd hf
      replace ha9 := chk_some ha9
      refine gn8_4 hx hb hts hown hKs hH ha9.1 ha9.2 m2_1 dX5_read_39 ?_
      refine hw_tok hx hb 19 (by decide) hts hown hT hH m4_170 dX5_read_42 ?_
      obtain ⟨_, hg10, hf⟩ := bnd hf
      refine hw_acmp_ne (tgt := 50) hx hb hT (grd_some hg10) rfl dX5_read_45 (by decide) (fun c11 => ?_) (fun c11 => ?_)
      · replace hf := (if_neg c11).symm.trans hf
        refine hl_aload_n hx hb dX5_read_50 rfl (lv_at hl 3 rfl) ?_
        obtain ⟨q12, hq12, hf⟩ := bnd hf
        refine hcV_i hx hb hml hown hts hKs hT hb0 hH (As := []) (rest := []) (k_X5_takesStatement l E K H.size o w ho hq12) (gV m4_171 m4_173 ms_11 m1_8 m4_174) hd_X5_takesStatement ⟨Nat.le_of_ble_eq_true rfl, Nat.le_of_ble_eq_true rfl, rfl, rfl⟩ rfl ho rfl rfl rfl hl.1 rfl rc0 rfl dX5_read_51 ⟨Nat.zero_le _, Nat.zero_le _⟩ (fun H locs hH => ?_)
        refine lv_if_eq (tgt := 67) hx hb dX5_read_54 (by decide) (fun c13 => ?_) (fun c13 => ?_)
        · replace hf := (if_pos c13).symm.trans hf
          refine lv_iconst (v := 0) hx hb dX5_read_67 (by decide) ?_
          exact hw_zret hx hb hret rfl hf hH hlocks dX5_read_68
        · replace hf := (if_neg c13).symm.trans hf
          refine hl_aload_n hx hb dX5_read_57 rfl (lv_at hl 3 rfl) ?_
          refine hw_tok hx hb 18 (by decide) hts hown hT hH m5_53 dX5_read_58 ?_
          obtain ⟨q14, hq14, hf⟩ := bnd hf
          refine hcV_i hx hb hml hown hts hKs hT hb0 hH (As := [re E (some 18)]) (rest := []) (k_X5_takes l E K H.size o (some 18) q12.2 ho hq14) (gV m4_226 m4_228 ms_17 m1_8 m4_229) hd_X5_takes ⟨Nat.le_of_ble_eq_true rfl, Nat.le_of_ble_eq_true rfl, rfl, rfl⟩ rfl ho rfl rfl rfl hl.1 rfl rc0 rfl dX5_read_61 ⟨Nat.zero_le _, Nat.zero_le _⟩ (fun H locs hH => ?_)
          refine lv_if_ne (tgt := 69) hx hb dX5_read_64 (by decide) (fun c15 => ?_) (fun c15 => ?_)
          · replace hf := (if_neg c15).symm.trans hf
            refine lv_iinc (v := (v3_28 + 1)) (lv' := [(3, .int ((v3_28 + 1))), (1, rv E v1_28), (2, .int v2_28), (0, rv E (some o))]) hx hb dX5_read_69 hl (k := 2) rfl rfl (by decide) rfl (fun ls hl => ?_)
            refine lv_goto (tgt := 28) hx hb dX5_read_72 (by decide) ?_
            exact ih v1_28 v2_28 (v3_28 + 1) _ _ _ _ hH (lv_sub hl [1, 2, 0, 3] rfl) hf
          · replace hf := (if_pos c15).symm.trans hf
            refine lv_iconst (v := 0) hx hb dX5_read_67 (by decide) ?_
            exact hw_zret hx hb hret rfl hf hH hlocks dX5_read_68
      · replace hf := (if_pos c11).symm.trans hf
        refine lv_iconst (v := 1) hx hb dX5_read_48 (by decide) ?_
        exact hw_zret hx hb hret rfl hf hH hlocks dX5_read_49
set_option maxHeartbeats 4000000 in
set_option maxRecDepth 100000 in
theorem k_X5_read (l : Launch) (E : Ev) (K : Kd) (z : Nat) (o : Nat) (a_1 : Option Nat) (a_2 : Int32) (w : Wd) (ho : K o = some (4, 0)) {r : Bool} {w' : Wd} (hf : f_X5_read K o a_1 a_2 w = some (r, w')) : Met l yX5_read (Cond.code yX5_read cX5_read 4 (Option.some Jvm.ClassFile.FieldType.boolean) :: bt) ({ frames := 6, cells := 0, slots := 0, locals := 127 } : Room) (va_Pc [rv E (some o), rv E a_1, .int a_2] (HB E K w z)) (QI E K z w' (b2i r)) 0 0 (hA E) := by
  refine Met.ofW (cc := cX5_read) (maxL := 4) (ret := (Option.some Jvm.ClassFile.FieldType.boolean)) (by decide) rfl ?_
  intro p e s m args below meth c s₁ B hml hv
  obtain ⟨rfl, hz, hP, hKs, hT, hb0⟩ := hv
  have C : CX p l e s m _ meth c cX5_read 4 RX5 (Option.some Jvm.ClassFile.FieldType.boolean) E := ⟨B.exec, B.bytes, hml, findClass_of_methodNamed B.named, fun w h => atoms_spec (ws := Cond.code yX5_read cX5_read 4 (Option.some Jvm.ClassFile.FieldType.boolean) :: bt) B.pre w (List.mem_cons_of_mem _ h), hKs, hT, by rw [hz]; exact hb0, B.notSynchronized, B.returns⟩
  have hH : HQ E K z w s s.heap [] := ⟨hP, va_S.rf, hz⟩
  obtain ⟨hx, hb, hml, hown, hts, hKs, hT, hb0, hlocks, hret⟩ := id C
  have hl := lv_entry [rv E (some o), rv E a_1, .int a_2] (n := 4) (by simp [lg_len_nil, lg_len_i, lg_len_j, lg_len_q, lg_len_f, lg_len_d, lg_len_r])
  rw [lg_entry_eq]
  generalize (lg_sl [rv E (some o), rv E a_1, .int a_2] ++ List.replicate (4 - (lg_sl [rv E (some o), rv E a_1, .int a_2]).length) Slot.unset).toArray = ls at hl ⊢
  replace hl : lv_has ls 4 [(0, rv E (some o)), (1, rv E a_1), (2, .int a_2)] := by simpa only [lv_args, cat_q, cat_i, cat_j, reduceIte, Nat.reduceEqDiff, Nat.reduceAdd, Nat.zero_add] using hl
  generalize s.heap = H at hH ⊢
  unfold f_X5_read at hf
  refine hl_aload_n hx hb dX5_read_0 rfl (lv_at hl 0 rfl) ?_
  refine lv_iconst (v := 0) hx hb dX5_read_1 (by decide) ?_
  obtain ⟨w1, hw1, hf⟩ := bnd hf
  replace hw1 := Option.some.inj hw1
  refine p5_2 (v := 0) hx hb hts hown hKs hH rfl ho m2_26 dX5_read_2 (fun H locs hH => ?_)
  rw [hw1] at hH
  refine hl_aload_n hx hb dX5_read_5 rfl (lv_at hl 0 rfl) ?_
  refine lv_iconst (v := (-1)) hx hb dX5_read_6 (by decide) ?_
  obtain ⟨w2, hw2, hf⟩ := bnd hf
  replace hw2 := Option.some.inj hw2
  refine p5_3 (v := (-1)) hx hb hts hown hKs hH rfl ho m2_28 dX5_read_7 (fun H locs hH => ?_)
  rw [hw2] at hH
  refine hl_aload_n hx hb dX5_read_10 rfl (lv_at hl 0 rfl) ?_
  refine g5_1 hx hb hts hown hKs hH rfl ho m2_25 dX5_read_11 ?_
  obtain ⟨a3, ha3, hf⟩ := bnd hf
  replace ha3 := chk_some ha3
  obtain ⟨q4, hq4, hf⟩ := bnd hf
  refine hcV_v hx hb hml hown hts hKs hT hb0 hH (As := []) (rest := []) (k_X9_clear l E K H.size a3 w2 ha3.2 hq4) (gV m4_141 m1_136 m1_137 m1_2 m1_138) hd_X9_clear ⟨Nat.le_of_ble_eq_true rfl, Nat.le_of_ble_eq_true rfl, rfl, rfl⟩ ha3.1 ha3.2 rfl rfl rfl hl.1 rfl rc0 rfl dX5_read_14 ⟨Nat.zero_le _, Nat.zero_le _⟩ (fun H locs hH => ?_)
  refine hl_aload_n hx hb dX5_read_17 rfl (lv_at hl 0 rfl) ?_
  refine g5_0 hx hb hts hown hKs hH rfl ho m2_24 dX5_read_18 ?_
  refine hl_aload_n hx hb dX5_read_21 rfl (lv_at hl 1 rfl) ?_
  refine lv_iload_n hx hb dX5_read_22 rfl (lv_at hl 2 rfl) ?_
  obtain ⟨a5, ha5, hf⟩ := bnd hf
  replace ha5 := chk_some ha5
  obtain ⟨q6, hq6, hf⟩ := bnd hf
  refine hcV_v hx hb hml hown hts hKs hT hb0 hH (As := [rv E a_1, .int a_2]) (rest := []) (k_X8_begin l E K H.size a5 a_1 a_2 q4 ha5.2 hq6) (gV m4_142 m4_143 m4_144 m1_9 m4_145) hd_X8_begin ⟨Nat.le_of_ble_eq_true rfl, Nat.le_of_ble_eq_true rfl, rfl, rfl⟩ ha5.1 ha5.2 rfl rfl rfl hl.1 rfl rc0 rfl dX5_read_23 ⟨Nat.zero_le _, Nat.zero_le _⟩ (fun H locs hH => ?_)
  refine lv_iconst (v := 0) hx hb dX5_read_26 (by decide) ?_
  refine lv_istore_n (i := 3) (lv' := [(3, .int 0), (0, rv E (some o)), (1, rv E a_1), (2, .int a_2)]) hx hb dX5_read_27 rfl hl (by decide) rfl (fun ls hl => ?_)
  refine l_X5_read_L28  C ho _ (fun v1_28 v2_28 v3_28 w7 H locs ls hH hl hf => ?_) fu a_1 a_2 0 q6 _ _ _ hH (lv_sub hl [2, 3, 0, 1] rfl) hf
  refine lv_iconst (v := 0) hx hb dX5_read_75 (by decide) ?_
  exact hw_zret hx hb hret rfl hf hH hlocks dX5_read_76

theorem dX12_parse_0 : decode cX12_parse 0 = .ok (.aload_n 0, 1) := by decide +kernel
theorem dX12_parse_1 : decode cX12_parse 1 = .ok (.getfield 19, 3) := by decide +kernel
theorem dX12_parse_4 : decode cX12_parse 4 = .ok (.aload_n 0, 1) := by decide +kernel
theorem dX12_parse_5 : decode cX12_parse 5 = .ok (.getfield 12, 3) := by decide +kernel
theorem dX12_parse_8 : decode cX12_parse 8 = .ok (.aload_n 0, 1) := by decide +kernel
theorem dX12_parse_9 : decode cX12_parse 9 = .ok (.getfield 70, 3) := by decide +kernel
theorem dX12_parse_12 : decode cX12_parse 12 = .ok (.invokevirtual 77, 3) := by decide +kernel
theorem dX12_parse_15 : decode cX12_parse 15 = .ok (.istore_n 1, 1) := by decide +kernel
theorem dX12_parse_16 : decode cX12_parse 16 = .ok (.aload_n 0, 1) := by decide +kernel
theorem dX12_parse_17 : decode cX12_parse 17 = .ok (.iconst 0, 1) := by decide +kernel
theorem dX12_parse_18 : decode cX12_parse 18 = .ok (.putfield 70, 3) := by decide +kernel
theorem dX12_parse_21 : decode cX12_parse 21 = .ok (.aload_n 0, 1) := by decide +kernel
theorem dX12_parse_22 : decode cX12_parse 22 = .ok (.aload_n 0, 1) := by decide +kernel
theorem dX12_parse_23 : decode cX12_parse 23 = .ok (.getfield 19, 3) := by decide +kernel
theorem dX12_parse_26 : decode cX12_parse 26 = .ok (.getfield 81, 3) := by decide +kernel
theorem dX12_parse_29 : decode cX12_parse 29 = .ok (.putfield 23, 3) := by decide +kernel
theorem dX12_parse_32 : decode cX12_parse 32 = .ok (.aload_n 0, 1) := by decide +kernel
theorem dX12_parse_33 : decode cX12_parse 33 = .ok (.aload_n 0, 1) := by decide +kernel
theorem dX12_parse_34 : decode cX12_parse 34 = .ok (.getfield 19, 3) := by decide +kernel
theorem dX12_parse_37 : decode cX12_parse 37 = .ok (.getfield 84, 3) := by decide +kernel
theorem dX12_parse_40 : decode cX12_parse 40 = .ok (.putfield 27, 3) := by decide +kernel
theorem dX12_parse_43 : decode cX12_parse 43 = .ok (.iload_n 1, 1) := by decide +kernel
theorem dX12_parse_44 : decode cX12_parse 44 = .ok (.ifCond .ne 5, 3) := by decide +kernel
theorem dX12_parse_47 : decode cX12_parse 47 = .ok (.iconst (-1), 1) := by decide +kernel
theorem dX12_parse_48 : decode cX12_parse 48 = .ok (.ireturn, 1) := by decide +kernel
theorem dX12_parse_49 : decode cX12_parse 49 = .ok (.aload_n 0, 1) := by decide +kernel
theorem dX12_parse_50 : decode cX12_parse 50 = .ok (.getfield 35, 3) := by decide +kernel
theorem dX12_parse_53 : decode cX12_parse 53 = .ok (.aload_n 0, 1) := by decide +kernel
theorem dX12_parse_54 : decode cX12_parse 54 = .ok (.getfield 19, 3) := by decide +kernel
theorem dX12_parse_57 : decode cX12_parse 57 = .ok (.aload_n 0, 1) := by decide +kernel
theorem dX12_parse_58 : decode cX12_parse 58 = .ok (.getfield 35, 3) := by decide +kernel
theorem dX12_parse_61 : decode cX12_parse 61 = .ok (.getfield 87, 3) := by decide +kernel
theorem dX12_parse_64 : decode cX12_parse 64 = .ok (.invokevirtual 91, 3) := by decide +kernel
theorem dX12_parse_67 : decode cX12_parse 67 = .ok (.invokevirtual 95, 3) := by decide +kernel
theorem dX12_parse_70 : decode cX12_parse 70 = .ok (.aload_n 0, 1) := by decide +kernel
theorem dX12_parse_71 : decode cX12_parse 71 = .ok (.iconst 0, 1) := by decide +kernel
theorem dX12_parse_72 : decode cX12_parse 72 = .ok (.putfield 98, 3) := by decide +kernel
theorem dX12_parse_75 : decode cX12_parse 75 = .ok (.aload_n 0, 1) := by decide +kernel
theorem dX12_parse_76 : decode cX12_parse 76 = .ok (.iconst 0, 1) := by decide +kernel
theorem dX12_parse_77 : decode cX12_parse 77 = .ok (.putfield 102, 3) := by decide +kernel
theorem dX12_parse_80 : decode cX12_parse 80 = .ok (.aload_n 0, 1) := by decide +kernel
theorem dX12_parse_81 : decode cX12_parse 81 = .ok (.getfield 35, 3) := by decide +kernel
theorem dX12_parse_84 : decode cX12_parse 84 = .ok (.getfield 87, 3) := by decide +kernel
theorem dX12_parse_87 : decode cX12_parse 87 = .ok (.iconst 3, 1) := by decide +kernel
theorem dX12_parse_88 : decode cX12_parse 88 = .ok (.invokevirtual 105, 3) := by decide +kernel
theorem dX12_parse_91 : decode cX12_parse 91 = .ok (.ireturn, 1) := by decide +kernel
theorem hd_X12_parse : yX12_parse.cls = RX12 ∧ yX12_parse.cls ≠ "java/lang/invoke/MethodHandle" ∧ yX12_parse.cls ≠ "java/lang/invoke/VarHandle" ∧ (parseMethodDescriptor yX12_parse.desc).map (fun d => d.parameters.length) = some 0 := by decide +kernel
theorem hs_X12_parse : yX12_parse.cls ≠ "java/lang/invoke/MethodHandle" ∧ yX12_parse.cls ≠ "java/lang/invoke/VarHandle" ∧ (parseMethodDescriptor yX12_parse.desc).map (fun d => d.parameters.length) = some 0 := by decide +kernel
set_option maxHeartbeats 4000000 in
set_option maxRecDepth 100000 in
theorem k_X12_parse (l : Launch) (E : Ev) (K : Kd) (z : Nat) (o : Nat) (w : Wd) (ho : K o = some (10, 0)) {r : Int32} {w' : Wd} (hf : f_X12_parse K o w = some (r, w')) : Met l yX12_parse (Cond.code yX12_parse cX12_parse 2 (Option.some Jvm.ClassFile.FieldType.int) :: bt) ({ frames := 7, cells := 0, slots := 0, locals := 150 } : Room) (va_Pc [rv E (some o)] (HB E K w z)) (QI E K z w' r) 0 0 (hA E) := by
  refine Met.ofW (cc := cX12_parse) (maxL := 2) (ret := (Option.some Jvm.ClassFile.FieldType.int)) (by decide) rfl ?_
  intro p e s m args below meth c s₁ B hml hv
  obtain ⟨rfl, hz, hP, hKs, hT, hb0⟩ := hv
  have C : CX p l e s m _ meth c cX12_parse 2 RX12 (Option.some Jvm.ClassFile.FieldType.int) E := ⟨B.exec, B.bytes, hml, findClass_of_methodNamed B.named, fun w h => atoms_spec (ws := Cond.code yX12_parse cX12_parse 2 (Option.some Jvm.ClassFile.FieldType.int) :: bt) B.pre w (List.mem_cons_of_mem _ h), hKs, hT, by rw [hz]; exact hb0, B.notSynchronized, B.returns⟩
  have hH : HQ E K z w s s.heap [] := ⟨hP, va_S.rf, hz⟩
  obtain ⟨hx, hb, hml, hown, hts, hKs, hT, hb0, hlocks, hret⟩ := id C
  have hl := lv_entry [rv E (some o)] (n := 2) (by simp [lg_len_nil, lg_len_i, lg_len_j, lg_len_q, lg_len_f, lg_len_d, lg_len_r])
  rw [lg_entry_eq]
  generalize (lg_sl [rv E (some o)] ++ List.replicate (2 - (lg_sl [rv E (some o)]).length) Slot.unset).toArray = ls at hl ⊢
  replace hl : lv_has ls 2 [(0, rv E (some o))] := by simpa only [lv_args, cat_q, cat_i, cat_j, reduceIte, Nat.reduceEqDiff, Nat.reduceAdd, Nat.zero_add] using hl
  generalize s.heap = H at hH ⊢
  unfold f_X12_parse at hf
  refine hl_aload_n hx hb dX12_parse_0 rfl (lv_at hl 0 rfl) ?_
  refine g12_2 hx hb hts hown hKs hH rfl ho m2_211 dX12_parse_1 ?_
  refine hl_aload_n hx hb dX12_parse_4 rfl (lv_at hl 0 rfl) ?_
  refine g12_0 hx hb hts hown hKs hH rfl ho m2_209 dX12_parse_5 ?_
  refine hl_aload_n hx hb dX12_parse_8 rfl (lv_at hl 0 rfl) ?_
  refine g12_1 hx hb hts hown hKs hH rfl ho m2_210 dX12_parse_9 ?_
  obtain ⟨a1, ha1, hf⟩ := bnd hf
  replace ha1 := chk_some ha1
  obtain ⟨q2, hq2, hf⟩ := bnd hf
  refine hcV_i hx hb hml hown hts hKs hT hb0 hH (As := [rv E (wR w 1200 o), .int ((wI w 1201 o))]) (rest := []) (k_X5_read l E K H.size a1 (wR w 1200 o) (wI w 1201 o) w ha1.2 hq2) (gV m4_137 m4_138 m4_139 m1_8 m4_140) hd_X5_read ⟨Nat.le_of_ble_eq_true rfl, Nat.le_of_ble_eq_true rfl, rfl, rfl⟩ ha1.1 ha1.2 rfl rfl rfl hl.1 rfl rc0 rfl dX12_parse_12 ⟨Nat.zero_le _, Nat.zero_le _⟩ (fun H locs hH => ?_)
  refine lv_istore_n (i := 1) (lv' := [(1, .int (b2i q2.1)), (0, rv E (some o))]) hx hb dX12_parse_15 rfl hl (by decide) rfl (fun ls hl => ?_)
  refine hl_aload_n hx hb dX12_parse_16 rfl (lv_at hl 1 rfl) ?_
  refine lv_iconst (v := 0) hx hb dX12_parse_17 (by decide) ?_
  obtain ⟨w3, hw3, hf⟩ := bnd hf
  replace hw3 := Option.some.inj hw3
  refine p12_1 (v := 0) hx hb hts hown hKs hH rfl ho m2_210 dX12_parse_18 (fun H locs hH => ?_)
  rw [hw3] at hH
  refine hl_aload_n hx hb dX12_parse_21 rfl (lv_at hl 1 rfl) ?_
  refine hl_aload_n hx hb dX12_parse_22 rfl (lv_at hl 1 rfl) ?_
  refine g12_2 hx hb hts hown hKs hH rfl ho m2_211 dX12_parse_23 ?_
  obtain ⟨a4, ha4, hf⟩ := bnd hf
  replace ha4 := chk_some ha4
  refine gn5_2 hx hb hts hown hKs hH ha4.1 ha4.2 m2_27 dX12_parse_26 ?_
  obtain ⟨w5, hw5, hf⟩ := bnd hf
  replace hw5 := Option.some.inj hw5
  refine p12_3 (v := (wI w3 502 a4)) hx hb hts hown hKs hH rfl ho m2_212 dX12_parse_29 (fun H locs hH => ?_)
  rw [hw5] at hH
  refine hl_aload_n hx hb dX12_parse_32 rfl (lv_at hl 1 rfl) ?_
  refine hl_aload_n hx hb dX12_parse_33 rfl (lv_at hl 1 rfl) ?_
  refine g12_2 hx hb hts hown hKs hH rfl ho m2_211 dX12_parse_34 ?_
  obtain ⟨a6, ha6, hf⟩ := bnd hf
  replace ha6 := chk_some ha6
  refine gn5_3 hx hb hts hown hKs hH ha6.1 ha6.2 m2_29 dX12_parse_37 ?_
  obtain ⟨w7, hw7, hf⟩ := bnd hf
  replace hw7 := Option.some.inj hw7
  refine p12_4 (v := (wI w5 503 a6)) hx hb hts hown hKs hH rfl ho m2_213 dX12_parse_40 (fun H locs hH => ?_)
  rw [hw7] at hH
  refine lv_iload_n hx hb dX12_parse_43 rfl (lv_at hl 0 rfl) ?_
  refine lv_if_ne (tgt := 49) hx hb dX12_parse_44 (by decide) (fun c8 => ?_) (fun c8 => ?_)
  · replace hf := (if_neg c8).symm.trans hf
    refine hl_aload_n hx hb dX12_parse_49 rfl (lv_at hl 1 rfl) ?_
    refine g12_5 hx hb hts hown hKs hH rfl ho m2_214 dX12_parse_50 ?_
    refine hl_aload_n hx hb dX12_parse_53 rfl (lv_at hl 1 rfl) ?_
    refine g12_2 hx hb hts hown hKs hH rfl ho m2_211 dX12_parse_54 ?_
    refine hl_aload_n hx hb dX12_parse_57 rfl (lv_at hl 1 rfl) ?_
    refine g12_5 hx hb hts hown hKs hH rfl ho m2_214 dX12_parse_58 ?_
    obtain ⟨a9, ha9, hf⟩ := bnd hf
    replace ha9 := chk_some ha9
    refine gn10_0 hx hb hts hown hKs hH ha9.1 ha9.2 m2_115 dX12_parse_61 ?_
    obtain ⟨a10, ha10, hf⟩ := bnd hf
    replace ha10 := chk_some ha10
    obtain ⟨q11, hq11, hf⟩ := bnd hf
    refine hcV_q hx hb hml hown hts hKs hT hb0 hH (As := [rv E (wR w7 1000 a9)]) (rest := [rv E (wR w7 1205 o)]) (k_X5_exchange l E K H.size a10 (wR w7 1000 a9) w7 ha10.2 hq11) (gV m5_54 m5_55 m5_56 m1_8 m5_57) hd_X5_exchange ⟨Nat.le_of_ble_eq_true rfl, Nat.le_of_ble_eq_true rfl, rfl, rfl⟩ ha10.1 ha10.2 rfl rfl rfl hl.1 rfl (rcV rc0) rfl dX12_parse_64 ⟨Nat.zero_le _, Nat.zero_le _⟩ (fun H locs hH => ?_)
    obtain ⟨q12, hq12, hf⟩ := bnd hf
    refine hcV_v hx hb hml hown hts hKs hT hb0 hH (As := [rv E q11.1]) (rest := []) (k_X10_begin l E K H.size a9 q11.1 q11.2 ha9.2 hq12) (gV m5_58 m5_59 m5_60 m1_12 m5_61) hd_X10_begin ⟨Nat.le_of_ble_eq_true rfl, Nat.le_of_ble_eq_true rfl, rfl, rfl⟩ ha9.1 ha9.2 rfl rfl rfl hl.1 rfl rc0 rfl dX12_parse_67 ⟨Nat.zero_le _, Nat.zero_le _⟩ (fun H locs hH => ?_)
    refine hl_aload_n hx hb dX12_parse_70 rfl (lv_at hl 1 rfl) ?_
    refine lv_iconst (v := 0) hx hb dX12_parse_71 (by decide) ?_
    obtain ⟨w13, hw13, hf⟩ := bnd hf
    replace hw13 := Option.some.inj hw13
    refine p12_7 (v := false) hx hb hts hown hKs hH rfl ho m2_216 dX12_parse_72 (fun H locs hH => ?_)
    rw [hw13] at hH
    refine hl_aload_n hx hb dX12_parse_75 rfl (lv_at hl 1 rfl) ?_
    refine lv_iconst (v := 0) hx hb dX12_parse_76 (by decide) ?_
    obtain ⟨w14, hw14, hf⟩ := bnd hf
    replace hw14 := Option.some.inj hw14
    refine p12_10 (v := 0) hx hb hts hown hKs hH rfl ho m2_219 dX12_parse_77 (fun H locs hH => ?_)
    rw [hw14] at hH
    refine hl_aload_n hx hb dX12_parse_80 rfl (lv_at hl 1 rfl) ?_
    refine g12_5 hx hb hts hown hKs hH rfl ho m2_214 dX12_parse_81 ?_
    obtain ⟨a15, ha15, hf⟩ := bnd hf
    replace ha15 := chk_some ha15
    refine gn10_0 hx hb hts hown hKs hH ha15.1 ha15.2 m2_115 dX12_parse_84 ?_
    refine lv_iconst (v := 3) hx hb dX12_parse_87 (by decide) ?_
    obtain ⟨a16, ha16, hf⟩ := bnd hf
    replace ha16 := chk_some ha16
    obtain ⟨q17, hq17, hf⟩ := bnd hf
    refine hcV_i hx hb hml hown hts hKs hT hb0 hH (As := [.int 3]) (rest := []) (k_X9_size l E K H.size a16 3 w14 ha16.2 hq17) (gV m3_21 m3_22 m3_23 m1_2 m3_24) hd_X9_size ⟨Nat.le_of_ble_eq_true rfl, Nat.le_of_ble_eq_true rfl, rfl, rfl⟩ ha16.1 ha16.2 rfl rfl rfl hl.1 rfl rc0 rfl dX12_parse_88 ⟨Nat.zero_le _, Nat.zero_le _⟩ (fun H locs hH => ?_)
    exact hw_iret hx hb hret hf hH hlocks dX12_parse_91
  · replace hf := (if_pos c8).symm.trans hf
    refine lv_iconst (v := (-1)) hx hb dX12_parse_47 (by decide) ?_
    exact hw_iret hx hb hret hf hH hlocks dX12_parse_48

theorem dL_parsed_0 : decode cL_parsed 0 = .ok (.aload_n 0, 1) := by decide +kernel
theorem dL_parsed_1 : decode cL_parsed 1 = .ok (.aload_n 1, 1) := by decide +kernel
theorem dL_parsed_2 : decode cL_parsed 2 = .ok (.invokestatic 35, 3) := by decide +kernel
theorem dL_parsed_5 : decode cL_parsed 5 = .ok (.aload_n 0, 1) := by decide +kernel
theorem dL_parsed_6 : decode cL_parsed 6 = .ok (.invokevirtual 38, 3) := by decide +kernel
theorem dL_parsed_9 : decode cL_parsed 9 = .ok (.ireturn, 1) := by decide +kernel
theorem hs_L_parsed : yL_parsed.cls ≠ "java/lang/invoke/MethodHandle" ∧ yL_parsed.cls ≠ "java/lang/invoke/VarHandle" ∧ (parseMethodDescriptor yL_parsed.desc).map (fun d => d.parameters.length) = some 2 := by decide +kernel
set_option maxHeartbeats 4000000 in
set_option maxRecDepth 100000 in
theorem k_L_parsed (l : Launch) (E : Ev) (K : Kd) (n : Nat) (a_0 : Option Nat) (a_1 : Option Nat) (w : Wd) {r : Int32} {w' : Wd} (hf : f_L_parsed K n a_0 a_1 w = some (r, w')) : Met l yL_parsed (Cond.code yL_parsed cL_parsed 2 (Option.some Jvm.ClassFile.FieldType.int) :: bt) ({ frames := 8, cells := 60, slots := 360, locals := 171 } : Room) (va_Pc [rv E a_0, rv E a_1] (HB E K w (E.2.1 + n))) (QW E K w' r) 60 360 (hA E) := by
  refine Met.ofW (cc := cL_parsed) (maxL := 2) (ret := (Option.some Jvm.ClassFile.FieldType.int)) (by decide) rfl ?_
  intro p e s m args below meth c s₁ B hml hv
  obtain ⟨rfl, hz, hP, hKs, hT, hb0⟩ := hv
  have C : CX p l e s m _ meth c cL_parsed 2 RL (Option.some Jvm.ClassFile.FieldType.int) E := ⟨B.exec, B.bytes, hml, findClass_of_methodNamed B.named, fun w h => atoms_spec (ws := Cond.code yL_parsed cL_parsed 2 (Option.some Jvm.ClassFile.FieldType.int) :: bt) B.pre w (List.mem_cons_of_mem _ h), hKs, hT, by rw [hz]; exact hb0, B.notSynchronized, B.returns⟩
  have hH : HQ E K (E.2.1 + n) w s s.heap [] := ⟨hP, va_S.rf, hz⟩
  obtain ⟨hx, hb, hml, hown, hts, hKs, hT, hb0, hlocks, hret⟩ := id C
  have hl := lv_entry [rv E a_0, rv E a_1] (n := 2) (by simp [lg_len_nil, lg_len_i, lg_len_j, lg_len_q, lg_len_f, lg_len_d, lg_len_r])
  rw [lg_entry_eq]
  generalize (lg_sl [rv E a_0, rv E a_1] ++ List.replicate (2 - (lg_sl [rv E a_0, rv E a_1]).length) Slot.unset).toArray = ls at hl ⊢
  replace hl : lv_has ls 2 [(0, rv E a_0), (1, rv E a_1)] := by simpa only [lv_args, cat_q, cat_i, cat_j, reduceIte, Nat.reduceEqDiff, Nat.reduceAdd, Nat.zero_add] using hl
  generalize s.heap = H at hH ⊢
  unfold f_L_parsed at hf
  refine hl_aload_n hx hb dL_parsed_0 rfl (lv_at hl 0 rfl) ?_
  refine hl_aload_n hx hb dL_parsed_1 rfl (lv_at hl 1 rfl) ?_
  obtain ⟨q1, hq1, hf⟩ := bnd hf
  refine hcWv hH (va_runS (As := [rv E a_0, rv E a_1]) (rest := []) ⟨hx, hb, hml, hown, hts⟩ (k_L_feed l E K n a_0 a_1 w  hq1) (va_cwS _ hts (gS m4_70 m4_71 m1_0 m4_72) rfl rfl rfl hs_L_feed ⟨Nat.le_of_ble_eq_true rfl, Nat.le_of_ble_eq_true rfl⟩) ⟨HB.blind, HB.preN hKs hT hb0 hH⟩ rfl rfl hl.1 rfl (lv_room rc0) dL_parsed_2 ⟨Nat.le_of_ble_eq_true rfl, Nat.le_of_ble_eq_true rfl⟩) (fun H locs z1 hH => ?_)
  refine hl_aload_n hx hb dL_parsed_5 rfl (lv_at hl 0 rfl) ?_
  obtain ⟨a2, ha2, hf⟩ := bnd hf
  replace ha2 := chk_some ha2
  obtain ⟨q3, hq3, hf⟩ := bnd hf
  refine hcV_i hx hb hml hown hts hKs hT hb0 hH (As := []) (rest := []) (k_X12_parse l E K H.size a2 q1 ha2.2 hq3) (gV m4_133 m4_134 m4_135 m1_1 m4_136) hd_X12_parse ⟨Nat.le_of_ble_eq_true rfl, Nat.le_of_ble_eq_true rfl, rfl, rfl⟩ ha2.1 ha2.2 rfl rfl rfl hl.1 rfl rc0 rfl dL_parsed_6 ⟨Nat.le_of_ble_eq_true rfl, Nat.le_of_ble_eq_true rfl⟩ (fun H locs hH => ?_)
  exact hw_wret hx hb (Nat.le_of_ble_eq_true rfl) (Nat.le_of_ble_eq_true rfl) hret hf hH hlocks dL_parsed_9
end
